/-! decode rows (by program) -/
theorem d_W_init_0 : decode c_W_init 0 = .ok (.aload_n 0, 1) := by decide +kernel
theorem d_W_init_1 : decode c_W_init 1 = .ok (.invokespecial 1, 3) := by decide +kernel
theorem d_W_init_4 : decode c_W_init 4 = .ok (.aload_n 0, 1) := by decide +kernel
theorem d_W_init_5 : decode c_W_init 5 = .ok (.new 7, 3) := by decide +kernel
theorem d_W_init_8 : decode c_W_init 8 = .ok (.dup, 1) := by decide +kernel
theorem d_W_init_9 : decode c_W_init 9 = .ok (.invokespecial 9, 3) := by decide +kernel
theorem d_W_init_12 : decode c_W_init 12 = .ok (.putfield 10, 3) := by decide +kernel
theorem d_W_init_15 : decode c_W_init 15 = .ok (.aload_n 0, 1) := by decide +kernel
theorem d_W_init_16 : decode c_W_init 16 = .ok (.new 16, 3) := by decide +kernel
theorem d_W_init_19 : decode c_W_init 19 = .ok (.dup, 1) := by decide +kernel
theorem d_W_init_20 : decode c_W_init 20 = .ok (.invokespecial 18, 3) := by decide +kernel
theorem d_W_init_23 : decode c_W_init 23 = .ok (.putfield 19, 3) := by decide +kernel
theorem d_W_init_26 : decode c_W_init 26 = .ok (.aload_n 0, 1) := by decide +kernel
theorem d_W_init_27 : decode c_W_init 27 = .ok (.new 23, 3) := by decide +kernel
theorem d_W_init_30 : decode c_W_init 30 = .ok (.dup, 1) := by decide +kernel
theorem d_W_init_31 : decode c_W_init 31 = .ok (.invokespecial 25, 3) := by decide +kernel
theorem d_W_init_34 : decode c_W_init 34 = .ok (.putfield 26, 3) := by decide +kernel
theorem d_W_init_37 : decode c_W_init 37 = .ok (.aload_n 0, 1) := by decide +kernel
theorem d_W_init_38 : decode c_W_init 38 = .ok (.new 30, 3) := by decide +kernel
theorem d_W_init_41 : decode c_W_init 41 = .ok (.dup, 1) := by decide +kernel
theorem d_W_init_42 : decode c_W_init 42 = .ok (.aload_n 0, 1) := by decide +kernel
theorem d_W_init_43 : decode c_W_init 43 = .ok (.getfield 26, 3) := by decide +kernel
theorem d_W_init_46 : decode c_W_init 46 = .ok (.invokespecial 32, 3) := by decide +kernel
theorem d_W_init_49 : decode c_W_init 49 = .ok (.putfield 35, 3) := by decide +kernel
theorem d_W_init_52 : decode c_W_init 52 = .ok (.aload_n 0, 1) := by decide +kernel
theorem d_W_init_53 : decode c_W_init 53 = .ok (.new 39, 3) := by decide +kernel
theorem d_W_init_56 : decode c_W_init 56 = .ok (.dup, 1) := by decide +kernel
theorem d_W_init_57 : decode c_W_init 57 = .ok (.aload_n 0, 1) := by decide +kernel
theorem d_W_init_58 : decode c_W_init 58 = .ok (.getfield 35, 3) := by decide +kernel
theorem d_W_init_61 : decode c_W_init 61 = .ok (.invokespecial 41, 3) := by decide +kernel
theorem d_W_init_64 : decode c_W_init 64 = .ok (.putfield 44, 3) := by decide +kernel
theorem d_W_init_67 : decode c_W_init 67 = .ok (.aload_n 0, 1) := by decide +kernel
theorem d_W_init_68 : decode c_W_init 68 = .ok (.new 48, 3) := by decide +kernel
theorem d_W_init_71 : decode c_W_init 71 = .ok (.dup, 1) := by decide +kernel
theorem d_W_init_72 : decode c_W_init 72 = .ok (.aload_n 0, 1) := by decide +kernel
theorem d_W_init_73 : decode c_W_init 73 = .ok (.getfield 35, 3) := by decide +kernel
theorem d_W_init_76 : decode c_W_init 76 = .ok (.invokespecial 50, 3) := by decide +kernel
theorem d_W_init_79 : decode c_W_init 79 = .ok (.putfield 51, 3) := by decide +kernel
theorem d_W_init_82 : decode c_W_init 82 = .ok (.aload_n 0, 1) := by decide +kernel
theorem d_W_init_83 : decode c_W_init 83 = .ok (.new 55, 3) := by decide +kernel
theorem d_W_init_86 : decode c_W_init 86 = .ok (.dup, 1) := by decide +kernel
theorem d_W_init_87 : decode c_W_init 87 = .ok (.aload_n 0, 1) := by decide +kernel
theorem d_W_init_88 : decode c_W_init 88 = .ok (.getfield 26, 3) := by decide +kernel
theorem d_W_init_91 : decode c_W_init 91 = .ok (.invokespecial 57, 3) := by decide +kernel
theorem d_W_init_94 : decode c_W_init 94 = .ok (.putfield 58, 3) := by decide +kernel
theorem d_W_init_97 : decode c_W_init 97 = .ok (.aload_n 0, 1) := by decide +kernel
theorem d_W_init_98 : decode c_W_init 98 = .ok (.new 62, 3) := by decide +kernel
theorem d_W_init_101 : decode c_W_init 101 = .ok (.dup, 1) := by decide +kernel
theorem d_W_init_102 : decode c_W_init 102 = .ok (.aload_n 0, 1) := by decide +kernel
theorem d_W_init_103 : decode c_W_init 103 = .ok (.getfield 26, 3) := by decide +kernel
theorem d_W_init_106 : decode c_W_init 106 = .ok (.aload_n 0, 1) := by decide +kernel
theorem d_W_init_107 : decode c_W_init 107 = .ok (.getfield 35, 3) := by decide +kernel
theorem d_W_init_110 : decode c_W_init 110 = .ok (.invokespecial 64, 3) := by decide +kernel
theorem d_W_init_113 : decode c_W_init 113 = .ok (.putfield 67, 3) := by decide +kernel
theorem d_W_init_116 : decode c_W_init 116 = .ok (.return_, 1) := by decide +kernel
theorem d_W_row_0 : decode c_W_row 0 = .ok (.iload_n 1, 1) := by decide +kernel
theorem d_W_row_1 : decode c_W_row 1 = .ok (.invokestatic 71, 3) := by decide +kernel
theorem d_W_row_4 : decode c_W_row 4 = .ok (.ifCond .eq 9, 3) := by decide +kernel
theorem d_W_row_7 : decode c_W_row 7 = .ok (.iload_n 2, 1) := by decide +kernel
theorem d_W_row_8 : decode c_W_row 8 = .ok (.bipush 40, 2) := by decide +kernel
theorem d_W_row_10 : decode c_W_row 10 = .ok (.if_icmp .le 5, 3) := by decide +kernel
theorem d_W_row_13 : decode c_W_row 13 = .ok (.iconst (-1), 1) := by decide +kernel
theorem d_W_row_14 : decode c_W_row 14 = .ok (.ireturn, 1) := by decide +kernel
theorem d_W_row_15 : decode c_W_row 15 = .ok (.iload_n 2, 1) := by decide +kernel
theorem d_W_row_16 : decode c_W_row 16 = .ok (.ifCond .ge 12, 3) := by decide +kernel
theorem d_W_row_19 : decode c_W_row 19 = .ok (.aload_n 0, 1) := by decide +kernel
theorem d_W_row_20 : decode c_W_row 20 = .ok (.getfield 10, 3) := by decide +kernel
theorem d_W_row_23 : decode c_W_row 23 = .ok (.iconst 5, 1) := by decide +kernel
theorem d_W_row_24 : decode c_W_row 24 = .ok (.invokevirtual 75, 3) := by decide +kernel
theorem d_W_row_27 : decode c_W_row 27 = .ok (.ireturn, 1) := by decide +kernel
theorem d_W_row_28 : decode c_W_row 28 = .ok (.aload_n 0, 1) := by decide +kernel
theorem d_W_row_29 : decode c_W_row 29 = .ok (.getfield 19, 3) := by decide +kernel
theorem d_W_row_32 : decode c_W_row 32 = .ok (.iload_n 1, 1) := by decide +kernel
theorem d_W_row_33 : decode c_W_row 33 = .ok (.iload_n 2, 1) := by decide +kernel
theorem d_W_row_34 : decode c_W_row 34 = .ok (.invokevirtual 79, 3) := by decide +kernel
theorem d_W_row_37 : decode c_W_row 37 = .ok (.iload_n 2, 1) := by decide +kernel
theorem d_W_row_38 : decode c_W_row 38 = .ok (.ireturn, 1) := by decide +kernel
theorem d_W_lay_0 : decode c_W_lay 0 = .ok (.iload_n 1, 1) := by decide +kernel
theorem d_W_lay_1 : decode c_W_lay 1 = .ok (.invokestatic 71, 3) := by decide +kernel
theorem d_W_lay_4 : decode c_W_lay 4 = .ok (.ifCond .ne 5, 3) := by decide +kernel
theorem d_W_lay_7 : decode c_W_lay 7 = .ok (.iconst (-1), 1) := by decide +kernel
theorem d_W_lay_8 : decode c_W_lay 8 = .ok (.ireturn, 1) := by decide +kernel
theorem d_W_lay_9 : decode c_W_lay 9 = .ok (.aload_n 0, 1) := by decide +kernel
theorem d_W_lay_10 : decode c_W_lay 10 = .ok (.getfield 19, 3) := by decide +kernel
theorem d_W_lay_13 : decode c_W_lay 13 = .ok (.iload_n 1, 1) := by decide +kernel
theorem d_W_lay_14 : decode c_W_lay 14 = .ok (.invokevirtual 83, 3) := by decide +kernel
theorem d_W_lay_17 : decode c_W_lay 17 = .ok (.ifCond .eq 12, 3) := by decide +kernel
theorem d_W_lay_20 : decode c_W_lay 20 = .ok (.aload_n 0, 1) := by decide +kernel
theorem d_W_lay_21 : decode c_W_lay 21 = .ok (.getfield 10, 3) := by decide +kernel
theorem d_W_lay_24 : decode c_W_lay 24 = .ok (.iconst 1, 1) := by decide +kernel
theorem d_W_lay_25 : decode c_W_lay 25 = .ok (.invokevirtual 75, 3) := by decide +kernel
theorem d_W_lay_28 : decode c_W_lay 28 = .ok (.ireturn, 1) := by decide +kernel
theorem d_W_lay_29 : decode c_W_lay 29 = .ok (.iload_n 2, 1) := by decide +kernel
theorem d_W_lay_30 : decode c_W_lay 30 = .ok (.ifCond .lt 15, 3) := by decide +kernel
theorem d_W_lay_33 : decode c_W_lay 33 = .ok (.iload_n 2, 1) := by decide +kernel
theorem d_W_lay_34 : decode c_W_lay 34 = .ok (.aload_n 0, 1) := by decide +kernel
theorem d_W_lay_35 : decode c_W_lay 35 = .ok (.getfield 19, 3) := by decide +kernel
theorem d_W_lay_38 : decode c_W_lay 38 = .ok (.iload_n 1, 1) := by decide +kernel
theorem d_W_lay_39 : decode c_W_lay 39 = .ok (.invokevirtual 86, 3) := by decide +kernel
theorem d_W_lay_42 : decode c_W_lay 42 = .ok (.if_icmp .lt 12, 3) := by decide +kernel
theorem d_W_lay_45 : decode c_W_lay 45 = .ok (.aload_n 0, 1) := by decide +kernel
theorem d_W_lay_46 : decode c_W_lay 46 = .ok (.getfield 10, 3) := by decide +kernel
theorem d_W_lay_49 : decode c_W_lay 49 = .ok (.iconst 2, 1) := by decide +kernel
theorem d_W_lay_50 : decode c_W_lay 50 = .ok (.invokevirtual 75, 3) := by decide +kernel
theorem d_W_lay_53 : decode c_W_lay 53 = .ok (.ireturn, 1) := by decide +kernel
theorem d_W_lay_54 : decode c_W_lay 54 = .ok (.aload_n 0, 1) := by decide +kernel
theorem d_W_lay_55 : decode c_W_lay 55 = .ok (.getfield 19, 3) := by decide +kernel
theorem d_W_lay_58 : decode c_W_lay 58 = .ok (.iload_n 1, 1) := by decide +kernel
theorem d_W_lay_59 : decode c_W_lay 59 = .ok (.iload_n 2, 1) := by decide +kernel
theorem d_W_lay_60 : decode c_W_lay 60 = .ok (.invokevirtual 89, 3) := by decide +kernel
theorem d_W_lay_63 : decode c_W_lay 63 = .ok (.istore 4, 2) := by decide +kernel
theorem d_W_lay_65 : decode c_W_lay 65 = .ok (.aload_n 0, 1) := by decide +kernel
theorem d_W_lay_66 : decode c_W_lay 66 = .ok (.getfield 19, 3) := by decide +kernel
theorem d_W_lay_69 : decode c_W_lay 69 = .ok (.iload_n 1, 1) := by decide +kernel
theorem d_W_lay_70 : decode c_W_lay 70 = .ok (.iload_n 2, 1) := by decide +kernel
theorem d_W_lay_71 : decode c_W_lay 71 = .ok (.iload_n 3, 1) := by decide +kernel
theorem d_W_lay_72 : decode c_W_lay 72 = .ok (.invokevirtual 93, 3) := by decide +kernel
theorem d_W_lay_75 : decode c_W_lay 75 = .ok (.iload 4, 2) := by decide +kernel
theorem d_W_lay_77 : decode c_W_lay 77 = .ok (.sipush 1000, 3) := by decide +kernel
theorem d_W_lay_80 : decode c_W_lay 80 = .ok (.iadd, 1) := by decide +kernel
theorem d_W_lay_81 : decode c_W_lay 81 = .ok (.ireturn, 1) := by decide +kernel
theorem d_W_tear_0 : decode c_W_tear 0 = .ok (.iload_n 1, 1) := by decide +kernel
theorem d_W_tear_1 : decode c_W_tear 1 = .ok (.invokestatic 71, 3) := by decide +kernel
theorem d_W_tear_4 : decode c_W_tear 4 = .ok (.ifCond .ne 5, 3) := by decide +kernel
theorem d_W_tear_7 : decode c_W_tear 7 = .ok (.iconst (-1), 1) := by decide +kernel
theorem d_W_tear_8 : decode c_W_tear 8 = .ok (.ireturn, 1) := by decide +kernel
theorem d_W_tear_9 : decode c_W_tear 9 = .ok (.aload_n 0, 1) := by decide +kernel
theorem d_W_tear_10 : decode c_W_tear 10 = .ok (.getfield 19, 3) := by decide +kernel
theorem d_W_tear_13 : decode c_W_tear 13 = .ok (.iload_n 1, 1) := by decide +kernel
theorem d_W_tear_14 : decode c_W_tear 14 = .ok (.invokevirtual 83, 3) := by decide +kernel
theorem d_W_tear_17 : decode c_W_tear 17 = .ok (.ifCond .eq 12, 3) := by decide +kernel
theorem d_W_tear_20 : decode c_W_tear 20 = .ok (.aload_n 0, 1) := by decide +kernel
theorem d_W_tear_21 : decode c_W_tear 21 = .ok (.getfield 10, 3) := by decide +kernel
theorem d_W_tear_24 : decode c_W_tear 24 = .ok (.iconst 1, 1) := by decide +kernel
theorem d_W_tear_25 : decode c_W_tear 25 = .ok (.invokevirtual 75, 3) := by decide +kernel
theorem d_W_tear_28 : decode c_W_tear 28 = .ok (.ireturn, 1) := by decide +kernel
theorem d_W_tear_29 : decode c_W_tear 29 = .ok (.aload_n 0, 1) := by decide +kernel
theorem d_W_tear_30 : decode c_W_tear 30 = .ok (.getfield 19, 3) := by decide +kernel
theorem d_W_tear_33 : decode c_W_tear 33 = .ok (.iload_n 1, 1) := by decide +kernel
theorem d_W_tear_34 : decode c_W_tear 34 = .ok (.invokevirtual 97, 3) := by decide +kernel
theorem d_W_tear_37 : decode c_W_tear 37 = .ok (.iconst 1, 1) := by decide +kernel
theorem d_W_tear_38 : decode c_W_tear 38 = .ok (.ireturn, 1) := by decide +kernel
theorem d_W_copy_0 : decode c_W_copy 0 = .ok (.iload_n 1, 1) := by decide +kernel
theorem d_W_copy_1 : decode c_W_copy 1 = .ok (.invokestatic 71, 3) := by decide +kernel
theorem d_W_copy_4 : decode c_W_copy 4 = .ok (.ifCond .eq 10, 3) := by decide +kernel
theorem d_W_copy_7 : decode c_W_copy 7 = .ok (.iload_n 3, 1) := by decide +kernel
theorem d_W_copy_8 : decode c_W_copy 8 = .ok (.invokestatic 71, 3) := by decide +kernel
theorem d_W_copy_11 : decode c_W_copy 11 = .ok (.ifCond .ne 5, 3) := by decide +kernel
theorem d_W_copy_14 : decode c_W_copy 14 = .ok (.iconst (-1), 1) := by decide +kernel
theorem d_W_copy_15 : decode c_W_copy 15 = .ok (.ireturn, 1) := by decide +kernel
theorem d_W_copy_16 : decode c_W_copy 16 = .ok (.aload_n 0, 1) := by decide +kernel
theorem d_W_copy_17 : decode c_W_copy 17 = .ok (.getfield 19, 3) := by decide +kernel
theorem d_W_copy_20 : decode c_W_copy 20 = .ok (.iload_n 1, 1) := by decide +kernel
theorem d_W_copy_21 : decode c_W_copy 21 = .ok (.invokevirtual 83, 3) := by decide +kernel
theorem d_W_copy_24 : decode c_W_copy 24 = .ok (.ifCond .ne 14, 3) := by decide +kernel
theorem d_W_copy_27 : decode c_W_copy 27 = .ok (.aload_n 0, 1) := by decide +kernel
theorem d_W_copy_28 : decode c_W_copy 28 = .ok (.getfield 19, 3) := by decide +kernel
theorem d_W_copy_31 : decode c_W_copy 31 = .ok (.iload_n 3, 1) := by decide +kernel
theorem d_W_copy_32 : decode c_W_copy 32 = .ok (.invokevirtual 83, 3) := by decide +kernel
theorem d_W_copy_35 : decode c_W_copy 35 = .ok (.ifCond .eq 12, 3) := by decide +kernel
theorem d_W_copy_38 : decode c_W_copy 38 = .ok (.aload_n 0, 1) := by decide +kernel
theorem d_W_copy_39 : decode c_W_copy 39 = .ok (.getfield 10, 3) := by decide +kernel
theorem d_W_copy_42 : decode c_W_copy 42 = .ok (.iconst 1, 1) := by decide +kernel
theorem d_W_copy_43 : decode c_W_copy 43 = .ok (.invokevirtual 75, 3) := by decide +kernel
theorem d_W_copy_46 : decode c_W_copy 46 = .ok (.ireturn, 1) := by decide +kernel
theorem d_W_copy_47 : decode c_W_copy 47 = .ok (.aload_n 0, 1) := by decide +kernel
theorem d_W_copy_48 : decode c_W_copy 48 = .ok (.getfield 19, 3) := by decide +kernel
theorem d_W_copy_51 : decode c_W_copy 51 = .ok (.iload_n 1, 1) := by decide +kernel
theorem d_W_copy_52 : decode c_W_copy 52 = .ok (.iload_n 2, 1) := by decide +kernel
theorem d_W_copy_53 : decode c_W_copy 53 = .ok (.iload 5, 2) := by decide +kernel
theorem d_W_copy_55 : decode c_W_copy 55 = .ok (.invokevirtual 101, 3) := by decide +kernel
theorem d_W_copy_58 : decode c_W_copy 58 = .ok (.ifCond .eq 18, 3) := by decide +kernel
theorem d_W_copy_61 : decode c_W_copy 61 = .ok (.aload_n 0, 1) := by decide +kernel
theorem d_W_copy_62 : decode c_W_copy 62 = .ok (.getfield 19, 3) := by decide +kernel
theorem d_W_copy_65 : decode c_W_copy 65 = .ok (.iload_n 3, 1) := by decide +kernel
theorem d_W_copy_66 : decode c_W_copy 66 = .ok (.iload 4, 2) := by decide +kernel
theorem d_W_copy_68 : decode c_W_copy 68 = .ok (.iload 5, 2) := by decide +kernel
theorem d_W_copy_70 : decode c_W_copy 70 = .ok (.invokevirtual 101, 3) := by decide +kernel
theorem d_W_copy_73 : decode c_W_copy 73 = .ok (.ifCond .ne 12, 3) := by decide +kernel
theorem d_W_copy_76 : decode c_W_copy 76 = .ok (.aload_n 0, 1) := by decide +kernel
theorem d_W_copy_77 : decode c_W_copy 77 = .ok (.getfield 10, 3) := by decide +kernel
theorem d_W_copy_80 : decode c_W_copy 80 = .ok (.iconst 2, 1) := by decide +kernel
theorem d_W_copy_81 : decode c_W_copy 81 = .ok (.invokevirtual 75, 3) := by decide +kernel
theorem d_W_copy_84 : decode c_W_copy 84 = .ok (.ireturn, 1) := by decide +kernel
theorem d_W_copy_85 : decode c_W_copy 85 = .ok (.aload_n 0, 1) := by decide +kernel
theorem d_W_copy_86 : decode c_W_copy 86 = .ok (.getfield 19, 3) := by decide +kernel
theorem d_W_copy_89 : decode c_W_copy 89 = .ok (.iload_n 1, 1) := by decide +kernel
theorem d_W_copy_90 : decode c_W_copy 90 = .ok (.iload_n 2, 1) := by decide +kernel
theorem d_W_copy_91 : decode c_W_copy 91 = .ok (.iload_n 3, 1) := by decide +kernel
theorem d_W_copy_92 : decode c_W_copy 92 = .ok (.iload 4, 2) := by decide +kernel
theorem d_W_copy_94 : decode c_W_copy 94 = .ok (.iload 5, 2) := by decide +kernel
theorem d_W_copy_96 : decode c_W_copy 96 = .ok (.invokevirtual 105, 3) := by decide +kernel
theorem d_W_copy_99 : decode c_W_copy 99 = .ok (.iconst 1, 1) := by decide +kernel
theorem d_W_copy_100 : decode c_W_copy 100 = .ok (.ireturn, 1) := by decide +kernel
theorem d_W_mean_0 : decode c_W_mean 0 = .ok (.iload_n 1, 1) := by decide +kernel
theorem d_W_mean_1 : decode c_W_mean 1 = .ok (.invokestatic 71, 3) := by decide +kernel
theorem d_W_mean_4 : decode c_W_mean 4 = .ok (.ifCond .ne 5, 3) := by decide +kernel
theorem d_W_mean_7 : decode c_W_mean 7 = .ok (.iconst (-1), 1) := by decide +kernel
theorem d_W_mean_8 : decode c_W_mean 8 = .ok (.ireturn, 1) := by decide +kernel
theorem d_W_mean_9 : decode c_W_mean 9 = .ok (.aload_n 0, 1) := by decide +kernel
theorem d_W_mean_10 : decode c_W_mean 10 = .ok (.getfield 19, 3) := by decide +kernel
theorem d_W_mean_13 : decode c_W_mean 13 = .ok (.iload_n 1, 1) := by decide +kernel
theorem d_W_mean_14 : decode c_W_mean 14 = .ok (.invokevirtual 83, 3) := by decide +kernel
theorem d_W_mean_17 : decode c_W_mean 17 = .ok (.ifCond .eq 12, 3) := by decide +kernel
theorem d_W_mean_20 : decode c_W_mean 20 = .ok (.aload_n 0, 1) := by decide +kernel
theorem d_W_mean_21 : decode c_W_mean 21 = .ok (.getfield 10, 3) := by decide +kernel
theorem d_W_mean_24 : decode c_W_mean 24 = .ok (.iconst 1, 1) := by decide +kernel
theorem d_W_mean_25 : decode c_W_mean 25 = .ok (.invokevirtual 75, 3) := by decide +kernel
theorem d_W_mean_28 : decode c_W_mean 28 = .ok (.ireturn, 1) := by decide +kernel
theorem d_W_mean_29 : decode c_W_mean 29 = .ok (.aload_n 0, 1) := by decide +kernel
theorem d_W_mean_30 : decode c_W_mean 30 = .ok (.getfield 19, 3) := by decide +kernel
theorem d_W_mean_33 : decode c_W_mean 33 = .ok (.iload_n 1, 1) := by decide +kernel
theorem d_W_mean_34 : decode c_W_mean 34 = .ok (.invokevirtual 86, 3) := by decide +kernel
theorem d_W_mean_37 : decode c_W_mean 37 = .ok (.istore_n 2, 1) := by decide +kernel
theorem d_W_mean_38 : decode c_W_mean 38 = .ok (.iload_n 2, 1) := by decide +kernel
theorem d_W_mean_39 : decode c_W_mean 39 = .ok (.iconst 1, 1) := by decide +kernel
theorem d_W_mean_40 : decode c_W_mean 40 = .ok (.if_icmp .ge 12, 3) := by decide +kernel
theorem d_W_mean_43 : decode c_W_mean 43 = .ok (.aload_n 0, 1) := by decide +kernel
theorem d_W_mean_44 : decode c_W_mean 44 = .ok (.getfield 10, 3) := by decide +kernel
theorem d_W_mean_47 : decode c_W_mean 47 = .ok (.iconst 4, 1) := by decide +kernel
theorem d_W_mean_48 : decode c_W_mean 48 = .ok (.invokevirtual 75, 3) := by decide +kernel
theorem d_W_mean_51 : decode c_W_mean 51 = .ok (.ireturn, 1) := by decide +kernel
theorem d_W_mean_52 : decode c_W_mean 52 = .ok (.aload_n 0, 1) := by decide +kernel
theorem d_W_mean_53 : decode c_W_mean 53 = .ok (.getfield 19, 3) := by decide +kernel
theorem d_W_mean_56 : decode c_W_mean 56 = .ok (.iload_n 1, 1) := by decide +kernel
theorem d_W_mean_57 : decode c_W_mean 57 = .ok (.invokevirtual 109, 3) := by decide +kernel
theorem d_W_mean_60 : decode c_W_mean 60 = .ok (.iload_n 2, 1) := by decide +kernel
theorem d_W_mean_61 : decode c_W_mean 61 = .ok (.idiv, 1) := by decide +kernel
theorem d_W_mean_62 : decode c_W_mean 62 = .ok (.ireturn, 1) := by decide +kernel
theorem d_W_fence_0 : decode c_W_fence 0 = .ok (.iload_n 1, 1) := by decide +kernel
theorem d_W_fence_1 : decode c_W_fence 1 = .ok (.invokestatic 71, 3) := by decide +kernel
theorem d_W_fence_4 : decode c_W_fence 4 = .ok (.ifCond .ne 5, 3) := by decide +kernel
theorem d_W_fence_7 : decode c_W_fence 7 = .ok (.iconst (-1), 1) := by decide +kernel
theorem d_W_fence_8 : decode c_W_fence 8 = .ok (.ireturn, 1) := by decide +kernel
theorem d_W_fence_9 : decode c_W_fence 9 = .ok (.aload_n 0, 1) := by decide +kernel
theorem d_W_fence_10 : decode c_W_fence 10 = .ok (.getfield 19, 3) := by decide +kernel
theorem d_W_fence_13 : decode c_W_fence 13 = .ok (.iload_n 1, 1) := by decide +kernel
theorem d_W_fence_14 : decode c_W_fence 14 = .ok (.invokevirtual 83, 3) := by decide +kernel
theorem d_W_fence_17 : decode c_W_fence 17 = .ok (.ifCond .eq 12, 3) := by decide +kernel
theorem d_W_fence_20 : decode c_W_fence 20 = .ok (.aload_n 0, 1) := by decide +kernel
theorem d_W_fence_21 : decode c_W_fence 21 = .ok (.getfield 10, 3) := by decide +kernel
theorem d_W_fence_24 : decode c_W_fence 24 = .ok (.iconst 1, 1) := by decide +kernel
theorem d_W_fence_25 : decode c_W_fence 25 = .ok (.invokevirtual 75, 3) := by decide +kernel
theorem d_W_fence_28 : decode c_W_fence 28 = .ok (.ireturn, 1) := by decide +kernel
theorem d_W_fence_29 : decode c_W_fence 29 = .ok (.aload_n 0, 1) := by decide +kernel
theorem d_W_fence_30 : decode c_W_fence 30 = .ok (.getfield 19, 3) := by decide +kernel
theorem d_W_fence_33 : decode c_W_fence 33 = .ok (.iload_n 1, 1) := by decide +kernel
theorem d_W_fence_34 : decode c_W_fence 34 = .ok (.invokevirtual 86, 3) := by decide +kernel
theorem d_W_fence_37 : decode c_W_fence 37 = .ok (.istore_n 3, 1) := by decide +kernel
theorem d_W_fence_38 : decode c_W_fence 38 = .ok (.iload_n 2, 1) := by decide +kernel
theorem d_W_fence_39 : decode c_W_fence 39 = .ok (.ifCond .eq 7, 3) := by decide +kernel
theorem d_W_fence_42 : decode c_W_fence 42 = .ok (.iconst 3, 1) := by decide +kernel
theorem d_W_fence_43 : decode c_W_fence 43 = .ok (.goto 4, 3) := by decide +kernel
theorem d_W_fence_46 : decode c_W_fence 46 = .ok (.iconst 1, 1) := by decide +kernel
theorem d_W_fence_47 : decode c_W_fence 47 = .ok (.istore 4, 2) := by decide +kernel
theorem d_W_fence_49 : decode c_W_fence 49 = .ok (.iload_n 2, 1) := by decide +kernel
theorem d_W_fence_50 : decode c_W_fence 50 = .ok (.ifCond .eq 8, 3) := by decide +kernel
theorem d_W_fence_53 : decode c_W_fence 53 = .ok (.bipush 16, 2) := by decide +kernel
theorem d_W_fence_55 : decode c_W_fence 55 = .ok (.goto 5, 3) := by decide +kernel
theorem d_W_fence_58 : decode c_W_fence 58 = .ok (.bipush 15, 2) := by decide +kernel
theorem d_W_fence_60 : decode c_W_fence 60 = .ok (.istore 5, 2) := by decide +kernel
theorem d_W_fence_62 : decode c_W_fence 62 = .ok (.iload_n 3, 1) := by decide +kernel
theorem d_W_fence_63 : decode c_W_fence 63 = .ok (.iload 4, 2) := by decide +kernel
theorem d_W_fence_65 : decode c_W_fence 65 = .ok (.if_icmp .lt 23, 3) := by decide +kernel
theorem d_W_fence_68 : decode c_W_fence 68 = .ok (.iload_n 3, 1) := by decide +kernel
theorem d_W_fence_69 : decode c_W_fence 69 = .ok (.iload 5, 2) := by decide +kernel
theorem d_W_fence_71 : decode c_W_fence 71 = .ok (.if_icmp .gt 17, 3) := by decide +kernel
theorem d_W_fence_74 : decode c_W_fence 74 = .ok (.aload_n 0, 1) := by decide +kernel
theorem d_W_fence_75 : decode c_W_fence 75 = .ok (.getfield 19, 3) := by decide +kernel
theorem d_W_fence_78 : decode c_W_fence 78 = .ok (.iload_n 1, 1) := by decide +kernel
theorem d_W_fence_79 : decode c_W_fence 79 = .ok (.iconst 1, 1) := by decide +kernel
theorem d_W_fence_80 : decode c_W_fence 80 = .ok (.bipush 30, 2) := by decide +kernel
theorem d_W_fence_82 : decode c_W_fence 82 = .ok (.invokevirtual 112, 3) := by decide +kernel
theorem d_W_fence_85 : decode c_W_fence 85 = .ok (.ifCond .ne 12, 3) := by decide +kernel
theorem d_W_fence_88 : decode c_W_fence 88 = .ok (.aload_n 0, 1) := by decide +kernel
theorem d_W_fence_89 : decode c_W_fence 89 = .ok (.getfield 10, 3) := by decide +kernel
theorem d_W_fence_92 : decode c_W_fence 92 = .ok (.iconst 5, 1) := by decide +kernel
theorem d_W_fence_93 : decode c_W_fence 93 = .ok (.invokevirtual 75, 3) := by decide +kernel
theorem d_W_fence_96 : decode c_W_fence 96 = .ok (.ireturn, 1) := by decide +kernel
theorem d_W_fence_97 : decode c_W_fence 97 = .ok (.aload_n 0, 1) := by decide +kernel
theorem d_W_fence_98 : decode c_W_fence 98 = .ok (.getfield 26, 3) := by decide +kernel
theorem d_W_fence_101 : decode c_W_fence 101 = .ok (.iload_n 2, 1) := by decide +kernel
theorem d_W_fence_102 : decode c_W_fence 102 = .ok (.ifCond .eq 7, 3) := by decide +kernel
theorem d_W_fence_105 : decode c_W_fence 105 = .ok (.iconst 1, 1) := by decide +kernel
theorem d_W_fence_106 : decode c_W_fence 106 = .ok (.goto 4, 3) := by decide +kernel
theorem d_W_fence_109 : decode c_W_fence 109 = .ok (.iconst 0, 1) := by decide +kernel
theorem d_W_fence_110 : decode c_W_fence 110 = .ok (.iload_n 2, 1) := by decide +kernel
theorem d_W_fence_111 : decode c_W_fence 111 = .ok (.ifCond .eq 7, 3) := by decide +kernel
theorem d_W_fence_114 : decode c_W_fence 114 = .ok (.iload_n 3, 1) := by decide +kernel
theorem d_W_fence_115 : decode c_W_fence 115 = .ok (.goto 6, 3) := by decide +kernel
theorem d_W_fence_118 : decode c_W_fence 118 = .ok (.iload_n 3, 1) := by decide +kernel
theorem d_W_fence_119 : decode c_W_fence 119 = .ok (.iconst 1, 1) := by decide +kernel
theorem d_W_fence_120 : decode c_W_fence 120 = .ok (.iadd, 1) := by decide +kernel
theorem d_W_fence_121 : decode c_W_fence 121 = .ok (.invokevirtual 115, 3) := by decide +kernel
theorem d_W_fence_124 : decode c_W_fence 124 = .ok (.iconst 0, 1) := by decide +kernel
theorem d_W_fence_125 : decode c_W_fence 125 = .ok (.istore 6, 2) := by decide +kernel
theorem d_W_fence_127 : decode c_W_fence 127 = .ok (.iload 6, 2) := by decide +kernel
theorem d_W_fence_129 : decode c_W_fence 129 = .ok (.iload_n 3, 1) := by decide +kernel
theorem d_W_fence_130 : decode c_W_fence 130 = .ok (.if_icmp .ge 50, 3) := by decide +kernel
theorem d_W_fence_133 : decode c_W_fence 133 = .ok (.aload_n 0, 1) := by decide +kernel
theorem d_W_fence_134 : decode c_W_fence 134 = .ok (.getfield 26, 3) := by decide +kernel
theorem d_W_fence_137 : decode c_W_fence 137 = .ok (.iload 6, 2) := by decide +kernel
theorem d_W_fence_139 : decode c_W_fence 139 = .ok (.iload 6, 2) := by decide +kernel
theorem d_W_fence_141 : decode c_W_fence 141 = .ok (.iconst 1, 1) := by decide +kernel
theorem d_W_fence_142 : decode c_W_fence 142 = .ok (.iadd, 1) := by decide +kernel
theorem d_W_fence_143 : decode c_W_fence 143 = .ok (.aload_n 0, 1) := by decide +kernel
theorem d_W_fence_144 : decode c_W_fence 144 = .ok (.getfield 26, 3) := by decide +kernel
theorem d_W_fence_147 : decode c_W_fence 147 = .ok (.getfield 118, 3) := by decide +kernel
theorem d_W_fence_150 : decode c_W_fence 150 = .ok (.if_icmp .ge 10, 3) := by decide +kernel
theorem d_W_fence_153 : decode c_W_fence 153 = .ok (.iload 6, 2) := by decide +kernel
theorem d_W_fence_155 : decode c_W_fence 155 = .ok (.iconst 1, 1) := by decide +kernel
theorem d_W_fence_156 : decode c_W_fence 156 = .ok (.iadd, 1) := by decide +kernel
theorem d_W_fence_157 : decode c_W_fence 157 = .ok (.goto 4, 3) := by decide +kernel
theorem d_W_fence_160 : decode c_W_fence 160 = .ok (.iconst 0, 1) := by decide +kernel
theorem d_W_fence_161 : decode c_W_fence 161 = .ok (.aload_n 0, 1) := by decide +kernel
theorem d_W_fence_162 : decode c_W_fence 162 = .ok (.getfield 19, 3) := by decide +kernel
theorem d_W_fence_165 : decode c_W_fence 165 = .ok (.iload_n 1, 1) := by decide +kernel
theorem d_W_fence_166 : decode c_W_fence 166 = .ok (.iload 6, 2) := by decide +kernel
theorem d_W_fence_168 : decode c_W_fence 168 = .ok (.invokevirtual 89, 3) := by decide +kernel
theorem d_W_fence_171 : decode c_W_fence 171 = .ok (.invokevirtual 122, 3) := by decide +kernel
theorem d_W_fence_174 : decode c_W_fence 174 = .ok (.iinc 6 1, 3) := by decide +kernel
theorem d_W_fence_177 : decode c_W_fence 177 = .ok (.goto (-50), 3) := by decide +kernel
theorem d_W_fence_180 : decode c_W_fence 180 = .ok (.aload_n 0, 1) := by decide +kernel
theorem d_W_fence_181 : decode c_W_fence 181 = .ok (.getfield 26, 3) := by decide +kernel
theorem d_W_fence_184 : decode c_W_fence 184 = .ok (.getfield 118, 3) := by decide +kernel
theorem d_W_fence_187 : decode c_W_fence 187 = .ok (.ireturn, 1) := by decide +kernel
theorem d_W_net_0 : decode c_W_net 0 = .ok (.iload_n 1, 1) := by decide +kernel
theorem d_W_net_1 : decode c_W_net 1 = .ok (.iconst 1, 1) := by decide +kernel
theorem d_W_net_2 : decode c_W_net 2 = .ok (.if_icmp .lt 9, 3) := by decide +kernel
theorem d_W_net_5 : decode c_W_net 5 = .ok (.iload_n 1, 1) := by decide +kernel
theorem d_W_net_6 : decode c_W_net 6 = .ok (.bipush 16, 2) := by decide +kernel
theorem d_W_net_8 : decode c_W_net 8 = .ok (.if_icmp .le 5, 3) := by decide +kernel
theorem d_W_net_11 : decode c_W_net 11 = .ok (.iconst (-1), 1) := by decide +kernel
theorem d_W_net_12 : decode c_W_net 12 = .ok (.ireturn, 1) := by decide +kernel
theorem d_W_net_13 : decode c_W_net 13 = .ok (.aload_n 0, 1) := by decide +kernel
theorem d_W_net_14 : decode c_W_net 14 = .ok (.getfield 26, 3) := by decide +kernel
theorem d_W_net_17 : decode c_W_net 17 = .ok (.iconst 2, 1) := by decide +kernel
theorem d_W_net_18 : decode c_W_net 18 = .ok (.iload_n 1, 1) := by decide +kernel
theorem d_W_net_19 : decode c_W_net 19 = .ok (.invokevirtual 115, 3) := by decide +kernel
theorem d_W_net_22 : decode c_W_net 22 = .ok (.iload_n 1, 1) := by decide +kernel
theorem d_W_net_23 : decode c_W_net 23 = .ok (.ireturn, 1) := by decide +kernel
theorem d_W_wall_0 : decode c_W_wall 0 = .ok (.aload_n 0, 1) := by decide +kernel
theorem d_W_wall_1 : decode c_W_wall 1 = .ok (.getfield 26, 3) := by decide +kernel
theorem d_W_wall_4 : decode c_W_wall 4 = .ok (.iload_n 1, 1) := by decide +kernel
theorem d_W_wall_5 : decode c_W_wall 5 = .ok (.invokevirtual 125, 3) := by decide +kernel
theorem d_W_wall_8 : decode c_W_wall 8 = .ok (.ifCond .eq 42, 3) := by decide +kernel
theorem d_W_wall_11 : decode c_W_wall 11 = .ok (.aload_n 0, 1) := by decide +kernel
theorem d_W_wall_12 : decode c_W_wall 12 = .ok (.getfield 26, 3) := by decide +kernel
theorem d_W_wall_15 : decode c_W_wall 15 = .ok (.iload_n 2, 1) := by decide +kernel
theorem d_W_wall_16 : decode c_W_wall 16 = .ok (.invokevirtual 125, 3) := by decide +kernel
theorem d_W_wall_19 : decode c_W_wall 19 = .ok (.ifCond .eq 31, 3) := by decide +kernel
theorem d_W_wall_22 : decode c_W_wall 22 = .ok (.iload_n 1, 1) := by decide +kernel
theorem d_W_wall_23 : decode c_W_wall 23 = .ok (.iload_n 2, 1) := by decide +kernel
theorem d_W_wall_24 : decode c_W_wall 24 = .ok (.if_icmp .eq 26, 3) := by decide +kernel
theorem d_W_wall_27 : decode c_W_wall 27 = .ok (.iload_n 3, 1) := by decide +kernel
theorem d_W_wall_28 : decode c_W_wall 28 = .ok (.iconst 1, 1) := by decide +kernel
theorem d_W_wall_29 : decode c_W_wall 29 = .ok (.if_icmp .lt 21, 3) := by decide +kernel
theorem d_W_wall_32 : decode c_W_wall 32 = .ok (.iload_n 3, 1) := by decide +kernel
theorem d_W_wall_33 : decode c_W_wall 33 = .ok (.bipush 30, 2) := by decide +kernel
theorem d_W_wall_35 : decode c_W_wall 35 = .ok (.if_icmp .gt 15, 3) := by decide +kernel
theorem d_W_wall_38 : decode c_W_wall 38 = .ok (.aload_n 0, 1) := by decide +kernel
theorem d_W_wall_39 : decode c_W_wall 39 = .ok (.getfield 26, 3) := by decide +kernel
theorem d_W_wall_42 : decode c_W_wall 42 = .ok (.iload_n 1, 1) := by decide +kernel
theorem d_W_wall_43 : decode c_W_wall 43 = .ok (.iload_n 2, 1) := by decide +kernel
theorem d_W_wall_44 : decode c_W_wall 44 = .ok (.invokevirtual 128, 3) := by decide +kernel
theorem d_W_wall_47 : decode c_W_wall 47 = .ok (.ifCond .eq 5, 3) := by decide +kernel
theorem d_W_wall_50 : decode c_W_wall 50 = .ok (.iconst (-1), 1) := by decide +kernel
theorem d_W_wall_51 : decode c_W_wall 51 = .ok (.ireturn, 1) := by decide +kernel
theorem d_W_wall_52 : decode c_W_wall 52 = .ok (.aload_n 0, 1) := by decide +kernel
theorem d_W_wall_53 : decode c_W_wall 53 = .ok (.getfield 26, 3) := by decide +kernel
theorem d_W_wall_56 : decode c_W_wall 56 = .ok (.getfield 131, 3) := by decide +kernel
theorem d_W_wall_59 : decode c_W_wall 59 = .ok (.bipush 40, 2) := by decide +kernel
theorem d_W_wall_61 : decode c_W_wall 61 = .ok (.if_icmp .lt 6, 3) := by decide +kernel
theorem d_W_wall_64 : decode c_W_wall 64 = .ok (.bipush (-2), 2) := by decide +kernel
theorem d_W_wall_66 : decode c_W_wall 66 = .ok (.ireturn, 1) := by decide +kernel
theorem d_W_wall_67 : decode c_W_wall 67 = .ok (.aload_n 0, 1) := by decide +kernel
theorem d_W_wall_68 : decode c_W_wall 68 = .ok (.getfield 26, 3) := by decide +kernel
theorem d_W_wall_71 : decode c_W_wall 71 = .ok (.getfield 134, 3) := by decide +kernel
theorem d_W_wall_74 : decode c_W_wall 74 = .ok (.iconst 2, 1) := by decide +kernel
theorem d_W_wall_75 : decode c_W_wall 75 = .ok (.if_icmp .eq 12, 3) := by decide +kernel
theorem d_W_wall_78 : decode c_W_wall 78 = .ok (.aload_n 0, 1) := by decide +kernel
theorem d_W_wall_79 : decode c_W_wall 79 = .ok (.getfield 10, 3) := by decide +kernel
theorem d_W_wall_82 : decode c_W_wall 82 = .ok (.iconst 3, 1) := by decide +kernel
theorem d_W_wall_83 : decode c_W_wall 83 = .ok (.invokevirtual 75, 3) := by decide +kernel
theorem d_W_wall_86 : decode c_W_wall 86 = .ok (.ireturn, 1) := by decide +kernel
theorem d_W_wall_87 : decode c_W_wall 87 = .ok (.aload_n 0, 1) := by decide +kernel
theorem d_W_wall_88 : decode c_W_wall 88 = .ok (.getfield 26, 3) := by decide +kernel
theorem d_W_wall_91 : decode c_W_wall 91 = .ok (.iload_n 1, 1) := by decide +kernel
theorem d_W_wall_92 : decode c_W_wall 92 = .ok (.iload_n 2, 1) := by decide +kernel
theorem d_W_wall_93 : decode c_W_wall 93 = .ok (.iload_n 3, 1) := by decide +kernel
theorem d_W_wall_94 : decode c_W_wall 94 = .ok (.invokevirtual 122, 3) := by decide +kernel
theorem d_W_wall_97 : decode c_W_wall 97 = .ok (.aload_n 0, 1) := by decide +kernel
theorem d_W_wall_98 : decode c_W_wall 98 = .ok (.getfield 26, 3) := by decide +kernel
theorem d_W_wall_101 : decode c_W_wall 101 = .ok (.getfield 131, 3) := by decide +kernel
theorem d_W_wall_104 : decode c_W_wall 104 = .ok (.ireturn, 1) := by decide +kernel
theorem d_W_breaks_0 : decode c_W_breaks 0 = .ok (.aload_n 0, 1) := by decide +kernel
theorem d_W_breaks_1 : decode c_W_breaks 1 = .ok (.getfield 26, 3) := by decide +kernel
theorem d_W_breaks_4 : decode c_W_breaks 4 = .ok (.iload_n 1, 1) := by decide +kernel
theorem d_W_breaks_5 : decode c_W_breaks 5 = .ok (.invokevirtual 125, 3) := by decide +kernel
theorem d_W_breaks_8 : decode c_W_breaks 8 = .ok (.ifCond .eq 14, 3) := by decide +kernel
theorem d_W_breaks_11 : decode c_W_breaks 11 = .ok (.aload_n 0, 1) := by decide +kernel
theorem d_W_breaks_12 : decode c_W_breaks 12 = .ok (.getfield 26, 3) := by decide +kernel
theorem d_W_breaks_15 : decode c_W_breaks 15 = .ok (.iload_n 2, 1) := by decide +kernel
theorem d_W_breaks_16 : decode c_W_breaks 16 = .ok (.invokevirtual 125, 3) := by decide +kernel
theorem d_W_breaks_19 : decode c_W_breaks 19 = .ok (.ifCond .ne 5, 3) := by decide +kernel
theorem d_W_breaks_22 : decode c_W_breaks 22 = .ok (.iconst (-1), 1) := by decide +kernel
theorem d_W_breaks_23 : decode c_W_breaks 23 = .ok (.ireturn, 1) := by decide +kernel
theorem d_W_breaks_24 : decode c_W_breaks 24 = .ok (.aload_n 0, 1) := by decide +kernel
theorem d_W_breaks_25 : decode c_W_breaks 25 = .ok (.getfield 26, 3) := by decide +kernel
theorem d_W_breaks_28 : decode c_W_breaks 28 = .ok (.iload_n 1, 1) := by decide +kernel
theorem d_W_breaks_29 : decode c_W_breaks 29 = .ok (.iload_n 2, 1) := by decide +kernel
theorem d_W_breaks_30 : decode c_W_breaks 30 = .ok (.invokevirtual 128, 3) := by decide +kernel
theorem d_W_breaks_33 : decode c_W_breaks 33 = .ok (.istore 4, 2) := by decide +kernel
theorem d_W_breaks_35 : decode c_W_breaks 35 = .ok (.iload 4, 2) := by decide +kernel
theorem d_W_breaks_37 : decode c_W_breaks 37 = .ok (.ifCond .ne 12, 3) := by decide +kernel
theorem d_W_breaks_40 : decode c_W_breaks 40 = .ok (.aload_n 0, 1) := by decide +kernel
theorem d_W_breaks_41 : decode c_W_breaks 41 = .ok (.getfield 10, 3) := by decide +kernel
theorem d_W_breaks_44 : decode c_W_breaks 44 = .ok (.iconst 1, 1) := by decide +kernel
theorem d_W_breaks_45 : decode c_W_breaks 45 = .ok (.invokevirtual 75, 3) := by decide +kernel
theorem d_W_breaks_48 : decode c_W_breaks 48 = .ok (.ireturn, 1) := by decide +kernel
theorem d_W_breaks_49 : decode c_W_breaks 49 = .ok (.iload 4, 2) := by decide +kernel
theorem d_W_breaks_51 : decode c_W_breaks 51 = .ok (.ifCond .ge 7, 3) := by decide +kernel
theorem d_W_breaks_54 : decode c_W_breaks 54 = .ok (.iconst 1, 1) := by decide +kernel
theorem d_W_breaks_55 : decode c_W_breaks 55 = .ok (.goto 4, 3) := by decide +kernel
theorem d_W_breaks_58 : decode c_W_breaks 58 = .ok (.iconst 0, 1) := by decide +kernel
theorem d_W_breaks_59 : decode c_W_breaks 59 = .ok (.istore 5, 2) := by decide +kernel
theorem d_W_breaks_61 : decode c_W_breaks 61 = .ok (.iload 5, 2) := by decide +kernel
theorem d_W_breaks_63 : decode c_W_breaks 63 = .ok (.iload_n 3, 1) := by decide +kernel
theorem d_W_breaks_64 : decode c_W_breaks 64 = .ok (.if_icmp .eq 12, 3) := by decide +kernel
theorem d_W_breaks_67 : decode c_W_breaks 67 = .ok (.aload_n 0, 1) := by decide +kernel
theorem d_W_breaks_68 : decode c_W_breaks 68 = .ok (.getfield 26, 3) := by decide +kernel
theorem d_W_breaks_71 : decode c_W_breaks 71 = .ok (.iload_n 1, 1) := by decide +kernel
theorem d_W_breaks_72 : decode c_W_breaks 72 = .ok (.iload_n 2, 1) := by decide +kernel
theorem d_W_breaks_73 : decode c_W_breaks 73 = .ok (.invokevirtual 137, 3) := by decide +kernel
theorem d_W_breaks_76 : decode c_W_breaks 76 = .ok (.iload 5, 2) := by decide +kernel
theorem d_W_breaks_78 : decode c_W_breaks 78 = .ok (.ifCond .eq 7, 3) := by decide +kernel
theorem d_W_breaks_81 : decode c_W_breaks 81 = .ok (.iconst 1, 1) := by decide +kernel
theorem d_W_breaks_82 : decode c_W_breaks 82 = .ok (.goto 4, 3) := by decide +kernel
theorem d_W_breaks_85 : decode c_W_breaks 85 = .ok (.iconst 0, 1) := by decide +kernel
theorem d_W_breaks_86 : decode c_W_breaks 86 = .ok (.ireturn, 1) := by decide +kernel
theorem d_W_far_0 : decode c_W_far 0 = .ok (.aload_n 0, 1) := by decide +kernel
theorem d_W_far_1 : decode c_W_far 1 = .ok (.getfield 26, 3) := by decide +kernel
theorem d_W_far_4 : decode c_W_far 4 = .ok (.iload_n 1, 1) := by decide +kernel
theorem d_W_far_5 : decode c_W_far 5 = .ok (.invokevirtual 125, 3) := by decide +kernel
theorem d_W_far_8 : decode c_W_far 8 = .ok (.ifCond .eq 14, 3) := by decide +kernel
theorem d_W_far_11 : decode c_W_far 11 = .ok (.aload_n 0, 1) := by decide +kernel
theorem d_W_far_12 : decode c_W_far 12 = .ok (.getfield 26, 3) := by decide +kernel
theorem d_W_far_15 : decode c_W_far 15 = .ok (.iload_n 2, 1) := by decide +kernel
theorem d_W_far_16 : decode c_W_far 16 = .ok (.invokevirtual 125, 3) := by decide +kernel
theorem d_W_far_19 : decode c_W_far 19 = .ok (.ifCond .ne 5, 3) := by decide +kernel
theorem d_W_far_22 : decode c_W_far 22 = .ok (.iconst (-1), 1) := by decide +kernel
theorem d_W_far_23 : decode c_W_far 23 = .ok (.ireturn, 1) := by decide +kernel
theorem d_W_far_24 : decode c_W_far 24 = .ok (.aload_n 0, 1) := by decide +kernel
theorem d_W_far_25 : decode c_W_far 25 = .ok (.getfield 26, 3) := by decide +kernel
theorem d_W_far_28 : decode c_W_far 28 = .ok (.invokevirtual 140, 3) := by decide +kernel
theorem d_W_far_31 : decode c_W_far 31 = .ok (.aload_n 0, 1) := by decide +kernel
theorem d_W_far_32 : decode c_W_far 32 = .ok (.getfield 26, 3) := by decide +kernel
theorem d_W_far_35 : decode c_W_far 35 = .ok (.iload_n 1, 1) := by decide +kernel
theorem d_W_far_36 : decode c_W_far 36 = .ok (.iload_n 2, 1) := by decide +kernel
theorem d_W_far_37 : decode c_W_far 37 = .ok (.invokevirtual 143, 3) := by decide +kernel
theorem d_W_far_40 : decode c_W_far 40 = .ok (.ireturn, 1) := by decide +kernel
theorem d_W_worth_0 : decode c_W_worth 0 = .ok (.aload_n 0, 1) := by decide +kernel
theorem d_W_worth_1 : decode c_W_worth 1 = .ok (.getfield 26, 3) := by decide +kernel
theorem d_W_worth_4 : decode c_W_worth 4 = .ok (.iload_n 1, 1) := by decide +kernel
theorem d_W_worth_5 : decode c_W_worth 5 = .ok (.invokevirtual 125, 3) := by decide +kernel
theorem d_W_worth_8 : decode c_W_worth 8 = .ok (.ifCond .eq 13, 3) := by decide +kernel
theorem d_W_worth_11 : decode c_W_worth 11 = .ok (.iload_n 2, 1) := by decide +kernel
theorem d_W_worth_12 : decode c_W_worth 12 = .ok (.ifCond .lt 9, 3) := by decide +kernel
theorem d_W_worth_15 : decode c_W_worth 15 = .ok (.iload_n 2, 1) := by decide +kernel
theorem d_W_worth_16 : decode c_W_worth 16 = .ok (.bipush 9, 2) := by decide +kernel
theorem d_W_worth_18 : decode c_W_worth 18 = .ok (.if_icmp .le 5, 3) := by decide +kernel
theorem d_W_worth_21 : decode c_W_worth 21 = .ok (.iconst (-1), 1) := by decide +kernel
theorem d_W_worth_22 : decode c_W_worth 22 = .ok (.ireturn, 1) := by decide +kernel
theorem d_W_worth_23 : decode c_W_worth 23 = .ok (.aload_n 0, 1) := by decide +kernel
theorem d_W_worth_24 : decode c_W_worth 24 = .ok (.getfield 26, 3) := by decide +kernel
theorem d_W_worth_27 : decode c_W_worth 27 = .ok (.iload_n 1, 1) := by decide +kernel
theorem d_W_worth_28 : decode c_W_worth 28 = .ok (.iload_n 2, 1) := by decide +kernel
theorem d_W_worth_29 : decode c_W_worth 29 = .ok (.invokevirtual 146, 3) := by decide +kernel
theorem d_W_worth_32 : decode c_W_worth 32 = .ok (.ireturn, 1) := by decide +kernel
theorem d_W_base_0 : decode c_W_base 0 = .ok (.aload_n 0, 1) := by decide +kernel
theorem d_W_base_1 : decode c_W_base 1 = .ok (.getfield 26, 3) := by decide +kernel
theorem d_W_base_4 : decode c_W_base 4 = .ok (.iload_n 1, 1) := by decide +kernel
theorem d_W_base_5 : decode c_W_base 5 = .ok (.invokevirtual 125, 3) := by decide +kernel
theorem d_W_base_8 : decode c_W_base 8 = .ok (.ifCond .ne 5, 3) := by decide +kernel
theorem d_W_base_11 : decode c_W_base 11 = .ok (.iconst (-1), 1) := by decide +kernel
theorem d_W_base_12 : decode c_W_base 12 = .ok (.ireturn, 1) := by decide +kernel
theorem d_W_base_13 : decode c_W_base 13 = .ok (.aload_n 0, 1) := by decide +kernel
theorem d_W_base_14 : decode c_W_base 14 = .ok (.getfield 26, 3) := by decide +kernel
theorem d_W_base_17 : decode c_W_base 17 = .ok (.iload_n 1, 1) := by decide +kernel
theorem d_W_base_18 : decode c_W_base 18 = .ok (.iload_n 2, 1) := by decide +kernel
theorem d_W_base_19 : decode c_W_base 19 = .ok (.invokevirtual 149, 3) := by decide +kernel
theorem d_W_base_22 : decode c_W_base 22 = .ok (.ifCond .eq 7, 3) := by decide +kernel
theorem d_W_base_25 : decode c_W_base 25 = .ok (.iconst 1, 1) := by decide +kernel
theorem d_W_base_26 : decode c_W_base 26 = .ok (.goto 4, 3) := by decide +kernel
theorem d_W_base_29 : decode c_W_base 29 = .ok (.iconst 0, 1) := by decide +kernel
theorem d_W_base_30 : decode c_W_base 30 = .ok (.ireturn, 1) := by decide +kernel
theorem d_W_walker_0 : decode c_W_walker 0 = .ok (.aload_n 0, 1) := by decide +kernel
theorem d_W_walker_1 : decode c_W_walker 1 = .ok (.iload_n 1, 1) := by decide +kernel
theorem d_W_walker_2 : decode c_W_walker 2 = .ok (.iload_n 2, 1) := by decide +kernel
theorem d_W_walker_3 : decode c_W_walker 3 = .ok (.iload_n 3, 1) := by decide +kernel
theorem d_W_walker_4 : decode c_W_walker 4 = .ok (.invokevirtual 153, 3) := by decide +kernel
theorem d_W_walker_7 : decode c_W_walker 7 = .ok (.ifCond .ne 5, 3) := by decide +kernel
theorem d_W_walker_10 : decode c_W_walker 10 = .ok (.iconst (-1), 1) := by decide +kernel
theorem d_W_walker_11 : decode c_W_walker 11 = .ok (.ireturn, 1) := by decide +kernel
theorem d_W_walker_12 : decode c_W_walker 12 = .ok (.aload_n 0, 1) := by decide +kernel
theorem d_W_walker_13 : decode c_W_walker 13 = .ok (.getfield 35, 3) := by decide +kernel
theorem d_W_walker_16 : decode c_W_walker 16 = .ok (.getfield 156, 3) := by decide +kernel
theorem d_W_walker_19 : decode c_W_walker 19 = .ok (.bipush 8, 2) := by decide +kernel
theorem d_W_walker_21 : decode c_W_walker 21 = .ok (.if_icmp .lt 6, 3) := by decide +kernel
theorem d_W_walker_24 : decode c_W_walker 24 = .ok (.bipush (-2), 2) := by decide +kernel
theorem d_W_walker_26 : decode c_W_walker 26 = .ok (.ireturn, 1) := by decide +kernel
theorem d_W_walker_27 : decode c_W_walker 27 = .ok (.aload_n 0, 1) := by decide +kernel
theorem d_W_walker_28 : decode c_W_walker 28 = .ok (.getfield 35, 3) := by decide +kernel
theorem d_W_walker_31 : decode c_W_walker 31 = .ok (.iload_n 1, 1) := by decide +kernel
theorem d_W_walker_32 : decode c_W_walker 32 = .ok (.iload_n 2, 1) := by decide +kernel
theorem d_W_walker_33 : decode c_W_walker 33 = .ok (.iload_n 3, 1) := by decide +kernel
theorem d_W_walker_34 : decode c_W_walker 34 = .ok (.invokevirtual 159, 3) := by decide +kernel
theorem d_W_walker_37 : decode c_W_walker 37 = .ok (.ireturn, 1) := by decide +kernel
theorem d_W_home_0 : decode c_W_home 0 = .ok (.aload_n 0, 1) := by decide +kernel
theorem d_W_home_1 : decode c_W_home 1 = .ok (.getfield 35, 3) := by decide +kernel
theorem d_W_home_4 : decode c_W_home 4 = .ok (.iload_n 1, 1) := by decide +kernel
theorem d_W_home_5 : decode c_W_home 5 = .ok (.invokevirtual 163, 3) := by decide +kernel
theorem d_W_home_8 : decode c_W_home 8 = .ok (.ifCond .ne 5, 3) := by decide +kernel
theorem d_W_home_11 : decode c_W_home 11 = .ok (.iconst (-1), 1) := by decide +kernel
theorem d_W_home_12 : decode c_W_home 12 = .ok (.ireturn, 1) := by decide +kernel
theorem d_W_home_13 : decode c_W_home 13 = .ok (.aload_n 0, 1) := by decide +kernel
theorem d_W_home_14 : decode c_W_home 14 = .ok (.getfield 35, 3) := by decide +kernel
theorem d_W_home_17 : decode c_W_home 17 = .ok (.iload_n 1, 1) := by decide +kernel
theorem d_W_home_18 : decode c_W_home 18 = .ok (.invokevirtual 164, 3) := by decide +kernel
theorem d_W_home_21 : decode c_W_home 21 = .ok (.ifCond .eq 12, 3) := by decide +kernel
theorem d_W_home_24 : decode c_W_home 24 = .ok (.aload_n 0, 1) := by decide +kernel
theorem d_W_home_25 : decode c_W_home 25 = .ok (.getfield 10, 3) := by decide +kernel
theorem d_W_home_28 : decode c_W_home 28 = .ok (.iconst 1, 1) := by decide +kernel
theorem d_W_home_29 : decode c_W_home 29 = .ok (.invokevirtual 75, 3) := by decide +kernel
theorem d_W_home_32 : decode c_W_home 32 = .ok (.ireturn, 1) := by decide +kernel
theorem d_W_home_33 : decode c_W_home 33 = .ok (.aload_n 0, 1) := by decide +kernel
theorem d_W_home_34 : decode c_W_home 34 = .ok (.getfield 35, 3) := by decide +kernel
theorem d_W_home_37 : decode c_W_home 37 = .ok (.iload_n 1, 1) := by decide +kernel
theorem d_W_home_38 : decode c_W_home 38 = .ok (.invokevirtual 165, 3) := by decide +kernel
theorem d_W_home_41 : decode c_W_home 41 = .ok (.iconst 1, 1) := by decide +kernel
theorem d_W_home_42 : decode c_W_home 42 = .ok (.putfield 169, 3) := by decide +kernel
theorem d_W_home_45 : decode c_W_home 45 = .ok (.iconst 1, 1) := by decide +kernel
theorem d_W_home_46 : decode c_W_home 46 = .ok (.ireturn, 1) := by decide +kernel
theorem d_W_view_0 : decode c_W_view 0 = .ok (.aload_n 0, 1) := by decide +kernel
theorem d_W_view_1 : decode c_W_view 1 = .ok (.getfield 35, 3) := by decide +kernel
theorem d_W_view_4 : decode c_W_view 4 = .ok (.iload_n 1, 1) := by decide +kernel
theorem d_W_view_5 : decode c_W_view 5 = .ok (.invokevirtual 163, 3) := by decide +kernel
theorem d_W_view_8 : decode c_W_view 8 = .ok (.ifCond .eq 13, 3) := by decide +kernel
theorem d_W_view_11 : decode c_W_view 11 = .ok (.iload_n 2, 1) := by decide +kernel
theorem d_W_view_12 : decode c_W_view 12 = .ok (.ifCond .lt 9, 3) := by decide +kernel
theorem d_W_view_15 : decode c_W_view 15 = .ok (.iload_n 2, 1) := by decide +kernel
theorem d_W_view_16 : decode c_W_view 16 = .ok (.bipush 40, 2) := by decide +kernel
theorem d_W_view_18 : decode c_W_view 18 = .ok (.if_icmp .le 5, 3) := by decide +kernel
theorem d_W_view_21 : decode c_W_view 21 = .ok (.iconst (-1), 1) := by decide +kernel
theorem d_W_view_22 : decode c_W_view 22 = .ok (.ireturn, 1) := by decide +kernel
theorem d_W_view_23 : decode c_W_view 23 = .ok (.aload_n 0, 1) := by decide +kernel
theorem d_W_view_24 : decode c_W_view 24 = .ok (.getfield 35, 3) := by decide +kernel
theorem d_W_view_27 : decode c_W_view 27 = .ok (.iload_n 1, 1) := by decide +kernel
theorem d_W_view_28 : decode c_W_view 28 = .ok (.invokevirtual 164, 3) := by decide +kernel
theorem d_W_view_31 : decode c_W_view 31 = .ok (.ifCond .eq 12, 3) := by decide +kernel
theorem d_W_view_34 : decode c_W_view 34 = .ok (.aload_n 0, 1) := by decide +kernel
theorem d_W_view_35 : decode c_W_view 35 = .ok (.getfield 10, 3) := by decide +kernel
theorem d_W_view_38 : decode c_W_view 38 = .ok (.iconst 1, 1) := by decide +kernel
theorem d_W_view_39 : decode c_W_view 39 = .ok (.invokevirtual 75, 3) := by decide +kernel
theorem d_W_view_42 : decode c_W_view 42 = .ok (.ireturn, 1) := by decide +kernel
theorem d_W_view_43 : decode c_W_view 43 = .ok (.aload_n 0, 1) := by decide +kernel
theorem d_W_view_44 : decode c_W_view 44 = .ok (.getfield 35, 3) := by decide +kernel
theorem d_W_view_47 : decode c_W_view 47 = .ok (.iload_n 1, 1) := by decide +kernel
theorem d_W_view_48 : decode c_W_view 48 = .ok (.invokevirtual 165, 3) := by decide +kernel
theorem d_W_view_51 : decode c_W_view 51 = .ok (.astore_n 3, 1) := by decide +kernel
theorem d_W_view_52 : decode c_W_view 52 = .ok (.aload_n 3, 1) := by decide +kernel
theorem d_W_view_53 : decode c_W_view 53 = .ok (.getfield 175, 3) := by decide +kernel
theorem d_W_view_56 : decode c_W_view 56 = .ok (.istore 4, 2) := by decide +kernel
theorem d_W_view_58 : decode c_W_view 58 = .ok (.aload_n 3, 1) := by decide +kernel
theorem d_W_view_59 : decode c_W_view 59 = .ok (.iload_n 2, 1) := by decide +kernel
theorem d_W_view_60 : decode c_W_view 60 = .ok (.putfield 175, 3) := by decide +kernel
theorem d_W_view_63 : decode c_W_view 63 = .ok (.iload 4, 2) := by decide +kernel
theorem d_W_view_65 : decode c_W_view 65 = .ok (.ireturn, 1) := by decide +kernel
theorem d_W_lose_0 : decode c_W_lose 0 = .ok (.aload_n 0, 1) := by decide +kernel
theorem d_W_lose_1 : decode c_W_lose 1 = .ok (.getfield 35, 3) := by decide +kernel
theorem d_W_lose_4 : decode c_W_lose 4 = .ok (.iload_n 1, 1) := by decide +kernel
theorem d_W_lose_5 : decode c_W_lose 5 = .ok (.invokevirtual 163, 3) := by decide +kernel
theorem d_W_lose_8 : decode c_W_lose 8 = .ok (.ifCond .ne 5, 3) := by decide +kernel
theorem d_W_lose_11 : decode c_W_lose 11 = .ok (.iconst (-1), 1) := by decide +kernel
theorem d_W_lose_12 : decode c_W_lose 12 = .ok (.ireturn, 1) := by decide +kernel
theorem d_W_lose_13 : decode c_W_lose 13 = .ok (.aload_n 0, 1) := by decide +kernel
theorem d_W_lose_14 : decode c_W_lose 14 = .ok (.getfield 35, 3) := by decide +kernel
theorem d_W_lose_17 : decode c_W_lose 17 = .ok (.iload_n 1, 1) := by decide +kernel
theorem d_W_lose_18 : decode c_W_lose 18 = .ok (.invokevirtual 164, 3) := by decide +kernel
theorem d_W_lose_21 : decode c_W_lose 21 = .ok (.ifCond .eq 12, 3) := by decide +kernel
theorem d_W_lose_24 : decode c_W_lose 24 = .ok (.aload_n 0, 1) := by decide +kernel
theorem d_W_lose_25 : decode c_W_lose 25 = .ok (.getfield 10, 3) := by decide +kernel
theorem d_W_lose_28 : decode c_W_lose 28 = .ok (.iconst 1, 1) := by decide +kernel
theorem d_W_lose_29 : decode c_W_lose 29 = .ok (.invokevirtual 75, 3) := by decide +kernel
theorem d_W_lose_32 : decode c_W_lose 32 = .ok (.ireturn, 1) := by decide +kernel
theorem d_W_lose_33 : decode c_W_lose 33 = .ok (.aload_n 0, 1) := by decide +kernel
theorem d_W_lose_34 : decode c_W_lose 34 = .ok (.getfield 35, 3) := by decide +kernel
theorem d_W_lose_37 : decode c_W_lose 37 = .ok (.iload_n 1, 1) := by decide +kernel
theorem d_W_lose_38 : decode c_W_lose 38 = .ok (.invokevirtual 165, 3) := by decide +kernel
theorem d_W_lose_41 : decode c_W_lose 41 = .ok (.astore_n 3, 1) := by decide +kernel
theorem d_W_lose_42 : decode c_W_lose 42 = .ok (.aload_n 3, 1) := by decide +kernel
theorem d_W_lose_43 : decode c_W_lose 43 = .ok (.getfield 178, 3) := by decide +kernel
theorem d_W_lose_46 : decode c_W_lose 46 = .ok (.istore 4, 2) := by decide +kernel
theorem d_W_lose_48 : decode c_W_lose 48 = .ok (.aload_n 3, 1) := by decide +kernel
theorem d_W_lose_49 : decode c_W_lose 49 = .ok (.iload_n 2, 1) := by decide +kernel
theorem d_W_lose_50 : decode c_W_lose 50 = .ok (.putfield 178, 3) := by decide +kernel
theorem d_W_lose_53 : decode c_W_lose 53 = .ok (.iload 4, 2) := by decide +kernel
theorem d_W_lose_55 : decode c_W_lose 55 = .ok (.ifCond .eq 7, 3) := by decide +kernel
theorem d_W_lose_58 : decode c_W_lose 58 = .ok (.iconst 1, 1) := by decide +kernel
theorem d_W_lose_59 : decode c_W_lose 59 = .ok (.goto 4, 3) := by decide +kernel
theorem d_W_lose_62 : decode c_W_lose 62 = .ok (.iconst 0, 1) := by decide +kernel
theorem d_W_lose_63 : decode c_W_lose 63 = .ok (.ireturn, 1) := by decide +kernel
theorem d_W_told_0 : decode c_W_told 0 = .ok (.aload_n 0, 1) := by decide +kernel
theorem d_W_told_1 : decode c_W_told 1 = .ok (.getfield 35, 3) := by decide +kernel
theorem d_W_told_4 : decode c_W_told 4 = .ok (.iload_n 1, 1) := by decide +kernel
theorem d_W_told_5 : decode c_W_told 5 = .ok (.invokevirtual 163, 3) := by decide +kernel
theorem d_W_told_8 : decode c_W_told 8 = .ok (.ifCond .eq 13, 3) := by decide +kernel
theorem d_W_told_11 : decode c_W_told 11 = .ok (.iload_n 2, 1) := by decide +kernel
theorem d_W_told_12 : decode c_W_told 12 = .ok (.ifCond .lt 9, 3) := by decide +kernel
theorem d_W_told_15 : decode c_W_told 15 = .ok (.iload_n 2, 1) := by decide +kernel
theorem d_W_told_16 : decode c_W_told 16 = .ok (.bipush 6, 2) := by decide +kernel
theorem d_W_told_18 : decode c_W_told 18 = .ok (.if_icmp .le 5, 3) := by decide +kernel
theorem d_W_told_21 : decode c_W_told 21 = .ok (.iconst (-1), 1) := by decide +kernel
theorem d_W_told_22 : decode c_W_told 22 = .ok (.ireturn, 1) := by decide +kernel
theorem d_W_told_23 : decode c_W_told 23 = .ok (.aload_n 0, 1) := by decide +kernel
theorem d_W_told_24 : decode c_W_told 24 = .ok (.getfield 35, 3) := by decide +kernel
theorem d_W_told_27 : decode c_W_told 27 = .ok (.iload_n 1, 1) := by decide +kernel
theorem d_W_told_28 : decode c_W_told 28 = .ok (.invokevirtual 164, 3) := by decide +kernel
theorem d_W_told_31 : decode c_W_told 31 = .ok (.ifCond .eq 12, 3) := by decide +kernel
theorem d_W_told_34 : decode c_W_told 34 = .ok (.aload_n 0, 1) := by decide +kernel
theorem d_W_told_35 : decode c_W_told 35 = .ok (.getfield 10, 3) := by decide +kernel
theorem d_W_told_38 : decode c_W_told 38 = .ok (.iconst 1, 1) := by decide +kernel
theorem d_W_told_39 : decode c_W_told 39 = .ok (.invokevirtual 75, 3) := by decide +kernel
theorem d_W_told_42 : decode c_W_told 42 = .ok (.ireturn, 1) := by decide +kernel
theorem d_W_told_43 : decode c_W_told 43 = .ok (.aload_n 0, 1) := by decide +kernel
theorem d_W_told_44 : decode c_W_told 44 = .ok (.getfield 35, 3) := by decide +kernel
theorem d_W_told_47 : decode c_W_told 47 = .ok (.invokevirtual 181, 3) := by decide +kernel
theorem d_W_told_50 : decode c_W_told 50 = .ok (.aload_n 0, 1) := by decide +kernel
theorem d_W_told_51 : decode c_W_told 51 = .ok (.getfield 35, 3) := by decide +kernel
theorem d_W_told_54 : decode c_W_told 54 = .ok (.iload_n 1, 1) := by decide +kernel
theorem d_W_told_55 : decode c_W_told 55 = .ok (.iload_n 2, 1) := by decide +kernel
theorem d_W_told_56 : decode c_W_told 56 = .ok (.invokevirtual 184, 3) := by decide +kernel
theorem d_W_told_59 : decode c_W_told 59 = .ok (.ireturn, 1) := by decide +kernel
theorem d_W_mark_0 : decode c_W_mark 0 = .ok (.aload_n 0, 1) := by decide +kernel
theorem d_W_mark_1 : decode c_W_mark 1 = .ok (.getfield 35, 3) := by decide +kernel
theorem d_W_mark_4 : decode c_W_mark 4 = .ok (.iload_n 1, 1) := by decide +kernel
theorem d_W_mark_5 : decode c_W_mark 5 = .ok (.invokevirtual 163, 3) := by decide +kernel
theorem d_W_mark_8 : decode c_W_mark 8 = .ok (.ifCond .eq 12, 3) := by decide +kernel
theorem d_W_mark_11 : decode c_W_mark 11 = .ok (.iload_n 2, 1) := by decide +kernel
theorem d_W_mark_12 : decode c_W_mark 12 = .ok (.ifCond .lt 8, 3) := by decide +kernel
theorem d_W_mark_15 : decode c_W_mark 15 = .ok (.iload_n 2, 1) := by decide +kernel
theorem d_W_mark_16 : decode c_W_mark 16 = .ok (.iconst 3, 1) := by decide +kernel
theorem d_W_mark_17 : decode c_W_mark 17 = .ok (.if_icmp .le 5, 3) := by decide +kernel
theorem d_W_mark_20 : decode c_W_mark 20 = .ok (.iconst (-1), 1) := by decide +kernel
theorem d_W_mark_21 : decode c_W_mark 21 = .ok (.ireturn, 1) := by decide +kernel
theorem d_W_mark_22 : decode c_W_mark 22 = .ok (.aload_n 0, 1) := by decide +kernel
theorem d_W_mark_23 : decode c_W_mark 23 = .ok (.getfield 35, 3) := by decide +kernel
theorem d_W_mark_26 : decode c_W_mark 26 = .ok (.iload_n 1, 1) := by decide +kernel
theorem d_W_mark_27 : decode c_W_mark 27 = .ok (.invokevirtual 164, 3) := by decide +kernel
theorem d_W_mark_30 : decode c_W_mark 30 = .ok (.ifCond .eq 12, 3) := by decide +kernel
theorem d_W_mark_33 : decode c_W_mark 33 = .ok (.aload_n 0, 1) := by decide +kernel
theorem d_W_mark_34 : decode c_W_mark 34 = .ok (.getfield 10, 3) := by decide +kernel
theorem d_W_mark_37 : decode c_W_mark 37 = .ok (.iconst 1, 1) := by decide +kernel
theorem d_W_mark_38 : decode c_W_mark 38 = .ok (.invokevirtual 75, 3) := by decide +kernel
theorem d_W_mark_41 : decode c_W_mark 41 = .ok (.ireturn, 1) := by decide +kernel
theorem d_W_mark_42 : decode c_W_mark 42 = .ok (.aload_n 0, 1) := by decide +kernel
theorem d_W_mark_43 : decode c_W_mark 43 = .ok (.getfield 35, 3) := by decide +kernel
theorem d_W_mark_46 : decode c_W_mark 46 = .ok (.iload_n 1, 1) := by decide +kernel
theorem d_W_mark_47 : decode c_W_mark 47 = .ok (.invokevirtual 187, 3) := by decide +kernel
theorem d_W_mark_50 : decode c_W_mark 50 = .ok (.astore_n 3, 1) := by decide +kernel
theorem d_W_mark_51 : decode c_W_mark 51 = .ok (.aload_n 3, 1) := by decide +kernel
theorem d_W_mark_52 : decode c_W_mark 52 = .ok (.iload_n 2, 1) := by decide +kernel
theorem d_W_mark_53 : decode c_W_mark 53 = .ok (.invokevirtual 190, 3) := by decide +kernel
theorem d_W_mark_56 : decode c_W_mark 56 = .ok (.ifCond .ne 12, 3) := by decide +kernel
theorem d_W_mark_59 : decode c_W_mark 59 = .ok (.aload_n 0, 1) := by decide +kernel
theorem d_W_mark_60 : decode c_W_mark 60 = .ok (.getfield 10, 3) := by decide +kernel
theorem d_W_mark_63 : decode c_W_mark 63 = .ok (.iconst 3, 1) := by decide +kernel
theorem d_W_mark_64 : decode c_W_mark 64 = .ok (.invokevirtual 75, 3) := by decide +kernel
theorem d_W_mark_67 : decode c_W_mark 67 = .ok (.ireturn, 1) := by decide +kernel
theorem d_W_mark_68 : decode c_W_mark 68 = .ok (.aload_n 3, 1) := by decide +kernel
theorem d_W_mark_69 : decode c_W_mark 69 = .ok (.iload_n 2, 1) := by decide +kernel
theorem d_W_mark_70 : decode c_W_mark 70 = .ok (.invokevirtual 193, 3) := by decide +kernel
theorem d_W_mark_73 : decode c_W_mark 73 = .ok (.ireturn, 1) := by decide +kernel
theorem d_W_plan_0 : decode c_W_plan 0 = .ok (.iload_n 3, 1) := by decide +kernel
theorem d_W_plan_1 : decode c_W_plan 1 = .ok (.bipush (-9), 2) := by decide +kernel
theorem d_W_plan_3 : decode c_W_plan 3 = .ok (.if_icmp .eq 7, 3) := by decide +kernel
theorem d_W_plan_6 : decode c_W_plan 6 = .ok (.iconst 1, 1) := by decide +kernel
theorem d_W_plan_7 : decode c_W_plan 7 = .ok (.goto 4, 3) := by decide +kernel
theorem d_W_plan_10 : decode c_W_plan 10 = .ok (.iconst 0, 1) := by decide +kernel
theorem d_W_plan_11 : decode c_W_plan 11 = .ok (.istore 5, 2) := by decide +kernel
theorem d_W_plan_13 : decode c_W_plan 13 = .ok (.aload_n 0, 1) := by decide +kernel
theorem d_W_plan_14 : decode c_W_plan 14 = .ok (.getfield 35, 3) := by decide +kernel
theorem d_W_plan_17 : decode c_W_plan 17 = .ok (.iload_n 1, 1) := by decide +kernel
theorem d_W_plan_18 : decode c_W_plan 18 = .ok (.invokevirtual 163, 3) := by decide +kernel
theorem d_W_plan_21 : decode c_W_plan 21 = .ok (.ifCond .eq 35, 3) := by decide +kernel
theorem d_W_plan_24 : decode c_W_plan 24 = .ok (.iload_n 2, 1) := by decide +kernel
theorem d_W_plan_25 : decode c_W_plan 25 = .ok (.invokestatic 71, 3) := by decide +kernel
theorem d_W_plan_28 : decode c_W_plan 28 = .ok (.ifCond .eq 28, 3) := by decide +kernel
theorem d_W_plan_31 : decode c_W_plan 31 = .ok (.iload 5, 2) := by decide +kernel
theorem d_W_plan_33 : decode c_W_plan 33 = .ok (.ifCond .eq 10, 3) := by decide +kernel
theorem d_W_plan_36 : decode c_W_plan 36 = .ok (.iload_n 3, 1) := by decide +kernel
theorem d_W_plan_37 : decode c_W_plan 37 = .ok (.invokestatic 71, 3) := by decide +kernel
theorem d_W_plan_40 : decode c_W_plan 40 = .ok (.ifCond .eq 16, 3) := by decide +kernel
theorem d_W_plan_43 : decode c_W_plan 43 = .ok (.iload 4, 2) := by decide +kernel
theorem d_W_plan_45 : decode c_W_plan 45 = .ok (.ifCond .lt 11, 3) := by decide +kernel
theorem d_W_plan_48 : decode c_W_plan 48 = .ok (.iload 4, 2) := by decide +kernel
theorem d_W_plan_50 : decode c_W_plan 50 = .ok (.sipush 14400, 3) := by decide +kernel
theorem d_W_plan_53 : decode c_W_plan 53 = .ok (.if_icmp .lt 5, 3) := by decide +kernel
theorem d_W_plan_56 : decode c_W_plan 56 = .ok (.iconst (-1), 1) := by decide +kernel
theorem d_W_plan_57 : decode c_W_plan 57 = .ok (.ireturn, 1) := by decide +kernel
theorem d_W_plan_58 : decode c_W_plan 58 = .ok (.aload_n 0, 1) := by decide +kernel
theorem d_W_plan_59 : decode c_W_plan 59 = .ok (.getfield 35, 3) := by decide +kernel
theorem d_W_plan_62 : decode c_W_plan 62 = .ok (.iload_n 1, 1) := by decide +kernel
theorem d_W_plan_63 : decode c_W_plan 63 = .ok (.invokevirtual 164, 3) := by decide +kernel
theorem d_W_plan_66 : decode c_W_plan 66 = .ok (.ifCond .ne 30, 3) := by decide +kernel
theorem d_W_plan_69 : decode c_W_plan 69 = .ok (.aload_n 0, 1) := by decide +kernel
theorem d_W_plan_70 : decode c_W_plan 70 = .ok (.getfield 19, 3) := by decide +kernel
theorem d_W_plan_73 : decode c_W_plan 73 = .ok (.iload_n 2, 1) := by decide +kernel
theorem d_W_plan_74 : decode c_W_plan 74 = .ok (.invokevirtual 83, 3) := by decide +kernel
theorem d_W_plan_77 : decode c_W_plan 77 = .ok (.ifCond .ne 19, 3) := by decide +kernel
theorem d_W_plan_80 : decode c_W_plan 80 = .ok (.iload 5, 2) := by decide +kernel
theorem d_W_plan_82 : decode c_W_plan 82 = .ok (.ifCond .eq 23, 3) := by decide +kernel
theorem d_W_plan_85 : decode c_W_plan 85 = .ok (.aload_n 0, 1) := by decide +kernel
theorem d_W_plan_86 : decode c_W_plan 86 = .ok (.getfield 19, 3) := by decide +kernel
theorem d_W_plan_89 : decode c_W_plan 89 = .ok (.iload_n 3, 1) := by decide +kernel
theorem d_W_plan_90 : decode c_W_plan 90 = .ok (.invokevirtual 83, 3) := by decide +kernel
theorem d_W_plan_93 : decode c_W_plan 93 = .ok (.ifCond .eq 12, 3) := by decide +kernel
theorem d_W_plan_96 : decode c_W_plan 96 = .ok (.aload_n 0, 1) := by decide +kernel
theorem d_W_plan_97 : decode c_W_plan 97 = .ok (.getfield 10, 3) := by decide +kernel
theorem d_W_plan_100 : decode c_W_plan 100 = .ok (.iconst 1, 1) := by decide +kernel
theorem d_W_plan_101 : decode c_W_plan 101 = .ok (.invokevirtual 75, 3) := by decide +kernel
theorem d_W_plan_104 : decode c_W_plan 104 = .ok (.ireturn, 1) := by decide +kernel
theorem d_W_plan_105 : decode c_W_plan 105 = .ok (.aload_n 0, 1) := by decide +kernel
theorem d_W_plan_106 : decode c_W_plan 106 = .ok (.getfield 35, 3) := by decide +kernel
theorem d_W_plan_109 : decode c_W_plan 109 = .ok (.iload_n 1, 1) := by decide +kernel
theorem d_W_plan_110 : decode c_W_plan 110 = .ok (.invokevirtual 187, 3) := by decide +kernel
theorem d_W_plan_113 : decode c_W_plan 113 = .ok (.getfield 196, 3) := by decide +kernel
theorem d_W_plan_116 : decode c_W_plan 116 = .ok (.iconst 3, 1) := by decide +kernel
theorem d_W_plan_117 : decode c_W_plan 117 = .ok (.if_icmp .ne 12, 3) := by decide +kernel
theorem d_W_plan_120 : decode c_W_plan 120 = .ok (.aload_n 0, 1) := by decide +kernel
theorem d_W_plan_121 : decode c_W_plan 121 = .ok (.getfield 10, 3) := by decide +kernel
theorem d_W_plan_124 : decode c_W_plan 124 = .ok (.iconst 3, 1) := by decide +kernel
theorem d_W_plan_125 : decode c_W_plan 125 = .ok (.invokevirtual 75, 3) := by decide +kernel
theorem d_W_plan_128 : decode c_W_plan 128 = .ok (.ireturn, 1) := by decide +kernel
theorem d_W_plan_129 : decode c_W_plan 129 = .ok (.aload_n 0, 1) := by decide +kernel
theorem d_W_plan_130 : decode c_W_plan 130 = .ok (.getfield 19, 3) := by decide +kernel
theorem d_W_plan_133 : decode c_W_plan 133 = .ok (.iload_n 2, 1) := by decide +kernel
theorem d_W_plan_134 : decode c_W_plan 134 = .ok (.invokevirtual 86, 3) := by decide +kernel
theorem d_W_plan_137 : decode c_W_plan 137 = .ok (.istore 6, 2) := by decide +kernel
theorem d_W_plan_139 : decode c_W_plan 139 = .ok (.iload 6, 2) := by decide +kernel
theorem d_W_plan_141 : decode c_W_plan 141 = .ok (.iconst 2, 1) := by decide +kernel
theorem d_W_plan_142 : decode c_W_plan 142 = .ok (.if_icmp .lt 10, 3) := by decide +kernel
theorem d_W_plan_145 : decode c_W_plan 145 = .ok (.iload 6, 2) := by decide +kernel
theorem d_W_plan_147 : decode c_W_plan 147 = .ok (.bipush 24, 2) := by decide +kernel
theorem d_W_plan_149 : decode c_W_plan 149 = .ok (.if_icmp .le 12, 3) := by decide +kernel
theorem d_W_plan_152 : decode c_W_plan 152 = .ok (.aload_n 0, 1) := by decide +kernel
theorem d_W_plan_153 : decode c_W_plan 153 = .ok (.getfield 10, 3) := by decide +kernel
theorem d_W_plan_156 : decode c_W_plan 156 = .ok (.iconst 5, 1) := by decide +kernel
theorem d_W_plan_157 : decode c_W_plan 157 = .ok (.invokevirtual 75, 3) := by decide +kernel
theorem d_W_plan_160 : decode c_W_plan 160 = .ok (.ireturn, 1) := by decide +kernel
theorem d_W_plan_161 : decode c_W_plan 161 = .ok (.aload_n 0, 1) := by decide +kernel
theorem d_W_plan_162 : decode c_W_plan 162 = .ok (.getfield 19, 3) := by decide +kernel
theorem d_W_plan_165 : decode c_W_plan 165 = .ok (.iload_n 2, 1) := by decide +kernel
theorem d_W_plan_166 : decode c_W_plan 166 = .ok (.iconst 0, 1) := by decide +kernel
theorem d_W_plan_167 : decode c_W_plan 167 = .ok (.bipush 15, 2) := by decide +kernel
theorem d_W_plan_169 : decode c_W_plan 169 = .ok (.invokevirtual 112, 3) := by decide +kernel
theorem d_W_plan_172 : decode c_W_plan 172 = .ok (.ifCond .eq 14, 3) := by decide +kernel
theorem d_W_plan_175 : decode c_W_plan 175 = .ok (.aload_n 0, 1) := by decide +kernel
theorem d_W_plan_176 : decode c_W_plan 176 = .ok (.getfield 19, 3) := by decide +kernel
theorem d_W_plan_179 : decode c_W_plan 179 = .ok (.iload_n 2, 1) := by decide +kernel
theorem d_W_plan_180 : decode c_W_plan 180 = .ok (.invokevirtual 197, 3) := by decide +kernel
theorem d_W_plan_183 : decode c_W_plan 183 = .ok (.ifCond .eq 12, 3) := by decide +kernel
theorem d_W_plan_186 : decode c_W_plan 186 = .ok (.aload_n 0, 1) := by decide +kernel
theorem d_W_plan_187 : decode c_W_plan 187 = .ok (.getfield 10, 3) := by decide +kernel
theorem d_W_plan_190 : decode c_W_plan 190 = .ok (.iconst 2, 1) := by decide +kernel
theorem d_W_plan_191 : decode c_W_plan 191 = .ok (.invokevirtual 75, 3) := by decide +kernel
theorem d_W_plan_194 : decode c_W_plan 194 = .ok (.ireturn, 1) := by decide +kernel
theorem d_W_plan_195 : decode c_W_plan 195 = .ok (.aload_n 0, 1) := by decide +kernel
theorem d_W_plan_196 : decode c_W_plan 196 = .ok (.aload_n 0, 1) := by decide +kernel
theorem d_W_plan_197 : decode c_W_plan 197 = .ok (.getfield 35, 3) := by decide +kernel
theorem d_W_plan_200 : decode c_W_plan 200 = .ok (.iload_n 1, 1) := by decide +kernel
theorem d_W_plan_201 : decode c_W_plan 201 = .ok (.invokevirtual 165, 3) := by decide +kernel
theorem d_W_plan_204 : decode c_W_plan 204 = .ok (.iload_n 2, 1) := by decide +kernel
theorem d_W_plan_205 : decode c_W_plan 205 = .ok (.iload_n 3, 1) := by decide +kernel
theorem d_W_plan_206 : decode c_W_plan 206 = .ok (.iload 4, 2) := by decide +kernel
theorem d_W_plan_208 : decode c_W_plan 208 = .ok (.invokevirtual 200, 3) := by decide +kernel
theorem d_W_plan_211 : decode c_W_plan 211 = .ok (.iload 6, 2) := by decide +kernel
theorem d_W_plan_213 : decode c_W_plan 213 = .ok (.ireturn, 1) := by decide +kernel
theorem d_W_unplan_0 : decode c_W_unplan 0 = .ok (.aload_n 0, 1) := by decide +kernel
theorem d_W_unplan_1 : decode c_W_unplan 1 = .ok (.getfield 35, 3) := by decide +kernel
theorem d_W_unplan_4 : decode c_W_unplan 4 = .ok (.iload_n 1, 1) := by decide +kernel
theorem d_W_unplan_5 : decode c_W_unplan 5 = .ok (.invokevirtual 163, 3) := by decide +kernel
theorem d_W_unplan_8 : decode c_W_unplan 8 = .ok (.ifCond .ne 5, 3) := by decide +kernel
theorem d_W_unplan_11 : decode c_W_unplan 11 = .ok (.iconst (-1), 1) := by decide +kernel
theorem d_W_unplan_12 : decode c_W_unplan 12 = .ok (.ireturn, 1) := by decide +kernel
theorem d_W_unplan_13 : decode c_W_unplan 13 = .ok (.aload_n 0, 1) := by decide +kernel
theorem d_W_unplan_14 : decode c_W_unplan 14 = .ok (.getfield 35, 3) := by decide +kernel
theorem d_W_unplan_17 : decode c_W_unplan 17 = .ok (.iload_n 1, 1) := by decide +kernel
theorem d_W_unplan_18 : decode c_W_unplan 18 = .ok (.invokevirtual 164, 3) := by decide +kernel
theorem d_W_unplan_21 : decode c_W_unplan 21 = .ok (.ifCond .eq 12, 3) := by decide +kernel
theorem d_W_unplan_24 : decode c_W_unplan 24 = .ok (.aload_n 0, 1) := by decide +kernel
theorem d_W_unplan_25 : decode c_W_unplan 25 = .ok (.getfield 10, 3) := by decide +kernel
theorem d_W_unplan_28 : decode c_W_unplan 28 = .ok (.iconst 1, 1) := by decide +kernel
theorem d_W_unplan_29 : decode c_W_unplan 29 = .ok (.invokevirtual 75, 3) := by decide +kernel
theorem d_W_unplan_32 : decode c_W_unplan 32 = .ok (.ireturn, 1) := by decide +kernel
theorem d_W_unplan_33 : decode c_W_unplan 33 = .ok (.aload_n 0, 1) := by decide +kernel
theorem d_W_unplan_34 : decode c_W_unplan 34 = .ok (.getfield 35, 3) := by decide +kernel
theorem d_W_unplan_37 : decode c_W_unplan 37 = .ok (.iload_n 1, 1) := by decide +kernel
theorem d_W_unplan_38 : decode c_W_unplan 38 = .ok (.invokevirtual 165, 3) := by decide +kernel
theorem d_W_unplan_41 : decode c_W_unplan 41 = .ok (.astore_n 2, 1) := by decide +kernel
theorem d_W_unplan_42 : decode c_W_unplan 42 = .ok (.aload_n 2, 1) := by decide +kernel
theorem d_W_unplan_43 : decode c_W_unplan 43 = .ok (.getfield 204, 3) := by decide +kernel
theorem d_W_unplan_46 : decode c_W_unplan 46 = .ok (.istore_n 3, 1) := by decide +kernel
theorem d_W_unplan_47 : decode c_W_unplan 47 = .ok (.aload_n 2, 1) := by decide +kernel
theorem d_W_unplan_48 : decode c_W_unplan 48 = .ok (.iconst 0, 1) := by decide +kernel
theorem d_W_unplan_49 : decode c_W_unplan 49 = .ok (.putfield 204, 3) := by decide +kernel
theorem d_W_unplan_52 : decode c_W_unplan 52 = .ok (.iload_n 3, 1) := by decide +kernel
theorem d_W_unplan_53 : decode c_W_unplan 53 = .ok (.ireturn, 1) := by decide +kernel
theorem d_W_planned_0 : decode c_W_planned 0 = .ok (.aload_n 0, 1) := by decide +kernel
theorem d_W_planned_1 : decode c_W_planned 1 = .ok (.getfield 35, 3) := by decide +kernel
theorem d_W_planned_4 : decode c_W_planned 4 = .ok (.iload_n 1, 1) := by decide +kernel
theorem d_W_planned_5 : decode c_W_planned 5 = .ok (.invokevirtual 163, 3) := by decide +kernel
theorem d_W_planned_8 : decode c_W_planned 8 = .ok (.ifCond .ne 5, 3) := by decide +kernel
theorem d_W_planned_11 : decode c_W_planned 11 = .ok (.iconst (-1), 1) := by decide +kernel
theorem d_W_planned_12 : decode c_W_planned 12 = .ok (.ireturn, 1) := by decide +kernel
theorem d_W_planned_13 : decode c_W_planned 13 = .ok (.aload_n 0, 1) := by decide +kernel
theorem d_W_planned_14 : decode c_W_planned 14 = .ok (.getfield 35, 3) := by decide +kernel
theorem d_W_planned_17 : decode c_W_planned 17 = .ok (.iload_n 1, 1) := by decide +kernel
theorem d_W_planned_18 : decode c_W_planned 18 = .ok (.invokevirtual 164, 3) := by decide +kernel
theorem d_W_planned_21 : decode c_W_planned 21 = .ok (.ifCond .eq 12, 3) := by decide +kernel
theorem d_W_planned_24 : decode c_W_planned 24 = .ok (.aload_n 0, 1) := by decide +kernel
theorem d_W_planned_25 : decode c_W_planned 25 = .ok (.getfield 10, 3) := by decide +kernel
theorem d_W_planned_28 : decode c_W_planned 28 = .ok (.iconst 1, 1) := by decide +kernel
theorem d_W_planned_29 : decode c_W_planned 29 = .ok (.invokevirtual 75, 3) := by decide +kernel
theorem d_W_planned_32 : decode c_W_planned 32 = .ok (.ireturn, 1) := by decide +kernel
theorem d_W_planned_33 : decode c_W_planned 33 = .ok (.aload_n 0, 1) := by decide +kernel
theorem d_W_planned_34 : decode c_W_planned 34 = .ok (.getfield 35, 3) := by decide +kernel
theorem d_W_planned_37 : decode c_W_planned 37 = .ok (.iload_n 1, 1) := by decide +kernel
theorem d_W_planned_38 : decode c_W_planned 38 = .ok (.invokevirtual 187, 3) := by decide +kernel
theorem d_W_planned_41 : decode c_W_planned 41 = .ok (.astore 4, 2) := by decide +kernel
theorem d_W_planned_43 : decode c_W_planned 43 = .ok (.iload_n 2, 1) := by decide +kernel
theorem d_W_planned_44 : decode c_W_planned 44 = .ok (.ifCond .lt 12, 3) := by decide +kernel
theorem d_W_planned_47 : decode c_W_planned 47 = .ok (.iload_n 2, 1) := by decide +kernel
theorem d_W_planned_48 : decode c_W_planned 48 = .ok (.aload 4, 2) := by decide +kernel
theorem d_W_planned_50 : decode c_W_planned 50 = .ok (.getfield 204, 3) := by decide +kernel
theorem d_W_planned_53 : decode c_W_planned 53 = .ok (.if_icmp .lt 12, 3) := by decide +kernel
theorem d_W_planned_56 : decode c_W_planned 56 = .ok (.aload_n 0, 1) := by decide +kernel
theorem d_W_planned_57 : decode c_W_planned 57 = .ok (.getfield 10, 3) := by decide +kernel
theorem d_W_planned_60 : decode c_W_planned 60 = .ok (.iconst 2, 1) := by decide +kernel
theorem d_W_planned_61 : decode c_W_planned 61 = .ok (.invokevirtual 75, 3) := by decide +kernel
theorem d_W_planned_64 : decode c_W_planned 64 = .ok (.ireturn, 1) := by decide +kernel
theorem d_W_planned_65 : decode c_W_planned 65 = .ok (.iload_n 3, 1) := by decide +kernel
theorem d_W_planned_66 : decode c_W_planned 66 = .ok (.ifCond .eq 13, 3) := by decide +kernel
theorem d_W_planned_69 : decode c_W_planned 69 = .ok (.aload 4, 2) := by decide +kernel
theorem d_W_planned_71 : decode c_W_planned 71 = .ok (.getfield 207, 3) := by decide +kernel
theorem d_W_planned_74 : decode c_W_planned 74 = .ok (.iload_n 2, 1) := by decide +kernel
theorem d_W_planned_75 : decode c_W_planned 75 = .ok (.iaload, 1) := by decide +kernel
theorem d_W_planned_76 : decode c_W_planned 76 = .ok (.goto 10, 3) := by decide +kernel
theorem d_W_planned_79 : decode c_W_planned 79 = .ok (.aload 4, 2) := by decide +kernel
theorem d_W_planned_81 : decode c_W_planned 81 = .ok (.getfield 211, 3) := by decide +kernel
theorem d_W_planned_84 : decode c_W_planned 84 = .ok (.iload_n 2, 1) := by decide +kernel
theorem d_W_planned_85 : decode c_W_planned 85 = .ok (.iaload, 1) := by decide +kernel
theorem d_W_planned_86 : decode c_W_planned 86 = .ok (.ireturn, 1) := by decide +kernel
theorem d_W_fit_0 : decode c_W_fit 0 = .ok (.aload_n 0, 1) := by decide +kernel
theorem d_W_fit_1 : decode c_W_fit 1 = .ok (.getfield 35, 3) := by decide +kernel
theorem d_W_fit_4 : decode c_W_fit 4 = .ok (.iload_n 1, 1) := by decide +kernel
theorem d_W_fit_5 : decode c_W_fit 5 = .ok (.invokevirtual 163, 3) := by decide +kernel
theorem d_W_fit_8 : decode c_W_fit 8 = .ok (.ifCond .ne 5, 3) := by decide +kernel
theorem d_W_fit_11 : decode c_W_fit 11 = .ok (.iconst (-1), 1) := by decide +kernel
theorem d_W_fit_12 : decode c_W_fit 12 = .ok (.ireturn, 1) := by decide +kernel
theorem d_W_fit_13 : decode c_W_fit 13 = .ok (.aload_n 0, 1) := by decide +kernel
theorem d_W_fit_14 : decode c_W_fit 14 = .ok (.getfield 35, 3) := by decide +kernel
theorem d_W_fit_17 : decode c_W_fit 17 = .ok (.iload_n 1, 1) := by decide +kernel
theorem d_W_fit_18 : decode c_W_fit 18 = .ok (.invokevirtual 164, 3) := by decide +kernel
theorem d_W_fit_21 : decode c_W_fit 21 = .ok (.ifCond .eq 12, 3) := by decide +kernel
theorem d_W_fit_24 : decode c_W_fit 24 = .ok (.aload_n 0, 1) := by decide +kernel
theorem d_W_fit_25 : decode c_W_fit 25 = .ok (.getfield 10, 3) := by decide +kernel
theorem d_W_fit_28 : decode c_W_fit 28 = .ok (.iconst 1, 1) := by decide +kernel
theorem d_W_fit_29 : decode c_W_fit 29 = .ok (.invokevirtual 75, 3) := by decide +kernel
theorem d_W_fit_32 : decode c_W_fit 32 = .ok (.ireturn, 1) := by decide +kernel
theorem d_W_fit_33 : decode c_W_fit 33 = .ok (.aload_n 0, 1) := by decide +kernel
theorem d_W_fit_34 : decode c_W_fit 34 = .ok (.getfield 35, 3) := by decide +kernel
theorem d_W_fit_37 : decode c_W_fit 37 = .ok (.iload_n 1, 1) := by decide +kernel
theorem d_W_fit_38 : decode c_W_fit 38 = .ok (.invokevirtual 187, 3) := by decide +kernel
theorem d_W_fit_41 : decode c_W_fit 41 = .ok (.aload_n 0, 1) := by decide +kernel
theorem d_W_fit_42 : decode c_W_fit 42 = .ok (.getfield 26, 3) := by decide +kernel
theorem d_W_fit_45 : decode c_W_fit 45 = .ok (.invokevirtual 213, 3) := by decide +kernel
theorem d_W_fit_48 : decode c_W_fit 48 = .ok (.ireturn, 1) := by decide +kernel
theorem d_W_where_0 : decode c_W_where 0 = .ok (.aload_n 0, 1) := by decide +kernel
theorem d_W_where_1 : decode c_W_where 1 = .ok (.getfield 35, 3) := by decide +kernel
theorem d_W_where_4 : decode c_W_where 4 = .ok (.iload_n 1, 1) := by decide +kernel
theorem d_W_where_5 : decode c_W_where 5 = .ok (.invokevirtual 163, 3) := by decide +kernel
theorem d_W_where_8 : decode c_W_where 8 = .ok (.ifCond .eq 19, 3) := by decide +kernel
theorem d_W_where_11 : decode c_W_where 11 = .ok (.iload_n 2, 1) := by decide +kernel
theorem d_W_where_12 : decode c_W_where 12 = .ok (.invokestatic 217, 3) := by decide +kernel
theorem d_W_where_15 : decode c_W_where 15 = .ok (.ifCond .eq 12, 3) := by decide +kernel
theorem d_W_where_18 : decode c_W_where 18 = .ok (.iload_n 3, 1) := by decide +kernel
theorem d_W_where_19 : decode c_W_where 19 = .ok (.ifCond .lt 8, 3) := by decide +kernel
theorem d_W_where_22 : decode c_W_where 22 = .ok (.iload_n 3, 1) := by decide +kernel
theorem d_W_where_23 : decode c_W_where 23 = .ok (.iconst 2, 1) := by decide +kernel
theorem d_W_where_24 : decode c_W_where 24 = .ok (.if_icmp .le 5, 3) := by decide +kernel
theorem d_W_where_27 : decode c_W_where 27 = .ok (.iconst (-1), 1) := by decide +kernel
theorem d_W_where_28 : decode c_W_where 28 = .ok (.ireturn, 1) := by decide +kernel
theorem d_W_where_29 : decode c_W_where 29 = .ok (.aload_n 0, 1) := by decide +kernel
theorem d_W_where_30 : decode c_W_where 30 = .ok (.getfield 35, 3) := by decide +kernel
theorem d_W_where_33 : decode c_W_where 33 = .ok (.iload_n 1, 1) := by decide +kernel
theorem d_W_where_34 : decode c_W_where 34 = .ok (.invokevirtual 164, 3) := by decide +kernel
theorem d_W_where_37 : decode c_W_where 37 = .ok (.ifCond .eq 12, 3) := by decide +kernel
theorem d_W_where_40 : decode c_W_where 40 = .ok (.aload_n 0, 1) := by decide +kernel
theorem d_W_where_41 : decode c_W_where 41 = .ok (.getfield 10, 3) := by decide +kernel
theorem d_W_where_44 : decode c_W_where 44 = .ok (.iconst 1, 1) := by decide +kernel
theorem d_W_where_45 : decode c_W_where 45 = .ok (.invokevirtual 75, 3) := by decide +kernel
theorem d_W_where_48 : decode c_W_where 48 = .ok (.ireturn, 1) := by decide +kernel
theorem d_W_where_49 : decode c_W_where 49 = .ok (.aload_n 0, 1) := by decide +kernel
theorem d_W_where_50 : decode c_W_where 50 = .ok (.getfield 35, 3) := by decide +kernel
theorem d_W_where_53 : decode c_W_where 53 = .ok (.invokevirtual 181, 3) := by decide +kernel
theorem d_W_where_56 : decode c_W_where 56 = .ok (.aload_n 0, 1) := by decide +kernel
theorem d_W_where_57 : decode c_W_where 57 = .ok (.getfield 35, 3) := by decide +kernel
theorem d_W_where_60 : decode c_W_where 60 = .ok (.iload_n 1, 1) := by decide +kernel
theorem d_W_where_61 : decode c_W_where 61 = .ok (.invokevirtual 220, 3) := by decide +kernel
theorem d_W_where_64 : decode c_W_where 64 = .ok (.ifCond .ne 6, 3) := by decide +kernel
theorem d_W_where_67 : decode c_W_where 67 = .ok (.bipush (-4), 2) := by decide +kernel
theorem d_W_where_69 : decode c_W_where 69 = .ok (.ireturn, 1) := by decide +kernel
theorem d_W_where_70 : decode c_W_where 70 = .ok (.aload_n 0, 1) := by decide +kernel
theorem d_W_where_71 : decode c_W_where 71 = .ok (.getfield 35, 3) := by decide +kernel
theorem d_W_where_74 : decode c_W_where 74 = .ok (.iload_n 1, 1) := by decide +kernel
theorem d_W_where_75 : decode c_W_where 75 = .ok (.invokevirtual 187, 3) := by decide +kernel
theorem d_W_where_78 : decode c_W_where 78 = .ok (.iload_n 2, 1) := by decide +kernel
theorem d_W_where_79 : decode c_W_where 79 = .ok (.iload_n 3, 1) := by decide +kernel
theorem d_W_where_80 : decode c_W_where 80 = .ok (.invokevirtual 223, 3) := by decide +kernel
theorem d_W_where_83 : decode c_W_where 83 = .ok (.ireturn, 1) := by decide +kernel
theorem d_W_joint_0 : decode c_W_joint 0 = .ok (.aload_n 0, 1) := by decide +kernel
theorem d_W_joint_1 : decode c_W_joint 1 = .ok (.getfield 35, 3) := by decide +kernel
theorem d_W_joint_4 : decode c_W_joint 4 = .ok (.invokevirtual 181, 3) := by decide +kernel
theorem d_W_joint_7 : decode c_W_joint 7 = .ok (.aload_n 0, 1) := by decide +kernel
theorem d_W_joint_8 : decode c_W_joint 8 = .ok (.getfield 35, 3) := by decide +kernel
theorem d_W_joint_11 : decode c_W_joint 11 = .ok (.aload_n 0, 1) := by decide +kernel
theorem d_W_joint_12 : decode c_W_joint 12 = .ok (.getfield 35, 3) := by decide +kernel
theorem d_W_joint_15 : decode c_W_joint 15 = .ok (.getfield 226, 3) := by decide +kernel
theorem d_W_joint_18 : decode c_W_joint 18 = .ok (.invokevirtual 229, 3) := by decide +kernel
theorem d_W_joint_21 : decode c_W_joint 21 = .ok (.ireturn, 1) := by decide +kernel
theorem d_W_seen_0 : decode c_W_seen 0 = .ok (.iload_n 1, 1) := by decide +kernel
theorem d_W_seen_1 : decode c_W_seen 1 = .ok (.invokestatic 217, 3) := by decide +kernel
theorem d_W_seen_4 : decode c_W_seen 4 = .ok (.ifCond .ne 5, 3) := by decide +kernel
theorem d_W_seen_7 : decode c_W_seen 7 = .ok (.iconst (-1), 1) := by decide +kernel
theorem d_W_seen_8 : decode c_W_seen 8 = .ok (.ireturn, 1) := by decide +kernel
theorem d_W_seen_9 : decode c_W_seen 9 = .ok (.aload_n 0, 1) := by decide +kernel
theorem d_W_seen_10 : decode c_W_seen 10 = .ok (.invokevirtual 232, 3) := by decide +kernel
theorem d_W_seen_13 : decode c_W_seen 13 = .ok (.iconst 1, 1) := by decide +kernel
theorem d_W_seen_14 : decode c_W_seen 14 = .ok (.if_icmp .ge 6, 3) := by decide +kernel
theorem d_W_seen_17 : decode c_W_seen 17 = .ok (.bipush (-6), 2) := by decide +kernel
theorem d_W_seen_19 : decode c_W_seen 19 = .ok (.ireturn, 1) := by decide +kernel
theorem d_W_seen_20 : decode c_W_seen 20 = .ok (.aload_n 0, 1) := by decide +kernel
theorem d_W_seen_21 : decode c_W_seen 21 = .ok (.getfield 10, 3) := by decide +kernel
theorem d_W_seen_24 : decode c_W_seen 24 = .ok (.aload_n 0, 1) := by decide +kernel
theorem d_W_seen_25 : decode c_W_seen 25 = .ok (.getfield 35, 3) := by decide +kernel
theorem d_W_seen_28 : decode c_W_seen 28 = .ok (.iload_n 1, 1) := by decide +kernel
theorem d_W_seen_29 : decode c_W_seen 29 = .ok (.invokevirtual 236, 3) := by decide +kernel
theorem d_W_seen_32 : decode c_W_seen 32 = .ok (.putfield 239, 3) := by decide +kernel
theorem d_W_seen_35 : decode c_W_seen 35 = .ok (.aload_n 0, 1) := by decide +kernel
theorem d_W_seen_36 : decode c_W_seen 36 = .ok (.getfield 10, 3) := by decide +kernel
theorem d_W_seen_39 : decode c_W_seen 39 = .ok (.getfield 239, 3) := by decide +kernel
theorem d_W_seen_42 : decode c_W_seen 42 = .ok (.invokestatic 242, 3) := by decide +kernel
theorem d_W_seen_45 : decode c_W_seen 45 = .ok (.ireturn, 1) := by decide +kernel
theorem d_W_idle_0 : decode c_W_idle 0 = .ok (.aload_n 0, 1) := by decide +kernel
theorem d_W_idle_1 : decode c_W_idle 1 = .ok (.iload_n 1, 1) := by decide +kernel
theorem d_W_idle_2 : decode c_W_idle 2 = .ok (.iconst 1, 1) := by decide +kernel
theorem d_W_idle_3 : decode c_W_idle 3 = .ok (.invokevirtual 247, 3) := by decide +kernel
theorem d_W_idle_6 : decode c_W_idle 6 = .ok (.istore_n 2, 1) := by decide +kernel
theorem d_W_idle_7 : decode c_W_idle 7 = .ok (.iload_n 2, 1) := by decide +kernel
theorem d_W_idle_8 : decode c_W_idle 8 = .ok (.ifCond .ge 7, 3) := by decide +kernel
theorem d_W_idle_11 : decode c_W_idle 11 = .ok (.iload_n 2, 1) := by decide +kernel
theorem d_W_idle_12 : decode c_W_idle 12 = .ok (.goto 11, 3) := by decide +kernel
theorem d_W_idle_15 : decode c_W_idle 15 = .ok (.aload_n 0, 1) := by decide +kernel
theorem d_W_idle_16 : decode c_W_idle 16 = .ok (.getfield 44, 3) := by decide +kernel
theorem d_W_idle_19 : decode c_W_idle 19 = .ok (.iload_n 1, 1) := by decide +kernel
theorem d_W_idle_20 : decode c_W_idle 20 = .ok (.invokevirtual 250, 3) := by decide +kernel
theorem d_W_idle_23 : decode c_W_idle 23 = .ok (.ireturn, 1) := by decide +kernel
theorem d_W_idleFrom_0 : decode c_W_idleFrom 0 = .ok (.aload_n 0, 1) := by decide +kernel
theorem d_W_idleFrom_1 : decode c_W_idleFrom 1 = .ok (.iload_n 1, 1) := by decide +kernel
theorem d_W_idleFrom_2 : decode c_W_idleFrom 2 = .ok (.iconst 1, 1) := by decide +kernel
theorem d_W_idleFrom_3 : decode c_W_idleFrom 3 = .ok (.invokevirtual 247, 3) := by decide +kernel
theorem d_W_idleFrom_6 : decode c_W_idleFrom 6 = .ok (.istore_n 2, 1) := by decide +kernel
theorem d_W_idleFrom_7 : decode c_W_idleFrom 7 = .ok (.iload_n 2, 1) := by decide +kernel
theorem d_W_idleFrom_8 : decode c_W_idleFrom 8 = .ok (.ifCond .ge 7, 3) := by decide +kernel
theorem d_W_idleFrom_11 : decode c_W_idleFrom 11 = .ok (.iload_n 2, 1) := by decide +kernel
theorem d_W_idleFrom_12 : decode c_W_idleFrom 12 = .ok (.goto 11, 3) := by decide +kernel
theorem d_W_idleFrom_15 : decode c_W_idleFrom 15 = .ok (.aload_n 0, 1) := by decide +kernel
theorem d_W_idleFrom_16 : decode c_W_idleFrom 16 = .ok (.getfield 44, 3) := by decide +kernel
theorem d_W_idleFrom_19 : decode c_W_idleFrom 19 = .ok (.iload_n 1, 1) := by decide +kernel
theorem d_W_idleFrom_20 : decode c_W_idleFrom 20 = .ok (.invokevirtual 253, 3) := by decide +kernel
theorem d_W_idleFrom_23 : decode c_W_idleFrom 23 = .ok (.ireturn, 1) := by decide +kernel
theorem d_W_worst_0 : decode c_W_worst 0 = .ok (.aload_n 0, 1) := by decide +kernel
theorem d_W_worst_1 : decode c_W_worst 1 = .ok (.invokevirtual 232, 3) := by decide +kernel
theorem d_W_worst_4 : decode c_W_worst 4 = .ok (.iconst 1, 1) := by decide +kernel
theorem d_W_worst_5 : decode c_W_worst 5 = .ok (.if_icmp .ge 6, 3) := by decide +kernel
theorem d_W_worst_8 : decode c_W_worst 8 = .ok (.bipush (-6), 2) := by decide +kernel
theorem d_W_worst_10 : decode c_W_worst 10 = .ok (.ireturn, 1) := by decide +kernel
theorem d_W_worst_11 : decode c_W_worst 11 = .ok (.aload_n 0, 1) := by decide +kernel
theorem d_W_worst_12 : decode c_W_worst 12 = .ok (.getfield 44, 3) := by decide +kernel
theorem d_W_worst_15 : decode c_W_worst 15 = .ok (.aload_n 0, 1) := by decide +kernel
theorem d_W_worst_16 : decode c_W_worst 16 = .ok (.getfield 35, 3) := by decide +kernel
theorem d_W_worst_19 : decode c_W_worst 19 = .ok (.getfield 226, 3) := by decide +kernel
theorem d_W_worst_22 : decode c_W_worst 22 = .ok (.aload_n 0, 1) := by decide +kernel
theorem d_W_worst_23 : decode c_W_worst 23 = .ok (.getfield 26, 3) := by decide +kernel
theorem d_W_worst_26 : decode c_W_worst 26 = .ok (.invokevirtual 256, 3) := by decide +kernel
theorem d_W_worst_29 : decode c_W_worst 29 = .ok (.iconst 1, 1) := by decide +kernel
theorem d_W_worst_30 : decode c_W_worst 30 = .ok (.invokevirtual 259, 3) := by decide +kernel
theorem d_W_worst_33 : decode c_W_worst 33 = .ok (.aload_n 0, 1) := by decide +kernel
theorem d_W_worst_34 : decode c_W_worst 34 = .ok (.getfield 44, 3) := by decide +kernel
theorem d_W_worst_37 : decode c_W_worst 37 = .ok (.invokevirtual 262, 3) := by decide +kernel
theorem d_W_worst_40 : decode c_W_worst 40 = .ok (.istore_n 1, 1) := by decide +kernel
theorem d_W_worst_41 : decode c_W_worst 41 = .ok (.iload_n 1, 1) := by decide +kernel
theorem d_W_worst_42 : decode c_W_worst 42 = .ok (.ifCond .lt 18, 3) := by decide +kernel
theorem d_W_worst_45 : decode c_W_worst 45 = .ok (.aload_n 0, 1) := by decide +kernel
theorem d_W_worst_46 : decode c_W_worst 46 = .ok (.getfield 10, 3) := by decide +kernel
theorem d_W_worst_49 : decode c_W_worst 49 = .ok (.aload_n 0, 1) := by decide +kernel
theorem d_W_worst_50 : decode c_W_worst 50 = .ok (.getfield 44, 3) := by decide +kernel
theorem d_W_worst_53 : decode c_W_worst 53 = .ok (.iload_n 1, 1) := by decide +kernel
theorem d_W_worst_54 : decode c_W_worst 54 = .ok (.invokevirtual 265, 3) := by decide +kernel
theorem d_W_worst_57 : decode c_W_worst 57 = .ok (.putfield 239, 3) := by decide +kernel
theorem d_W_worst_60 : decode c_W_worst 60 = .ok (.iload_n 1, 1) := by decide +kernel
theorem d_W_worst_61 : decode c_W_worst 61 = .ok (.ireturn, 1) := by decide +kernel
theorem d_W_share_0 : decode c_W_share 0 = .ok (.aload_n 0, 1) := by decide +kernel
theorem d_W_share_1 : decode c_W_share 1 = .ok (.iload_n 1, 1) := by decide +kernel
theorem d_W_share_2 : decode c_W_share 2 = .ok (.iconst 1, 1) := by decide +kernel
theorem d_W_share_3 : decode c_W_share 3 = .ok (.invokevirtual 247, 3) := by decide +kernel
theorem d_W_share_6 : decode c_W_share 6 = .ok (.istore_n 2, 1) := by decide +kernel
theorem d_W_share_7 : decode c_W_share 7 = .ok (.iload_n 2, 1) := by decide +kernel
theorem d_W_share_8 : decode c_W_share 8 = .ok (.ifCond .ge 5, 3) := by decide +kernel
theorem d_W_share_11 : decode c_W_share 11 = .ok (.iload_n 2, 1) := by decide +kernel
theorem d_W_share_12 : decode c_W_share 12 = .ok (.ireturn, 1) := by decide +kernel
theorem d_W_share_13 : decode c_W_share 13 = .ok (.aload_n 0, 1) := by decide +kernel
theorem d_W_share_14 : decode c_W_share 14 = .ok (.getfield 10, 3) := by decide +kernel
theorem d_W_share_17 : decode c_W_share 17 = .ok (.aload_n 0, 1) := by decide +kernel
theorem d_W_share_18 : decode c_W_share 18 = .ok (.getfield 44, 3) := by decide +kernel
theorem d_W_share_21 : decode c_W_share 21 = .ok (.getfield 268, 3) := by decide +kernel
theorem d_W_share_24 : decode c_W_share 24 = .ok (.aload_n 0, 1) := by decide +kernel
theorem d_W_share_25 : decode c_W_share 25 = .ok (.getfield 44, 3) := by decide +kernel
theorem d_W_share_28 : decode c_W_share 28 = .ok (.iload_n 1, 1) := by decide +kernel
theorem d_W_share_29 : decode c_W_share 29 = .ok (.invokevirtual 270, 3) := by decide +kernel
theorem d_W_share_32 : decode c_W_share 32 = .ok (.isub, 1) := by decide +kernel
theorem d_W_share_33 : decode c_W_share 33 = .ok (.i2l, 1) := by decide +kernel
theorem d_W_share_34 : decode c_W_share 34 = .ok (.aload_n 0, 1) := by decide +kernel
theorem d_W_share_35 : decode c_W_share 35 = .ok (.getfield 44, 3) := by decide +kernel
theorem d_W_share_38 : decode c_W_share 38 = .ok (.getfield 268, 3) := by decide +kernel
theorem d_W_share_41 : decode c_W_share 41 = .ok (.i2l, 1) := by decide +kernel
theorem d_W_share_42 : decode c_W_share 42 = .ok (.invokevirtual 273, 3) := by decide +kernel
theorem d_W_share_45 : decode c_W_share 45 = .ok (.iconst 1, 1) := by decide +kernel
theorem d_W_share_46 : decode c_W_share 46 = .ok (.ireturn, 1) := by decide +kernel
theorem d_W_chance_0 : decode c_W_chance 0 = .ok (.iload_n 2, 1) := by decide +kernel
theorem d_W_chance_1 : decode c_W_chance 1 = .ok (.invokestatic 277, 3) := by decide +kernel
theorem d_W_chance_4 : decode c_W_chance 4 = .ok (.ifCond .ne 5, 3) := by decide +kernel
theorem d_W_chance_7 : decode c_W_chance 7 = .ok (.iconst (-1), 1) := by decide +kernel
theorem d_W_chance_8 : decode c_W_chance 8 = .ok (.ireturn, 1) := by decide +kernel
theorem d_W_chance_9 : decode c_W_chance 9 = .ok (.aload_n 0, 1) := by decide +kernel
theorem d_W_chance_10 : decode c_W_chance 10 = .ok (.iload_n 1, 1) := by decide +kernel
theorem d_W_chance_11 : decode c_W_chance 11 = .ok (.iload_n 2, 1) := by decide +kernel
theorem d_W_chance_12 : decode c_W_chance 12 = .ok (.invokevirtual 247, 3) := by decide +kernel
theorem d_W_chance_15 : decode c_W_chance 15 = .ok (.istore_n 3, 1) := by decide +kernel
theorem d_W_chance_16 : decode c_W_chance 16 = .ok (.iload_n 3, 1) := by decide +kernel
theorem d_W_chance_17 : decode c_W_chance 17 = .ok (.ifCond .ge 5, 3) := by decide +kernel
theorem d_W_chance_20 : decode c_W_chance 20 = .ok (.iload_n 3, 1) := by decide +kernel
theorem d_W_chance_21 : decode c_W_chance 21 = .ok (.ireturn, 1) := by decide +kernel
theorem d_W_chance_22 : decode c_W_chance 22 = .ok (.aload_n 0, 1) := by decide +kernel
theorem d_W_chance_23 : decode c_W_chance 23 = .ok (.getfield 10, 3) := by decide +kernel
theorem d_W_chance_26 : decode c_W_chance 26 = .ok (.aload_n 0, 1) := by decide +kernel
theorem d_W_chance_27 : decode c_W_chance 27 = .ok (.getfield 44, 3) := by decide +kernel
theorem d_W_chance_30 : decode c_W_chance 30 = .ok (.iload_n 1, 1) := by decide +kernel
theorem d_W_chance_31 : decode c_W_chance 31 = .ok (.invokevirtual 280, 3) := by decide +kernel
theorem d_W_chance_34 : decode c_W_chance 34 = .ok (.i2l, 1) := by decide +kernel
theorem d_W_chance_35 : decode c_W_chance 35 = .ok (.aload_n 0, 1) := by decide +kernel
theorem d_W_chance_36 : decode c_W_chance 36 = .ok (.getfield 44, 3) := by decide +kernel
theorem d_W_chance_39 : decode c_W_chance 39 = .ok (.getfield 268, 3) := by decide +kernel
theorem d_W_chance_42 : decode c_W_chance 42 = .ok (.i2l, 1) := by decide +kernel
theorem d_W_chance_43 : decode c_W_chance 43 = .ok (.invokevirtual 273, 3) := by decide +kernel
theorem d_W_chance_46 : decode c_W_chance 46 = .ok (.iconst 1, 1) := by decide +kernel
theorem d_W_chance_47 : decode c_W_chance 47 = .ok (.ireturn, 1) := by decide +kernel
theorem d_W_thief_0 : decode c_W_thief 0 = .ok (.iload_n 1, 1) := by decide +kernel
theorem d_W_thief_1 : decode c_W_thief 1 = .ok (.invokestatic 277, 3) := by decide +kernel
theorem d_W_thief_4 : decode c_W_thief 4 = .ok (.ifCond .ne 5, 3) := by decide +kernel
theorem d_W_thief_7 : decode c_W_thief 7 = .ok (.iconst (-1), 1) := by decide +kernel
theorem d_W_thief_8 : decode c_W_thief 8 = .ok (.ireturn, 1) := by decide +kernel
theorem d_W_thief_9 : decode c_W_thief 9 = .ok (.aload_n 0, 1) := by decide +kernel
theorem d_W_thief_10 : decode c_W_thief 10 = .ok (.invokevirtual 232, 3) := by decide +kernel
theorem d_W_thief_13 : decode c_W_thief 13 = .ok (.iconst 1, 1) := by decide +kernel
theorem d_W_thief_14 : decode c_W_thief 14 = .ok (.if_icmp .ge 6, 3) := by decide +kernel
theorem d_W_thief_17 : decode c_W_thief 17 = .ok (.bipush (-6), 2) := by decide +kernel
theorem d_W_thief_19 : decode c_W_thief 19 = .ok (.ireturn, 1) := by decide +kernel
theorem d_W_thief_20 : decode c_W_thief 20 = .ok (.aload_n 0, 1) := by decide +kernel
theorem d_W_thief_21 : decode c_W_thief 21 = .ok (.getfield 44, 3) := by decide +kernel
theorem d_W_thief_24 : decode c_W_thief 24 = .ok (.aload_n 0, 1) := by decide +kernel
theorem d_W_thief_25 : decode c_W_thief 25 = .ok (.getfield 35, 3) := by decide +kernel
theorem d_W_thief_28 : decode c_W_thief 28 = .ok (.getfield 226, 3) := by decide +kernel
theorem d_W_thief_31 : decode c_W_thief 31 = .ok (.aload_n 0, 1) := by decide +kernel
theorem d_W_thief_32 : decode c_W_thief 32 = .ok (.getfield 26, 3) := by decide +kernel
theorem d_W_thief_35 : decode c_W_thief 35 = .ok (.invokevirtual 256, 3) := by decide +kernel
theorem d_W_thief_38 : decode c_W_thief 38 = .ok (.iload_n 1, 1) := by decide +kernel
theorem d_W_thief_39 : decode c_W_thief 39 = .ok (.invokevirtual 259, 3) := by decide +kernel
theorem d_W_thief_42 : decode c_W_thief 42 = .ok (.aload_n 0, 1) := by decide +kernel
theorem d_W_thief_43 : decode c_W_thief 43 = .ok (.getfield 44, 3) := by decide +kernel
theorem d_W_thief_46 : decode c_W_thief 46 = .ok (.invokevirtual 283, 3) := by decide +kernel
theorem d_W_thief_49 : decode c_W_thief 49 = .ok (.istore_n 2, 1) := by decide +kernel
theorem d_W_thief_50 : decode c_W_thief 50 = .ok (.iload_n 2, 1) := by decide +kernel
theorem d_W_thief_51 : decode c_W_thief 51 = .ok (.ifCond .lt 27, 3) := by decide +kernel
theorem d_W_thief_54 : decode c_W_thief 54 = .ok (.aload_n 0, 1) := by decide +kernel
theorem d_W_thief_55 : decode c_W_thief 55 = .ok (.getfield 10, 3) := by decide +kernel
theorem d_W_thief_58 : decode c_W_thief 58 = .ok (.aload_n 0, 1) := by decide +kernel
theorem d_W_thief_59 : decode c_W_thief 59 = .ok (.getfield 44, 3) := by decide +kernel
theorem d_W_thief_62 : decode c_W_thief 62 = .ok (.iload_n 2, 1) := by decide +kernel
theorem d_W_thief_63 : decode c_W_thief 63 = .ok (.invokevirtual 286, 3) := by decide +kernel
theorem d_W_thief_66 : decode c_W_thief 66 = .ok (.i2l, 1) := by decide +kernel
theorem d_W_thief_67 : decode c_W_thief 67 = .ok (.aload_n 0, 1) := by decide +kernel
theorem d_W_thief_68 : decode c_W_thief 68 = .ok (.getfield 44, 3) := by decide +kernel
theorem d_W_thief_71 : decode c_W_thief 71 = .ok (.getfield 268, 3) := by decide +kernel
theorem d_W_thief_74 : decode c_W_thief 74 = .ok (.i2l, 1) := by decide +kernel
theorem d_W_thief_75 : decode c_W_thief 75 = .ok (.invokevirtual 273, 3) := by decide +kernel
theorem d_W_thief_78 : decode c_W_thief 78 = .ok (.iload_n 2, 1) := by decide +kernel
theorem d_W_thief_79 : decode c_W_thief 79 = .ok (.ireturn, 1) := by decide +kernel
theorem d_W_safe_0 : decode c_W_safe 0 = .ok (.aload_n 0, 1) := by decide +kernel
theorem d_W_safe_1 : decode c_W_safe 1 = .ok (.invokevirtual 232, 3) := by decide +kernel
theorem d_W_safe_4 : decode c_W_safe 4 = .ok (.iconst 1, 1) := by decide +kernel
theorem d_W_safe_5 : decode c_W_safe 5 = .ok (.if_icmp .ge 6, 3) := by decide +kernel
theorem d_W_safe_8 : decode c_W_safe 8 = .ok (.bipush (-6), 2) := by decide +kernel
theorem d_W_safe_10 : decode c_W_safe 10 = .ok (.ireturn, 1) := by decide +kernel
theorem d_W_safe_11 : decode c_W_safe 11 = .ok (.aload_n 0, 1) := by decide +kernel
theorem d_W_safe_12 : decode c_W_safe 12 = .ok (.getfield 44, 3) := by decide +kernel
theorem d_W_safe_15 : decode c_W_safe 15 = .ok (.aload_n 0, 1) := by decide +kernel
theorem d_W_safe_16 : decode c_W_safe 16 = .ok (.getfield 35, 3) := by decide +kernel
theorem d_W_safe_19 : decode c_W_safe 19 = .ok (.getfield 226, 3) := by decide +kernel
theorem d_W_safe_22 : decode c_W_safe 22 = .ok (.aload_n 0, 1) := by decide +kernel
theorem d_W_safe_23 : decode c_W_safe 23 = .ok (.getfield 26, 3) := by decide +kernel
theorem d_W_safe_26 : decode c_W_safe 26 = .ok (.invokevirtual 256, 3) := by decide +kernel
theorem d_W_safe_29 : decode c_W_safe 29 = .ok (.iconst 1, 1) := by decide +kernel
theorem d_W_safe_30 : decode c_W_safe 30 = .ok (.invokevirtual 259, 3) := by decide +kernel
theorem d_W_safe_33 : decode c_W_safe 33 = .ok (.aload_n 0, 1) := by decide +kernel
theorem d_W_safe_34 : decode c_W_safe 34 = .ok (.getfield 44, 3) := by decide +kernel
theorem d_W_safe_37 : decode c_W_safe 37 = .ok (.invokevirtual 289, 3) := by decide +kernel
theorem d_W_safe_40 : decode c_W_safe 40 = .ok (.ireturn, 1) := by decide +kernel
theorem d_W_peril_0 : decode c_W_peril 0 = .ok (.iload_n 1, 1) := by decide +kernel
theorem d_W_peril_1 : decode c_W_peril 1 = .ok (.ifCond .lt 8, 3) := by decide +kernel
theorem d_W_peril_4 : decode c_W_peril 4 = .ok (.iload_n 1, 1) := by decide +kernel
theorem d_W_peril_5 : decode c_W_peril 5 = .ok (.iconst 3, 1) := by decide +kernel
theorem d_W_peril_6 : decode c_W_peril 6 = .ok (.if_icmp .le 5, 3) := by decide +kernel
theorem d_W_peril_9 : decode c_W_peril 9 = .ok (.iconst (-1), 1) := by decide +kernel
theorem d_W_peril_10 : decode c_W_peril 10 = .ok (.ireturn, 1) := by decide +kernel
theorem d_W_peril_11 : decode c_W_peril 11 = .ok (.aload_n 0, 1) := by decide +kernel
theorem d_W_peril_12 : decode c_W_peril 12 = .ok (.getfield 35, 3) := by decide +kernel
theorem d_W_peril_15 : decode c_W_peril 15 = .ok (.invokevirtual 181, 3) := by decide +kernel
theorem d_W_peril_18 : decode c_W_peril 18 = .ok (.aload_n 0, 1) := by decide +kernel
theorem d_W_peril_19 : decode c_W_peril 19 = .ok (.getfield 35, 3) := by decide +kernel
theorem d_W_peril_22 : decode c_W_peril 22 = .ok (.getfield 226, 3) := by decide +kernel
theorem d_W_peril_25 : decode c_W_peril 25 = .ok (.istore_n 2, 1) := by decide +kernel
theorem d_W_peril_26 : decode c_W_peril 26 = .ok (.iload_n 1, 1) := by decide +kernel
theorem d_W_peril_27 : decode c_W_peril 27 = .ok (.iload_n 2, 1) := by decide +kernel
theorem d_W_peril_28 : decode c_W_peril 28 = .ok (.invokestatic 242, 3) := by decide +kernel
theorem d_W_peril_31 : decode c_W_peril 31 = .ok (.invokestatic 292, 3) := by decide +kernel
theorem d_W_peril_34 : decode c_W_peril 34 = .ok (.istore_n 3, 1) := by decide +kernel
theorem d_W_peril_35 : decode c_W_peril 35 = .ok (.aload_n 0, 1) := by decide +kernel
theorem d_W_peril_36 : decode c_W_peril 36 = .ok (.iload_n 2, 1) := by decide +kernel
theorem d_W_peril_37 : decode c_W_peril 37 = .ok (.iload_n 3, 1) := by decide +kernel
theorem d_W_peril_38 : decode c_W_peril 38 = .ok (.invokevirtual 297, 3) := by decide +kernel
theorem d_W_peril_41 : decode c_W_peril 41 = .ok (.ifCond .eq 6, 3) := by decide +kernel
theorem d_W_peril_44 : decode c_W_peril 44 = .ok (.bipush (-6), 2) := by decide +kernel
theorem d_W_peril_46 : decode c_W_peril 46 = .ok (.ireturn, 1) := by decide +kernel
theorem d_W_peril_47 : decode c_W_peril 47 = .ok (.aload_n 0, 1) := by decide +kernel
theorem d_W_peril_48 : decode c_W_peril 48 = .ok (.iload_n 2, 1) := by decide +kernel
theorem d_W_peril_49 : decode c_W_peril 49 = .ok (.iload_n 3, 1) := by decide +kernel
theorem d_W_peril_50 : decode c_W_peril 50 = .ok (.invokevirtual 301, 3) := by decide +kernel
theorem d_W_peril_53 : decode c_W_peril 53 = .ok (.istore 4, 2) := by decide +kernel
theorem d_W_peril_55 : decode c_W_peril 55 = .ok (.iload 4, 2) := by decide +kernel
theorem d_W_peril_57 : decode c_W_peril 57 = .ok (.ifCond .lt 15, 3) := by decide +kernel
theorem d_W_peril_60 : decode c_W_peril 60 = .ok (.aload_n 0, 1) := by decide +kernel
theorem d_W_peril_61 : decode c_W_peril 61 = .ok (.getfield 10, 3) := by decide +kernel
theorem d_W_peril_64 : decode c_W_peril 64 = .ok (.iload 4, 2) := by decide +kernel
theorem d_W_peril_66 : decode c_W_peril 66 = .ok (.putfield 239, 3) := by decide +kernel
theorem d_W_peril_69 : decode c_W_peril 69 = .ok (.bipush (-9), 2) := by decide +kernel
theorem d_W_peril_71 : decode c_W_peril 71 = .ok (.ireturn, 1) := by decide +kernel
theorem d_W_peril_72 : decode c_W_peril 72 = .ok (.aload_n 0, 1) := by decide +kernel
theorem d_W_peril_73 : decode c_W_peril 73 = .ok (.iload_n 2, 1) := by decide +kernel
theorem d_W_peril_74 : decode c_W_peril 74 = .ok (.iload_n 3, 1) := by decide +kernel
theorem d_W_peril_75 : decode c_W_peril 75 = .ok (.invokevirtual 304, 3) := by decide +kernel
theorem d_W_peril_78 : decode c_W_peril 78 = .ok (.ireturn, 1) := by decide +kernel
theorem d_W_meet_0 : decode c_W_meet 0 = .ok (.aload_n 0, 1) := by decide +kernel
theorem d_W_meet_1 : decode c_W_meet 1 = .ok (.getfield 35, 3) := by decide +kernel
theorem d_W_meet_4 : decode c_W_meet 4 = .ok (.iload_n 1, 1) := by decide +kernel
theorem d_W_meet_5 : decode c_W_meet 5 = .ok (.invokevirtual 163, 3) := by decide +kernel
theorem d_W_meet_8 : decode c_W_meet 8 = .ok (.ifCond .eq 26, 3) := by decide +kernel
theorem d_W_meet_11 : decode c_W_meet 11 = .ok (.aload_n 0, 1) := by decide +kernel
theorem d_W_meet_12 : decode c_W_meet 12 = .ok (.getfield 35, 3) := by decide +kernel
theorem d_W_meet_15 : decode c_W_meet 15 = .ok (.iload_n 2, 1) := by decide +kernel
theorem d_W_meet_16 : decode c_W_meet 16 = .ok (.invokevirtual 163, 3) := by decide +kernel
theorem d_W_meet_19 : decode c_W_meet 19 = .ok (.ifCond .eq 15, 3) := by decide +kernel
theorem d_W_meet_22 : decode c_W_meet 22 = .ok (.iload_n 1, 1) := by decide +kernel
theorem d_W_meet_23 : decode c_W_meet 23 = .ok (.iload_n 2, 1) := by decide +kernel
theorem d_W_meet_24 : decode c_W_meet 24 = .ok (.if_icmp .eq 10, 3) := by decide +kernel
theorem d_W_meet_27 : decode c_W_meet 27 = .ok (.iload_n 3, 1) := by decide +kernel
theorem d_W_meet_28 : decode c_W_meet 28 = .ok (.invokestatic 307, 3) := by decide +kernel
theorem d_W_meet_31 : decode c_W_meet 31 = .ok (.ifCond .ne 5, 3) := by decide +kernel
theorem d_W_meet_34 : decode c_W_meet 34 = .ok (.iconst (-1), 1) := by decide +kernel
theorem d_W_meet_35 : decode c_W_meet 35 = .ok (.ireturn, 1) := by decide +kernel
theorem d_W_meet_36 : decode c_W_meet 36 = .ok (.aload_n 0, 1) := by decide +kernel
theorem d_W_meet_37 : decode c_W_meet 37 = .ok (.getfield 35, 3) := by decide +kernel
theorem d_W_meet_40 : decode c_W_meet 40 = .ok (.iload_n 1, 1) := by decide +kernel
theorem d_W_meet_41 : decode c_W_meet 41 = .ok (.invokevirtual 164, 3) := by decide +kernel
theorem d_W_meet_44 : decode c_W_meet 44 = .ok (.ifCond .ne 14, 3) := by decide +kernel
theorem d_W_meet_47 : decode c_W_meet 47 = .ok (.aload_n 0, 1) := by decide +kernel
theorem d_W_meet_48 : decode c_W_meet 48 = .ok (.getfield 35, 3) := by decide +kernel
theorem d_W_meet_51 : decode c_W_meet 51 = .ok (.iload_n 2, 1) := by decide +kernel
theorem d_W_meet_52 : decode c_W_meet 52 = .ok (.invokevirtual 164, 3) := by decide +kernel
theorem d_W_meet_55 : decode c_W_meet 55 = .ok (.ifCond .eq 12, 3) := by decide +kernel
theorem d_W_meet_58 : decode c_W_meet 58 = .ok (.aload_n 0, 1) := by decide +kernel
theorem d_W_meet_59 : decode c_W_meet 59 = .ok (.getfield 10, 3) := by decide +kernel
theorem d_W_meet_62 : decode c_W_meet 62 = .ok (.iconst 1, 1) := by decide +kernel
theorem d_W_meet_63 : decode c_W_meet 63 = .ok (.invokevirtual 75, 3) := by decide +kernel
theorem d_W_meet_66 : decode c_W_meet 66 = .ok (.ireturn, 1) := by decide +kernel
theorem d_W_meet_67 : decode c_W_meet 67 = .ok (.aload_n 0, 1) := by decide +kernel
theorem d_W_meet_68 : decode c_W_meet 68 = .ok (.getfield 35, 3) := by decide +kernel
theorem d_W_meet_71 : decode c_W_meet 71 = .ok (.invokevirtual 181, 3) := by decide +kernel
theorem d_W_meet_74 : decode c_W_meet 74 = .ok (.aload_n 0, 1) := by decide +kernel
theorem d_W_meet_75 : decode c_W_meet 75 = .ok (.getfield 35, 3) := by decide +kernel
theorem d_W_meet_78 : decode c_W_meet 78 = .ok (.iload_n 1, 1) := by decide +kernel
theorem d_W_meet_79 : decode c_W_meet 79 = .ok (.invokevirtual 220, 3) := by decide +kernel
theorem d_W_meet_82 : decode c_W_meet 82 = .ok (.ifCond .eq 14, 3) := by decide +kernel
theorem d_W_meet_85 : decode c_W_meet 85 = .ok (.aload_n 0, 1) := by decide +kernel
theorem d_W_meet_86 : decode c_W_meet 86 = .ok (.getfield 35, 3) := by decide +kernel
theorem d_W_meet_89 : decode c_W_meet 89 = .ok (.iload_n 2, 1) := by decide +kernel
theorem d_W_meet_90 : decode c_W_meet 90 = .ok (.invokevirtual 220, 3) := by decide +kernel
theorem d_W_meet_93 : decode c_W_meet 93 = .ok (.ifCond .ne 6, 3) := by decide +kernel
theorem d_W_meet_96 : decode c_W_meet 96 = .ok (.bipush (-4), 2) := by decide +kernel
theorem d_W_meet_98 : decode c_W_meet 98 = .ok (.ireturn, 1) := by decide +kernel
theorem d_W_meet_99 : decode c_W_meet 99 = .ok (.aload_n 0, 1) := by decide +kernel
theorem d_W_meet_100 : decode c_W_meet 100 = .ok (.getfield 35, 3) := by decide +kernel
theorem d_W_meet_103 : decode c_W_meet 103 = .ok (.iconst 1, 1) := by decide +kernel
theorem d_W_meet_104 : decode c_W_meet 104 = .ok (.iload_n 1, 1) := by decide +kernel
theorem d_W_meet_105 : decode c_W_meet 105 = .ok (.ishl, 1) := by decide +kernel
theorem d_W_meet_106 : decode c_W_meet 106 = .ok (.iconst 1, 1) := by decide +kernel
theorem d_W_meet_107 : decode c_W_meet 107 = .ok (.iload_n 2, 1) := by decide +kernel
theorem d_W_meet_108 : decode c_W_meet 108 = .ok (.ishl, 1) := by decide +kernel
theorem d_W_meet_109 : decode c_W_meet 109 = .ok (.ior, 1) := by decide +kernel
theorem d_W_meet_110 : decode c_W_meet 110 = .ok (.invokevirtual 229, 3) := by decide +kernel
theorem d_W_meet_113 : decode c_W_meet 113 = .ok (.iconst 1, 1) := by decide +kernel
theorem d_W_meet_114 : decode c_W_meet 114 = .ok (.if_icmp .ge 6, 3) := by decide +kernel
theorem d_W_meet_117 : decode c_W_meet 117 = .ok (.bipush (-6), 2) := by decide +kernel
theorem d_W_meet_119 : decode c_W_meet 119 = .ok (.ireturn, 1) := by decide +kernel
theorem d_W_meet_120 : decode c_W_meet 120 = .ok (.aload_n 0, 1) := by decide +kernel
theorem d_W_meet_121 : decode c_W_meet 121 = .ok (.aload_n 0, 1) := by decide +kernel
theorem d_W_meet_122 : decode c_W_meet 122 = .ok (.getfield 51, 3) := by decide +kernel
theorem d_W_meet_125 : decode c_W_meet 125 = .ok (.iload_n 1, 1) := by decide +kernel
theorem d_W_meet_126 : decode c_W_meet 126 = .ok (.iload_n 2, 1) := by decide +kernel
theorem d_W_meet_127 : decode c_W_meet 127 = .ok (.iload_n 3, 1) := by decide +kernel
theorem d_W_meet_128 : decode c_W_meet 128 = .ok (.i2l, 1) := by decide +kernel
theorem d_W_meet_129 : decode c_W_meet 129 = .ok (.ldc2_w 310, 3) := by decide +kernel
theorem d_W_meet_132 : decode c_W_meet 132 = .ok (.lmul, 1) := by decide +kernel
theorem d_W_meet_133 : decode c_W_meet 133 = .ok (.invokevirtual 312, 3) := by decide +kernel
theorem d_W_meet_136 : decode c_W_meet 136 = .ok (.invokevirtual 316, 3) := by decide +kernel
theorem d_W_meet_139 : decode c_W_meet 139 = .ok (.ireturn, 1) := by decide +kernel
theorem d_W_word_0 : decode c_W_word 0 = .ok (.aload_n 0, 1) := by decide +kernel
theorem d_W_word_1 : decode c_W_word 1 = .ok (.getfield 35, 3) := by decide +kernel
theorem d_W_word_4 : decode c_W_word 4 = .ok (.iload_n 1, 1) := by decide +kernel
theorem d_W_word_5 : decode c_W_word 5 = .ok (.invokevirtual 163, 3) := by decide +kernel
theorem d_W_word_8 : decode c_W_word 8 = .ok (.ifCond .eq 21, 3) := by decide +kernel
theorem d_W_word_11 : decode c_W_word 11 = .ok (.aload_n 0, 1) := by decide +kernel
theorem d_W_word_12 : decode c_W_word 12 = .ok (.getfield 35, 3) := by decide +kernel
theorem d_W_word_15 : decode c_W_word 15 = .ok (.iload_n 3, 1) := by decide +kernel
theorem d_W_word_16 : decode c_W_word 16 = .ok (.invokevirtual 163, 3) := by decide +kernel
theorem d_W_word_19 : decode c_W_word 19 = .ok (.ifCond .eq 10, 3) := by decide +kernel
theorem d_W_word_22 : decode c_W_word 22 = .ok (.iload_n 2, 1) := by decide +kernel
theorem d_W_word_23 : decode c_W_word 23 = .ok (.invokestatic 307, 3) := by decide +kernel
theorem d_W_word_26 : decode c_W_word 26 = .ok (.ifCond .ne 5, 3) := by decide +kernel
theorem d_W_word_29 : decode c_W_word 29 = .ok (.iconst (-1), 1) := by decide +kernel
theorem d_W_word_30 : decode c_W_word 30 = .ok (.ireturn, 1) := by decide +kernel
theorem d_W_word_31 : decode c_W_word 31 = .ok (.aload_n 0, 1) := by decide +kernel
theorem d_W_word_32 : decode c_W_word 32 = .ok (.getfield 35, 3) := by decide +kernel
theorem d_W_word_35 : decode c_W_word 35 = .ok (.iload_n 1, 1) := by decide +kernel
theorem d_W_word_36 : decode c_W_word 36 = .ok (.invokevirtual 164, 3) := by decide +kernel
theorem d_W_word_39 : decode c_W_word 39 = .ok (.ifCond .ne 14, 3) := by decide +kernel
theorem d_W_word_42 : decode c_W_word 42 = .ok (.aload_n 0, 1) := by decide +kernel
theorem d_W_word_43 : decode c_W_word 43 = .ok (.getfield 35, 3) := by decide +kernel
theorem d_W_word_46 : decode c_W_word 46 = .ok (.iload_n 3, 1) := by decide +kernel
theorem d_W_word_47 : decode c_W_word 47 = .ok (.invokevirtual 164, 3) := by decide +kernel
theorem d_W_word_50 : decode c_W_word 50 = .ok (.ifCond .eq 12, 3) := by decide +kernel
theorem d_W_word_53 : decode c_W_word 53 = .ok (.aload_n 0, 1) := by decide +kernel
theorem d_W_word_54 : decode c_W_word 54 = .ok (.getfield 10, 3) := by decide +kernel
theorem d_W_word_57 : decode c_W_word 57 = .ok (.iconst 1, 1) := by decide +kernel
theorem d_W_word_58 : decode c_W_word 58 = .ok (.invokevirtual 75, 3) := by decide +kernel
theorem d_W_word_61 : decode c_W_word 61 = .ok (.ireturn, 1) := by decide +kernel
theorem d_W_word_62 : decode c_W_word 62 = .ok (.aload_n 0, 1) := by decide +kernel
theorem d_W_word_63 : decode c_W_word 63 = .ok (.getfield 35, 3) := by decide +kernel
theorem d_W_word_66 : decode c_W_word 66 = .ok (.invokevirtual 181, 3) := by decide +kernel
theorem d_W_word_69 : decode c_W_word 69 = .ok (.aload_n 0, 1) := by decide +kernel
theorem d_W_word_70 : decode c_W_word 70 = .ok (.getfield 35, 3) := by decide +kernel
theorem d_W_word_73 : decode c_W_word 73 = .ok (.iload_n 1, 1) := by decide +kernel
theorem d_W_word_74 : decode c_W_word 74 = .ok (.invokevirtual 220, 3) := by decide +kernel
theorem d_W_word_77 : decode c_W_word 77 = .ok (.ifCond .eq 14, 3) := by decide +kernel
theorem d_W_word_80 : decode c_W_word 80 = .ok (.aload_n 0, 1) := by decide +kernel
theorem d_W_word_81 : decode c_W_word 81 = .ok (.getfield 35, 3) := by decide +kernel
theorem d_W_word_84 : decode c_W_word 84 = .ok (.iload_n 3, 1) := by decide +kernel
theorem d_W_word_85 : decode c_W_word 85 = .ok (.invokevirtual 220, 3) := by decide +kernel
theorem d_W_word_88 : decode c_W_word 88 = .ok (.ifCond .ne 6, 3) := by decide +kernel
theorem d_W_word_91 : decode c_W_word 91 = .ok (.bipush (-4), 2) := by decide +kernel
theorem d_W_word_93 : decode c_W_word 93 = .ok (.ireturn, 1) := by decide +kernel
theorem d_W_word_94 : decode c_W_word 94 = .ok (.aload_n 0, 1) := by decide +kernel
theorem d_W_word_95 : decode c_W_word 95 = .ok (.getfield 35, 3) := by decide +kernel
theorem d_W_word_98 : decode c_W_word 98 = .ok (.invokevirtual 320, 3) := by decide +kernel
theorem d_W_word_101 : decode c_W_word 101 = .ok (.ifCond .eq 6, 3) := by decide +kernel
theorem d_W_word_104 : decode c_W_word 104 = .ok (.bipush (-6), 2) := by decide +kernel
theorem d_W_word_106 : decode c_W_word 106 = .ok (.ireturn, 1) := by decide +kernel
theorem d_W_word_107 : decode c_W_word 107 = .ok (.aload_n 0, 1) := by decide +kernel
theorem d_W_word_108 : decode c_W_word 108 = .ok (.getfield 51, 3) := by decide +kernel
theorem d_W_word_111 : decode c_W_word 111 = .ok (.iload_n 1, 1) := by decide +kernel
theorem d_W_word_112 : decode c_W_word 112 = .ok (.iload_n 2, 1) := by decide +kernel
theorem d_W_word_113 : decode c_W_word 113 = .ok (.i2l, 1) := by decide +kernel
theorem d_W_word_114 : decode c_W_word 114 = .ok (.ldc2_w 310, 3) := by decide +kernel
theorem d_W_word_117 : decode c_W_word 117 = .ok (.lmul, 1) := by decide +kernel
theorem d_W_word_118 : decode c_W_word 118 = .ok (.iconst 1, 1) := by decide +kernel
theorem d_W_word_119 : decode c_W_word 119 = .ok (.iload_n 3, 1) := by decide +kernel
theorem d_W_word_120 : decode c_W_word 120 = .ok (.ishl, 1) := by decide +kernel
theorem d_W_word_121 : decode c_W_word 121 = .ok (.invokevirtual 324, 3) := by decide +kernel
theorem d_W_word_124 : decode c_W_word 124 = .ok (.pop, 1) := by decide +kernel
theorem d_W_word_125 : decode c_W_word 125 = .ok (.aload_n 0, 1) := by decide +kernel
theorem d_W_word_126 : decode c_W_word 126 = .ok (.aload_n 0, 1) := by decide +kernel
theorem d_W_word_127 : decode c_W_word 127 = .ok (.getfield 51, 3) := by decide +kernel
theorem d_W_word_130 : decode c_W_word 130 = .ok (.iload_n 3, 1) := by decide +kernel
theorem d_W_word_131 : decode c_W_word 131 = .ok (.invokevirtual 328, 3) := by decide +kernel
theorem d_W_word_134 : decode c_W_word 134 = .ok (.invokevirtual 316, 3) := by decide +kernel
theorem d_W_word_137 : decode c_W_word 137 = .ok (.ireturn, 1) := by decide +kernel
theorem d_W_spread_0 : decode c_W_spread 0 = .ok (.aload_n 0, 1) := by decide +kernel
theorem d_W_spread_1 : decode c_W_spread 1 = .ok (.getfield 35, 3) := by decide +kernel
theorem d_W_spread_4 : decode c_W_spread 4 = .ok (.iload_n 1, 1) := by decide +kernel
theorem d_W_spread_5 : decode c_W_spread 5 = .ok (.invokevirtual 163, 3) := by decide +kernel
theorem d_W_spread_8 : decode c_W_spread 8 = .ok (.ifCond .eq 10, 3) := by decide +kernel
theorem d_W_spread_11 : decode c_W_spread 11 = .ok (.iload_n 2, 1) := by decide +kernel
theorem d_W_spread_12 : decode c_W_spread 12 = .ok (.invokestatic 307, 3) := by decide +kernel
theorem d_W_spread_15 : decode c_W_spread 15 = .ok (.ifCond .ne 5, 3) := by decide +kernel
theorem d_W_spread_18 : decode c_W_spread 18 = .ok (.iconst (-1), 1) := by decide +kernel
theorem d_W_spread_19 : decode c_W_spread 19 = .ok (.ireturn, 1) := by decide +kernel
theorem d_W_spread_20 : decode c_W_spread 20 = .ok (.aload_n 0, 1) := by decide +kernel
theorem d_W_spread_21 : decode c_W_spread 21 = .ok (.getfield 35, 3) := by decide +kernel
theorem d_W_spread_24 : decode c_W_spread 24 = .ok (.iload_n 1, 1) := by decide +kernel
theorem d_W_spread_25 : decode c_W_spread 25 = .ok (.invokevirtual 164, 3) := by decide +kernel
theorem d_W_spread_28 : decode c_W_spread 28 = .ok (.ifCond .eq 12, 3) := by decide +kernel
theorem d_W_spread_31 : decode c_W_spread 31 = .ok (.aload_n 0, 1) := by decide +kernel
theorem d_W_spread_32 : decode c_W_spread 32 = .ok (.getfield 10, 3) := by decide +kernel
theorem d_W_spread_35 : decode c_W_spread 35 = .ok (.iconst 1, 1) := by decide +kernel
theorem d_W_spread_36 : decode c_W_spread 36 = .ok (.invokevirtual 75, 3) := by decide +kernel
theorem d_W_spread_39 : decode c_W_spread 39 = .ok (.ireturn, 1) := by decide +kernel
theorem d_W_spread_40 : decode c_W_spread 40 = .ok (.aload_n 0, 1) := by decide +kernel
theorem d_W_spread_41 : decode c_W_spread 41 = .ok (.getfield 35, 3) := by decide +kernel
theorem d_W_spread_44 : decode c_W_spread 44 = .ok (.invokevirtual 181, 3) := by decide +kernel
theorem d_W_spread_47 : decode c_W_spread 47 = .ok (.aload_n 0, 1) := by decide +kernel
theorem d_W_spread_48 : decode c_W_spread 48 = .ok (.getfield 35, 3) := by decide +kernel
theorem d_W_spread_51 : decode c_W_spread 51 = .ok (.iload_n 1, 1) := by decide +kernel
theorem d_W_spread_52 : decode c_W_spread 52 = .ok (.invokevirtual 220, 3) := by decide +kernel
theorem d_W_spread_55 : decode c_W_spread 55 = .ok (.ifCond .ne 6, 3) := by decide +kernel
theorem d_W_spread_58 : decode c_W_spread 58 = .ok (.bipush (-4), 2) := by decide +kernel
theorem d_W_spread_60 : decode c_W_spread 60 = .ok (.ireturn, 1) := by decide +kernel
theorem d_W_spread_61 : decode c_W_spread 61 = .ok (.aload_n 0, 1) := by decide +kernel
theorem d_W_spread_62 : decode c_W_spread 62 = .ok (.getfield 35, 3) := by decide +kernel
theorem d_W_spread_65 : decode c_W_spread 65 = .ok (.invokevirtual 320, 3) := by decide +kernel
theorem d_W_spread_68 : decode c_W_spread 68 = .ok (.ifCond .eq 6, 3) := by decide +kernel
theorem d_W_spread_71 : decode c_W_spread 71 = .ok (.bipush (-6), 2) := by decide +kernel
theorem d_W_spread_73 : decode c_W_spread 73 = .ok (.ireturn, 1) := by decide +kernel
theorem d_W_spread_74 : decode c_W_spread 74 = .ok (.aload_n 0, 1) := by decide +kernel
theorem d_W_spread_75 : decode c_W_spread 75 = .ok (.getfield 51, 3) := by decide +kernel
theorem d_W_spread_78 : decode c_W_spread 78 = .ok (.iload_n 1, 1) := by decide +kernel
theorem d_W_spread_79 : decode c_W_spread 79 = .ok (.iload_n 2, 1) := by decide +kernel
theorem d_W_spread_80 : decode c_W_spread 80 = .ok (.i2l, 1) := by decide +kernel
theorem d_W_spread_81 : decode c_W_spread 81 = .ok (.ldc2_w 310, 3) := by decide +kernel
theorem d_W_spread_84 : decode c_W_spread 84 = .ok (.lmul, 1) := by decide +kernel
theorem d_W_spread_85 : decode c_W_spread 85 = .ok (.iconst 0, 1) := by decide +kernel
theorem d_W_spread_86 : decode c_W_spread 86 = .ok (.invokevirtual 324, 3) := by decide +kernel
theorem d_W_spread_89 : decode c_W_spread 89 = .ok (.invokestatic 242, 3) := by decide +kernel
theorem d_W_spread_92 : decode c_W_spread 92 = .ok (.ireturn, 1) := by decide +kernel
theorem d_W_round_0 : decode c_W_round 0 = .ok (.aload_n 0, 1) := by decide +kernel
theorem d_W_round_1 : decode c_W_round 1 = .ok (.getfield 26, 3) := by decide +kernel
theorem d_W_round_4 : decode c_W_round 4 = .ok (.invokevirtual 256, 3) := by decide +kernel
theorem d_W_round_7 : decode c_W_round 7 = .ok (.invokestatic 242, 3) := by decide +kernel
theorem d_W_round_10 : decode c_W_round 10 = .ok (.bipush 10, 2) := by decide +kernel
theorem d_W_round_12 : decode c_W_round 12 = .ok (.if_icmp .le 6, 3) := by decide +kernel
theorem d_W_round_15 : decode c_W_round 15 = .ok (.bipush (-4), 2) := by decide +kernel
theorem d_W_round_17 : decode c_W_round 17 = .ok (.ireturn, 1) := by decide +kernel
theorem d_W_round_18 : decode c_W_round 18 = .ok (.aload_n 0, 1) := by decide +kernel
theorem d_W_round_19 : decode c_W_round 19 = .ok (.getfield 58, 3) := by decide +kernel
theorem d_W_round_22 : decode c_W_round 22 = .ok (.invokevirtual 332, 3) := by decide +kernel
theorem d_W_round_25 : decode c_W_round 25 = .ok (.aload_n 0, 1) := by decide +kernel
theorem d_W_round_26 : decode c_W_round 26 = .ok (.getfield 58, 3) := by decide +kernel
theorem d_W_round_29 : decode c_W_round 29 = .ok (.getfield 333, 3) := by decide +kernel
theorem d_W_round_32 : decode c_W_round 32 = .ok (.ireturn, 1) := by decide +kernel
theorem d_W_roundAt_0 : decode c_W_roundAt 0 = .ok (.aload_n 0, 1) := by decide +kernel
theorem d_W_roundAt_1 : decode c_W_roundAt 1 = .ok (.getfield 26, 3) := by decide +kernel
theorem d_W_roundAt_4 : decode c_W_roundAt 4 = .ok (.invokevirtual 256, 3) := by decide +kernel
theorem d_W_roundAt_7 : decode c_W_roundAt 7 = .ok (.invokestatic 242, 3) := by decide +kernel
theorem d_W_roundAt_10 : decode c_W_roundAt 10 = .ok (.bipush 10, 2) := by decide +kernel
theorem d_W_roundAt_12 : decode c_W_roundAt 12 = .ok (.if_icmp .le 6, 3) := by decide +kernel
theorem d_W_roundAt_15 : decode c_W_roundAt 15 = .ok (.bipush (-4), 2) := by decide +kernel
theorem d_W_roundAt_17 : decode c_W_roundAt 17 = .ok (.ireturn, 1) := by decide +kernel
theorem d_W_roundAt_18 : decode c_W_roundAt 18 = .ok (.aload_n 0, 1) := by decide +kernel
theorem d_W_roundAt_19 : decode c_W_roundAt 19 = .ok (.getfield 58, 3) := by decide +kernel
theorem d_W_roundAt_22 : decode c_W_roundAt 22 = .ok (.invokevirtual 332, 3) := by decide +kernel
theorem d_W_roundAt_25 : decode c_W_roundAt 25 = .ok (.aload_n 0, 1) := by decide +kernel
theorem d_W_roundAt_26 : decode c_W_roundAt 26 = .ok (.getfield 58, 3) := by decide +kernel
theorem d_W_roundAt_29 : decode c_W_roundAt 29 = .ok (.iload_n 1, 1) := by decide +kernel
theorem d_W_roundAt_30 : decode c_W_roundAt 30 = .ok (.invokevirtual 336, 3) := by decide +kernel
theorem d_W_roundAt_33 : decode c_W_roundAt 33 = .ok (.ireturn, 1) := by decide +kernel
theorem d_W_parting_0 : decode c_W_parting 0 = .ok (.aload_n 0, 1) := by decide +kernel
theorem d_W_parting_1 : decode c_W_parting 1 = .ok (.getfield 26, 3) := by decide +kernel
theorem d_W_parting_4 : decode c_W_parting 4 = .ok (.getfield 134, 3) := by decide +kernel
theorem d_W_parting_7 : decode c_W_parting 7 = .ok (.ifCond .eq 12, 3) := by decide +kernel
theorem d_W_parting_10 : decode c_W_parting 10 = .ok (.aload_n 0, 1) := by decide +kernel
theorem d_W_parting_11 : decode c_W_parting 11 = .ok (.getfield 10, 3) := by decide +kernel
theorem d_W_parting_14 : decode c_W_parting 14 = .ok (.iconst 3, 1) := by decide +kernel
theorem d_W_parting_15 : decode c_W_parting 15 = .ok (.invokevirtual 75, 3) := by decide +kernel
theorem d_W_parting_18 : decode c_W_parting 18 = .ok (.ireturn, 1) := by decide +kernel
theorem d_W_parting_19 : decode c_W_parting 19 = .ok (.aload_n 0, 1) := by decide +kernel
theorem d_W_parting_20 : decode c_W_parting 20 = .ok (.getfield 67, 3) := by decide +kernel
theorem d_W_parting_23 : decode c_W_parting 23 = .ok (.invokevirtual 339, 3) := by decide +kernel
theorem d_W_parting_26 : decode c_W_parting 26 = .ok (.ireturn, 1) := by decide +kernel
theorem d_W_partOf_0 : decode c_W_partOf 0 = .ok (.iload_n 1, 1) := by decide +kernel
theorem d_W_partOf_1 : decode c_W_partOf 1 = .ok (.ifCond .lt 9, 3) := by decide +kernel
theorem d_W_partOf_4 : decode c_W_partOf 4 = .ok (.iload_n 1, 1) := by decide +kernel
theorem d_W_partOf_5 : decode c_W_partOf 5 = .ok (.bipush 8, 2) := by decide +kernel
theorem d_W_partOf_7 : decode c_W_partOf 7 = .ok (.if_icmp .lt 5, 3) := by decide +kernel
theorem d_W_partOf_10 : decode c_W_partOf 10 = .ok (.iconst (-1), 1) := by decide +kernel
theorem d_W_partOf_11 : decode c_W_partOf 11 = .ok (.ireturn, 1) := by decide +kernel
theorem d_W_partOf_12 : decode c_W_partOf 12 = .ok (.iload_n 2, 1) := by decide +kernel
theorem d_W_partOf_13 : decode c_W_partOf 13 = .ok (.ifCond .eq 15, 3) := by decide +kernel
theorem d_W_partOf_16 : decode c_W_partOf 16 = .ok (.aload_n 0, 1) := by decide +kernel
theorem d_W_partOf_17 : decode c_W_partOf 17 = .ok (.getfield 67, 3) := by decide +kernel
theorem d_W_partOf_20 : decode c_W_partOf 20 = .ok (.getfield 342, 3) := by decide +kernel
theorem d_W_partOf_23 : decode c_W_partOf 23 = .ok (.iload_n 1, 1) := by decide +kernel
theorem d_W_partOf_24 : decode c_W_partOf 24 = .ok (.iaload, 1) := by decide +kernel
theorem d_W_partOf_25 : decode c_W_partOf 25 = .ok (.goto 12, 3) := by decide +kernel
theorem d_W_partOf_28 : decode c_W_partOf 28 = .ok (.aload_n 0, 1) := by decide +kernel
theorem d_W_partOf_29 : decode c_W_partOf 29 = .ok (.getfield 67, 3) := by decide +kernel
theorem d_W_partOf_32 : decode c_W_partOf 32 = .ok (.getfield 345, 3) := by decide +kernel
theorem d_W_partOf_35 : decode c_W_partOf 35 = .ok (.iload_n 1, 1) := by decide +kernel
theorem d_W_partOf_36 : decode c_W_partOf 36 = .ok (.iaload, 1) := by decide +kernel
theorem d_W_partOf_37 : decode c_W_partOf 37 = .ok (.ireturn, 1) := by decide +kernel
theorem d_W_fuel_0 : decode c_W_fuel 0 = .ok (.aload_n 0, 1) := by decide +kernel
theorem d_W_fuel_1 : decode c_W_fuel 1 = .ok (.getfield 35, 3) := by decide +kernel
theorem d_W_fuel_4 : decode c_W_fuel 4 = .ok (.iload_n 1, 1) := by decide +kernel
theorem d_W_fuel_5 : decode c_W_fuel 5 = .ok (.invokevirtual 163, 3) := by decide +kernel
theorem d_W_fuel_8 : decode c_W_fuel 8 = .ok (.ifCond .ne 5, 3) := by decide +kernel
theorem d_W_fuel_11 : decode c_W_fuel 11 = .ok (.iconst (-1), 1) := by decide +kernel
theorem d_W_fuel_12 : decode c_W_fuel 12 = .ok (.ireturn, 1) := by decide +kernel
theorem d_W_fuel_13 : decode c_W_fuel 13 = .ok (.aload_n 0, 1) := by decide +kernel
theorem d_W_fuel_14 : decode c_W_fuel 14 = .ok (.getfield 35, 3) := by decide +kernel
theorem d_W_fuel_17 : decode c_W_fuel 17 = .ok (.iload_n 1, 1) := by decide +kernel
theorem d_W_fuel_18 : decode c_W_fuel 18 = .ok (.invokevirtual 164, 3) := by decide +kernel
theorem d_W_fuel_21 : decode c_W_fuel 21 = .ok (.ifCond .eq 12, 3) := by decide +kernel
theorem d_W_fuel_24 : decode c_W_fuel 24 = .ok (.aload_n 0, 1) := by decide +kernel
theorem d_W_fuel_25 : decode c_W_fuel 25 = .ok (.getfield 10, 3) := by decide +kernel
theorem d_W_fuel_28 : decode c_W_fuel 28 = .ok (.iconst 1, 1) := by decide +kernel
theorem d_W_fuel_29 : decode c_W_fuel 29 = .ok (.invokevirtual 75, 3) := by decide +kernel
theorem d_W_fuel_32 : decode c_W_fuel 32 = .ok (.ireturn, 1) := by decide +kernel
theorem d_W_fuel_33 : decode c_W_fuel 33 = .ok (.aload_n 0, 1) := by decide +kernel
theorem d_W_fuel_34 : decode c_W_fuel 34 = .ok (.getfield 35, 3) := by decide +kernel
theorem d_W_fuel_37 : decode c_W_fuel 37 = .ok (.iload_n 1, 1) := by decide +kernel
theorem d_W_fuel_38 : decode c_W_fuel 38 = .ok (.invokevirtual 187, 3) := by decide +kernel
theorem d_W_fuel_41 : decode c_W_fuel 41 = .ok (.astore_n 2, 1) := by decide +kernel
theorem d_W_fuel_42 : decode c_W_fuel 42 = .ok (.aload_n 2, 1) := by decide +kernel
theorem d_W_fuel_43 : decode c_W_fuel 43 = .ok (.aload_n 0, 1) := by decide +kernel
theorem d_W_fuel_44 : decode c_W_fuel 44 = .ok (.getfield 26, 3) := by decide +kernel
theorem d_W_fuel_47 : decode c_W_fuel 47 = .ok (.invokevirtual 213, 3) := by decide +kernel
theorem d_W_fuel_50 : decode c_W_fuel 50 = .ok (.istore_n 3, 1) := by decide +kernel
theorem d_W_fuel_51 : decode c_W_fuel 51 = .ok (.iload_n 3, 1) := by decide +kernel
theorem d_W_fuel_52 : decode c_W_fuel 52 = .ok (.iconst 1, 1) := by decide +kernel
theorem d_W_fuel_53 : decode c_W_fuel 53 = .ok (.if_icmp .lt 11, 3) := by decide +kernel
theorem d_W_fuel_56 : decode c_W_fuel 56 = .ok (.iload_n 3, 1) := by decide +kernel
theorem d_W_fuel_57 : decode c_W_fuel 57 = .ok (.iconst 4, 1) := by decide +kernel
theorem d_W_fuel_58 : decode c_W_fuel 58 = .ok (.if_icmp .gt 6, 3) := by decide +kernel
theorem d_W_fuel_61 : decode c_W_fuel 61 = .ok (.bipush (-4), 2) := by decide +kernel
theorem d_W_fuel_63 : decode c_W_fuel 63 = .ok (.ireturn, 1) := by decide +kernel
theorem d_W_fuel_64 : decode c_W_fuel 64 = .ok (.aload_n 2, 1) := by decide +kernel
theorem d_W_fuel_65 : decode c_W_fuel 65 = .ok (.aload_n 0, 1) := by decide +kernel
theorem d_W_fuel_66 : decode c_W_fuel 66 = .ok (.getfield 26, 3) := by decide +kernel
theorem d_W_fuel_69 : decode c_W_fuel 69 = .ok (.invokevirtual 348, 3) := by decide +kernel
theorem d_W_fuel_72 : decode c_W_fuel 72 = .ok (.ireturn, 1) := by decide +kernel
theorem d_W_asked_0 : decode c_W_asked 0 = .ok (.aload_n 0, 1) := by decide +kernel
theorem d_W_asked_1 : decode c_W_asked 1 = .ok (.getfield 10, 3) := by decide +kernel
theorem d_W_asked_4 : decode c_W_asked 4 = .ok (.getfield 239, 3) := by decide +kernel
theorem d_W_asked_7 : decode c_W_asked 7 = .ok (.ireturn, 1) := by decide +kernel
theorem d_W_upper_0 : decode c_W_upper 0 = .ok (.aload_n 0, 1) := by decide +kernel
theorem d_W_upper_1 : decode c_W_upper 1 = .ok (.getfield 10, 3) := by decide +kernel
theorem d_W_upper_4 : decode c_W_upper 4 = .ok (.getfield 351, 3) := by decide +kernel
theorem d_W_upper_7 : decode c_W_upper 7 = .ok (.lreturn, 1) := by decide +kernel
theorem d_W_lower_0 : decode c_W_lower 0 = .ok (.aload_n 0, 1) := by decide +kernel
theorem d_W_lower_1 : decode c_W_lower 1 = .ok (.getfield 10, 3) := by decide +kernel
theorem d_W_lower_4 : decode c_W_lower 4 = .ok (.getfield 355, 3) := by decide +kernel
theorem d_W_lower_7 : decode c_W_lower 7 = .ok (.lreturn, 1) := by decide +kernel
theorem d_W_count_0 : decode c_W_count 0 = .ok (.iload_n 1, 1) := by decide +kernel
theorem d_W_count_1 : decode c_W_count 1 = .ok (.tableswitch 109 0 6 #[43, 51, 59, 67, 75, 83, 101], 43) := by decide +kernel
theorem d_W_count_44 : decode c_W_count 44 = .ok (.aload_n 0, 1) := by decide +kernel
theorem d_W_count_45 : decode c_W_count 45 = .ok (.getfield 26, 3) := by decide +kernel
theorem d_W_count_48 : decode c_W_count 48 = .ok (.getfield 134, 3) := by decide +kernel
theorem d_W_count_51 : decode c_W_count 51 = .ok (.ireturn, 1) := by decide +kernel
theorem d_W_count_52 : decode c_W_count 52 = .ok (.aload_n 0, 1) := by decide +kernel
theorem d_W_count_53 : decode c_W_count 53 = .ok (.getfield 26, 3) := by decide +kernel
theorem d_W_count_56 : decode c_W_count 56 = .ok (.getfield 118, 3) := by decide +kernel
theorem d_W_count_59 : decode c_W_count 59 = .ok (.ireturn, 1) := by decide +kernel
theorem d_W_count_60 : decode c_W_count 60 = .ok (.aload_n 0, 1) := by decide +kernel
theorem d_W_count_61 : decode c_W_count 61 = .ok (.getfield 26, 3) := by decide +kernel
theorem d_W_count_64 : decode c_W_count 64 = .ok (.getfield 131, 3) := by decide +kernel
theorem d_W_count_67 : decode c_W_count 67 = .ok (.ireturn, 1) := by decide +kernel
theorem d_W_count_68 : decode c_W_count 68 = .ok (.aload_n 0, 1) := by decide +kernel
theorem d_W_count_69 : decode c_W_count 69 = .ok (.getfield 26, 3) := by decide +kernel
theorem d_W_count_72 : decode c_W_count 72 = .ok (.getfield 358, 3) := by decide +kernel
theorem d_W_count_75 : decode c_W_count 75 = .ok (.ireturn, 1) := by decide +kernel
theorem d_W_count_76 : decode c_W_count 76 = .ok (.aload_n 0, 1) := by decide +kernel
theorem d_W_count_77 : decode c_W_count 77 = .ok (.getfield 35, 3) := by decide +kernel
theorem d_W_count_80 : decode c_W_count 80 = .ok (.getfield 156, 3) := by decide +kernel
theorem d_W_count_83 : decode c_W_count 83 = .ok (.ireturn, 1) := by decide +kernel
theorem d_W_count_84 : decode c_W_count 84 = .ok (.aload_n 0, 1) := by decide +kernel
theorem d_W_count_85 : decode c_W_count 85 = .ok (.getfield 35, 3) := by decide +kernel
theorem d_W_count_88 : decode c_W_count 88 = .ok (.invokevirtual 181, 3) := by decide +kernel
theorem d_W_count_91 : decode c_W_count 91 = .ok (.aload_n 0, 1) := by decide +kernel
theorem d_W_count_92 : decode c_W_count 92 = .ok (.getfield 35, 3) := by decide +kernel
theorem d_W_count_95 : decode c_W_count 95 = .ok (.getfield 226, 3) := by decide +kernel
theorem d_W_count_98 : decode c_W_count 98 = .ok (.invokestatic 242, 3) := by decide +kernel
theorem d_W_count_101 : decode c_W_count 101 = .ok (.ireturn, 1) := by decide +kernel
theorem d_W_count_102 : decode c_W_count 102 = .ok (.aload_n 0, 1) := by decide +kernel
theorem d_W_count_103 : decode c_W_count 103 = .ok (.getfield 19, 3) := by decide +kernel
theorem d_W_count_106 : decode c_W_count 106 = .ok (.invokevirtual 361, 3) := by decide +kernel
theorem d_W_count_109 : decode c_W_count 109 = .ok (.ireturn, 1) := by decide +kernel
theorem d_W_count_110 : decode c_W_count 110 = .ok (.iconst (-1), 1) := by decide +kernel
theorem d_W_count_111 : decode c_W_count 111 = .ok (.ireturn, 1) := by decide +kernel
theorem d_W_finding_0 : decode c_W_finding 0 = .ok (.aload_n 0, 1) := by decide +kernel
theorem d_W_finding_1 : decode c_W_finding 1 = .ok (.getfield 10, 3) := by decide +kernel
theorem d_W_finding_4 : decode c_W_finding 4 = .ok (.getfield 364, 3) := by decide +kernel
theorem d_W_finding_7 : decode c_W_finding 7 = .ok (.ireturn, 1) := by decide +kernel
theorem d_W_findings_0 : decode c_W_findings 0 = .ok (.iload_n 1, 1) := by decide +kernel
theorem d_W_findings_1 : decode c_W_findings 1 = .ok (.iconst 1, 1) := by decide +kernel
theorem d_W_findings_2 : decode c_W_findings 2 = .ok (.if_icmp .lt 8, 3) := by decide +kernel
theorem d_W_findings_5 : decode c_W_findings 5 = .ok (.iload_n 1, 1) := by decide +kernel
theorem d_W_findings_6 : decode c_W_findings 6 = .ok (.iconst 5, 1) := by decide +kernel
theorem d_W_findings_7 : decode c_W_findings 7 = .ok (.if_icmp .le 7, 3) := by decide +kernel
theorem d_W_findings_10 : decode c_W_findings 10 = .ok (.iconst (-1), 1) := by decide +kernel
theorem d_W_findings_11 : decode c_W_findings 11 = .ok (.goto 12, 3) := by decide +kernel
theorem d_W_findings_14 : decode c_W_findings 14 = .ok (.aload_n 0, 1) := by decide +kernel
theorem d_W_findings_15 : decode c_W_findings 15 = .ok (.getfield 10, 3) := by decide +kernel
theorem d_W_findings_18 : decode c_W_findings 18 = .ok (.getfield 367, 3) := by decide +kernel
theorem d_W_findings_21 : decode c_W_findings 21 = .ok (.iload_n 1, 1) := by decide +kernel
theorem d_W_findings_22 : decode c_W_findings 22 = .ok (.iaload, 1) := by decide +kernel
theorem d_W_findings_23 : decode c_W_findings 23 = .ok (.ireturn, 1) := by decide +kernel
theorem d_W_digest_0 : decode c_W_digest 0 = .ok (.ldc2_w 370, 3) := by decide +kernel
theorem d_W_digest_3 : decode c_W_digest 3 = .ok (.lstore_n 1, 1) := by decide +kernel
theorem d_W_digest_4 : decode c_W_digest 4 = .ok (.iconst 0, 1) := by decide +kernel
theorem d_W_digest_5 : decode c_W_digest 5 = .ok (.istore_n 3, 1) := by decide +kernel
theorem d_W_digest_6 : decode c_W_digest 6 = .ok (.iload_n 3, 1) := by decide +kernel
theorem d_W_digest_7 : decode c_W_digest 7 = .ok (.bipush 6, 2) := by decide +kernel
theorem d_W_digest_9 : decode c_W_digest 9 = .ok (.if_icmp .gt 22, 3) := by decide +kernel
theorem d_W_digest_12 : decode c_W_digest 12 = .ok (.ldc2_w 372, 3) := by decide +kernel
theorem d_W_digest_15 : decode c_W_digest 15 = .ok (.lload_n 1, 1) := by decide +kernel
theorem d_W_digest_16 : decode c_W_digest 16 = .ok (.lmul, 1) := by decide +kernel
theorem d_W_digest_17 : decode c_W_digest 17 = .ok (.aload_n 0, 1) := by decide +kernel
theorem d_W_digest_18 : decode c_W_digest 18 = .ok (.iload_n 3, 1) := by decide +kernel
theorem d_W_digest_19 : decode c_W_digest 19 = .ok (.invokevirtual 374, 3) := by decide +kernel
theorem d_W_digest_22 : decode c_W_digest 22 = .ok (.i2l, 1) := by decide +kernel
theorem d_W_digest_23 : decode c_W_digest 23 = .ok (.ladd, 1) := by decide +kernel
theorem d_W_digest_24 : decode c_W_digest 24 = .ok (.lstore_n 1, 1) := by decide +kernel
theorem d_W_digest_25 : decode c_W_digest 25 = .ok (.iinc 3 1, 3) := by decide +kernel
theorem d_W_digest_28 : decode c_W_digest 28 = .ok (.goto (-22), 3) := by decide +kernel
theorem d_W_digest_31 : decode c_W_digest 31 = .ok (.aload_n 0, 1) := by decide +kernel
theorem d_W_digest_32 : decode c_W_digest 32 = .ok (.getfield 19, 3) := by decide +kernel
theorem d_W_digest_35 : decode c_W_digest 35 = .ok (.aload_n 0, 1) := by decide +kernel
theorem d_W_digest_36 : decode c_W_digest 36 = .ok (.getfield 35, 3) := by decide +kernel
theorem d_W_digest_39 : decode c_W_digest 39 = .ok (.aload_n 0, 1) := by decide +kernel
theorem d_W_digest_40 : decode c_W_digest 40 = .ok (.getfield 26, 3) := by decide +kernel
theorem d_W_digest_43 : decode c_W_digest 43 = .ok (.lload_n 1, 1) := by decide +kernel
theorem d_W_digest_44 : decode c_W_digest 44 = .ok (.invokevirtual 377, 3) := by decide +kernel
theorem d_W_digest_47 : decode c_W_digest 47 = .ok (.invokevirtual 381, 3) := by decide +kernel
theorem d_W_digest_50 : decode c_W_digest 50 = .ok (.invokevirtual 382, 3) := by decide +kernel
theorem d_W_digest_53 : decode c_W_digest 53 = .ok (.lreturn, 1) := by decide +kernel
theorem d_W_isRow_0 : decode c_W_isRow 0 = .ok (.iload_n 0, 1) := by decide +kernel
theorem d_W_isRow_1 : decode c_W_isRow 1 = .ok (.ifCond .lt 13, 3) := by decide +kernel
theorem d_W_isRow_4 : decode c_W_isRow 4 = .ok (.iload_n 0, 1) := by decide +kernel
theorem d_W_isRow_5 : decode c_W_isRow 5 = .ok (.bipush 8, 2) := by decide +kernel
theorem d_W_isRow_7 : decode c_W_isRow 7 = .ok (.if_icmp .ge 7, 3) := by decide +kernel
theorem d_W_isRow_10 : decode c_W_isRow 10 = .ok (.iconst 1, 1) := by decide +kernel
theorem d_W_isRow_11 : decode c_W_isRow 11 = .ok (.goto 4, 3) := by decide +kernel
theorem d_W_isRow_14 : decode c_W_isRow 14 = .ok (.iconst 0, 1) := by decide +kernel
theorem d_W_isRow_15 : decode c_W_isRow 15 = .ok (.ireturn, 1) := by decide +kernel
theorem d_W_isTime_0 : decode c_W_isTime 0 = .ok (.iload_n 0, 1) := by decide +kernel
theorem d_W_isTime_1 : decode c_W_isTime 1 = .ok (.ifCond .lt 14, 3) := by decide +kernel
theorem d_W_isTime_4 : decode c_W_isTime 4 = .ok (.iload_n 0, 1) := by decide +kernel
theorem d_W_isTime_5 : decode c_W_isTime 5 = .ok (.ldc_w 383, 3) := by decide +kernel
theorem d_W_isTime_8 : decode c_W_isTime 8 = .ok (.if_icmp .gt 7, 3) := by decide +kernel
theorem d_W_isTime_11 : decode c_W_isTime 11 = .ok (.iconst 1, 1) := by decide +kernel
theorem d_W_isTime_12 : decode c_W_isTime 12 = .ok (.goto 4, 3) := by decide +kernel
theorem d_W_isTime_15 : decode c_W_isTime 15 = .ok (.iconst 0, 1) := by decide +kernel
theorem d_W_isTime_16 : decode c_W_isTime 16 = .ok (.ireturn, 1) := by decide +kernel
theorem d_W_isStart_0 : decode c_W_isStart 0 = .ok (.iload_n 0, 1) := by decide +kernel
theorem d_W_isStart_1 : decode c_W_isStart 1 = .ok (.ifCond .lt 14, 3) := by decide +kernel
theorem d_W_isStart_4 : decode c_W_isStart 4 = .ok (.iload_n 0, 1) := by decide +kernel
theorem d_W_isStart_5 : decode c_W_isStart 5 = .ok (.sipush 14400, 3) := by decide +kernel
theorem d_W_isStart_8 : decode c_W_isStart 8 = .ok (.if_icmp .ge 7, 3) := by decide +kernel
theorem d_W_isStart_11 : decode c_W_isStart 11 = .ok (.iconst 1, 1) := by decide +kernel
theorem d_W_isStart_12 : decode c_W_isStart 12 = .ok (.goto 4, 3) := by decide +kernel
theorem d_W_isStart_15 : decode c_W_isStart 15 = .ok (.iconst 0, 1) := by decide +kernel
theorem d_W_isStart_16 : decode c_W_isStart 16 = .ok (.ireturn, 1) := by decide +kernel
theorem d_W_isNeed_0 : decode c_W_isNeed 0 = .ok (.iload_n 0, 1) := by decide +kernel
theorem d_W_isNeed_1 : decode c_W_isNeed 1 = .ok (.iconst 1, 1) := by decide +kernel
theorem d_W_isNeed_2 : decode c_W_isNeed 2 = .ok (.if_icmp .lt 14, 3) := by decide +kernel
theorem d_W_isNeed_5 : decode c_W_isNeed 5 = .ok (.iload_n 0, 1) := by decide +kernel
theorem d_W_isNeed_6 : decode c_W_isNeed 6 = .ok (.sipush 14400, 3) := by decide +kernel
theorem d_W_isNeed_9 : decode c_W_isNeed 9 = .ok (.if_icmp .gt 7, 3) := by decide +kernel
theorem d_W_isNeed_12 : decode c_W_isNeed 12 = .ok (.iconst 1, 1) := by decide +kernel
theorem d_W_isNeed_13 : decode c_W_isNeed 13 = .ok (.goto 4, 3) := by decide +kernel
theorem d_W_isNeed_16 : decode c_W_isNeed 16 = .ok (.iconst 0, 1) := by decide +kernel
theorem d_W_isNeed_17 : decode c_W_isNeed 17 = .ok (.ireturn, 1) := by decide +kernel
theorem d_W_isWalkerAsTold_0 : decode c_W_isWalkerAsTold 0 = .ok (.iload_n 1, 1) := by decide +kernel
theorem d_W_isWalkerAsTold_1 : decode c_W_isWalkerAsTold 1 = .ok (.tableswitch 88 0 3 #[31, 33, 50, 79], 31) := by decide +kernel
theorem d_W_isWalkerAsTold_32 : decode c_W_isWalkerAsTold 32 = .ok (.iconst 1, 1) := by decide +kernel
theorem d_W_isWalkerAsTold_33 : decode c_W_isWalkerAsTold 33 = .ok (.ireturn, 1) := by decide +kernel
theorem d_W_isWalkerAsTold_34 : decode c_W_isWalkerAsTold 34 = .ok (.iload_n 2, 1) := by decide +kernel
theorem d_W_isWalkerAsTold_35 : decode c_W_isWalkerAsTold 35 = .ok (.iconst 1, 1) := by decide +kernel
theorem d_W_isWalkerAsTold_36 : decode c_W_isWalkerAsTold 36 = .ok (.if_icmp .lt 13, 3) := by decide +kernel
theorem d_W_isWalkerAsTold_39 : decode c_W_isWalkerAsTold 39 = .ok (.iload_n 2, 1) := by decide +kernel
theorem d_W_isWalkerAsTold_40 : decode c_W_isWalkerAsTold 40 = .ok (.bipush 6, 2) := by decide +kernel
theorem d_W_isWalkerAsTold_42 : decode c_W_isWalkerAsTold 42 = .ok (.if_icmp .gt 7, 3) := by decide +kernel
theorem d_W_isWalkerAsTold_45 : decode c_W_isWalkerAsTold 45 = .ok (.iconst 1, 1) := by decide +kernel
theorem d_W_isWalkerAsTold_46 : decode c_W_isWalkerAsTold 46 = .ok (.goto 4, 3) := by decide +kernel
theorem d_W_isWalkerAsTold_49 : decode c_W_isWalkerAsTold 49 = .ok (.iconst 0, 1) := by decide +kernel
theorem d_W_isWalkerAsTold_50 : decode c_W_isWalkerAsTold 50 = .ok (.ireturn, 1) := by decide +kernel
theorem d_W_isWalkerAsTold_51 : decode c_W_isWalkerAsTold 51 = .ok (.iload_n 2, 1) := by decide +kernel
theorem d_W_isWalkerAsTold_52 : decode c_W_isWalkerAsTold 52 = .ok (.iconst 1, 1) := by decide +kernel
theorem d_W_isWalkerAsTold_53 : decode c_W_isWalkerAsTold 53 = .ok (.if_icmp .lt 25, 3) := by decide +kernel
theorem d_W_isWalkerAsTold_56 : decode c_W_isWalkerAsTold 56 = .ok (.iload_n 2, 1) := by decide +kernel
theorem d_W_isWalkerAsTold_57 : decode c_W_isWalkerAsTold 57 = .ok (.bipush 6, 2) := by decide +kernel
theorem d_W_isWalkerAsTold_59 : decode c_W_isWalkerAsTold 59 = .ok (.if_icmp .gt 19, 3) := by decide +kernel
theorem d_W_isWalkerAsTold_62 : decode c_W_isWalkerAsTold 62 = .ok (.iload_n 3, 1) := by decide +kernel
theorem d_W_isWalkerAsTold_63 : decode c_W_isWalkerAsTold 63 = .ok (.iconst 1, 1) := by decide +kernel
theorem d_W_isWalkerAsTold_64 : decode c_W_isWalkerAsTold 64 = .ok (.if_icmp .lt 14, 3) := by decide +kernel
theorem d_W_isWalkerAsTold_67 : decode c_W_isWalkerAsTold 67 = .ok (.iload_n 3, 1) := by decide +kernel
theorem d_W_isWalkerAsTold_68 : decode c_W_isWalkerAsTold 68 = .ok (.sipush 500, 3) := by decide +kernel
theorem d_W_isWalkerAsTold_71 : decode c_W_isWalkerAsTold 71 = .ok (.if_icmp .gt 7, 3) := by decide +kernel
theorem d_W_isWalkerAsTold_74 : decode c_W_isWalkerAsTold 74 = .ok (.iconst 1, 1) := by decide +kernel
theorem d_W_isWalkerAsTold_75 : decode c_W_isWalkerAsTold 75 = .ok (.goto 4, 3) := by decide +kernel
theorem d_W_isWalkerAsTold_78 : decode c_W_isWalkerAsTold 78 = .ok (.iconst 0, 1) := by decide +kernel
theorem d_W_isWalkerAsTold_79 : decode c_W_isWalkerAsTold 79 = .ok (.ireturn, 1) := by decide +kernel
theorem d_W_isWalkerAsTold_80 : decode c_W_isWalkerAsTold 80 = .ok (.aload_n 0, 1) := by decide +kernel
theorem d_W_isWalkerAsTold_81 : decode c_W_isWalkerAsTold 81 = .ok (.getfield 26, 3) := by decide +kernel
theorem d_W_isWalkerAsTold_84 : decode c_W_isWalkerAsTold 84 = .ok (.iload_n 2, 1) := by decide +kernel
theorem d_W_isWalkerAsTold_85 : decode c_W_isWalkerAsTold 85 = .ok (.invokevirtual 125, 3) := by decide +kernel
theorem d_W_isWalkerAsTold_88 : decode c_W_isWalkerAsTold 88 = .ok (.ireturn, 1) := by decide +kernel
theorem d_W_isWalkerAsTold_89 : decode c_W_isWalkerAsTold 89 = .ok (.iconst 0, 1) := by decide +kernel
theorem d_W_isWalkerAsTold_90 : decode c_W_isWalkerAsTold 90 = .ok (.ireturn, 1) := by decide +kernel
theorem d_W_writePlan_0 : decode c_W_writePlan 0 = .ok (.aload_n 1, 1) := by decide +kernel
theorem d_W_writePlan_1 : decode c_W_writePlan 1 = .ok (.aload_n 0, 1) := by decide +kernel
theorem d_W_writePlan_2 : decode c_W_writePlan 2 = .ok (.getfield 19, 3) := by decide +kernel
theorem d_W_writePlan_5 : decode c_W_writePlan 5 = .ok (.iload_n 2, 1) := by decide +kernel
theorem d_W_writePlan_6 : decode c_W_writePlan 6 = .ok (.invokevirtual 86, 3) := by decide +kernel
theorem d_W_writePlan_9 : decode c_W_writePlan 9 = .ok (.bipush 24, 2) := by decide +kernel
theorem d_W_writePlan_11 : decode c_W_writePlan 11 = .ok (.invokestatic 292, 3) := by decide +kernel
theorem d_W_writePlan_14 : decode c_W_writePlan 14 = .ok (.putfield 204, 3) := by decide +kernel
theorem d_W_writePlan_17 : decode c_W_writePlan 17 = .ok (.aload_n 1, 1) := by decide +kernel
theorem d_W_writePlan_18 : decode c_W_writePlan 18 = .ok (.iload 4, 2) := by decide +kernel
theorem d_W_writePlan_20 : decode c_W_writePlan 20 = .ok (.putfield 384, 3) := by decide +kernel
theorem d_W_writePlan_23 : decode c_W_writePlan 23 = .ok (.iload_n 3, 1) := by decide +kernel
theorem d_W_writePlan_24 : decode c_W_writePlan 24 = .ok (.bipush (-9), 2) := by decide +kernel
theorem d_W_writePlan_26 : decode c_W_writePlan 26 = .ok (.if_icmp .ne 7, 3) := by decide +kernel
theorem d_W_writePlan_29 : decode c_W_writePlan 29 = .ok (.iconst 0, 1) := by decide +kernel
theorem d_W_writePlan_30 : decode c_W_writePlan 30 = .ok (.goto 11, 3) := by decide +kernel
theorem d_W_writePlan_33 : decode c_W_writePlan 33 = .ok (.aload_n 0, 1) := by decide +kernel
theorem d_W_writePlan_34 : decode c_W_writePlan 34 = .ok (.getfield 19, 3) := by decide +kernel
theorem d_W_writePlan_37 : decode c_W_writePlan 37 = .ok (.iload_n 3, 1) := by decide +kernel
theorem d_W_writePlan_38 : decode c_W_writePlan 38 = .ok (.invokevirtual 86, 3) := by decide +kernel
theorem d_W_writePlan_41 : decode c_W_writePlan 41 = .ok (.istore 5, 2) := by decide +kernel
theorem d_W_writePlan_43 : decode c_W_writePlan 43 = .ok (.iconst 0, 1) := by decide +kernel
theorem d_W_writePlan_44 : decode c_W_writePlan 44 = .ok (.istore 6, 2) := by decide +kernel
theorem d_W_writePlan_46 : decode c_W_writePlan 46 = .ok (.iload 6, 2) := by decide +kernel
theorem d_W_writePlan_48 : decode c_W_writePlan 48 = .ok (.aload_n 1, 1) := by decide +kernel
theorem d_W_writePlan_49 : decode c_W_writePlan 49 = .ok (.getfield 204, 3) := by decide +kernel
theorem d_W_writePlan_52 : decode c_W_writePlan 52 = .ok (.if_icmp .ge 58, 3) := by decide +kernel
theorem d_W_writePlan_55 : decode c_W_writePlan 55 = .ok (.aload_n 1, 1) := by decide +kernel
theorem d_W_writePlan_56 : decode c_W_writePlan 56 = .ok (.getfield 211, 3) := by decide +kernel
theorem d_W_writePlan_59 : decode c_W_writePlan 59 = .ok (.iload 6, 2) := by decide +kernel
theorem d_W_writePlan_61 : decode c_W_writePlan 61 = .ok (.aload_n 0, 1) := by decide +kernel
theorem d_W_writePlan_62 : decode c_W_writePlan 62 = .ok (.getfield 19, 3) := by decide +kernel
theorem d_W_writePlan_65 : decode c_W_writePlan 65 = .ok (.iload_n 2, 1) := by decide +kernel
theorem d_W_writePlan_66 : decode c_W_writePlan 66 = .ok (.iload 6, 2) := by decide +kernel
theorem d_W_writePlan_68 : decode c_W_writePlan 68 = .ok (.invokevirtual 89, 3) := by decide +kernel
theorem d_W_writePlan_71 : decode c_W_writePlan 71 = .ok (.iastore, 1) := by decide +kernel
theorem d_W_writePlan_72 : decode c_W_writePlan 72 = .ok (.aload_n 1, 1) := by decide +kernel
theorem d_W_writePlan_73 : decode c_W_writePlan 73 = .ok (.getfield 207, 3) := by decide +kernel
theorem d_W_writePlan_76 : decode c_W_writePlan 76 = .ok (.iload 6, 2) := by decide +kernel
theorem d_W_writePlan_78 : decode c_W_writePlan 78 = .ok (.iload 6, 2) := by decide +kernel
theorem d_W_writePlan_80 : decode c_W_writePlan 80 = .ok (.iload 5, 2) := by decide +kernel
theorem d_W_writePlan_82 : decode c_W_writePlan 82 = .ok (.if_icmp .ge 20, 3) := by decide +kernel
theorem d_W_writePlan_85 : decode c_W_writePlan 85 = .ok (.iconst 0, 1) := by decide +kernel
theorem d_W_writePlan_86 : decode c_W_writePlan 86 = .ok (.aload_n 0, 1) := by decide +kernel
theorem d_W_writePlan_87 : decode c_W_writePlan 87 = .ok (.getfield 19, 3) := by decide +kernel
theorem d_W_writePlan_90 : decode c_W_writePlan 90 = .ok (.iload_n 3, 1) := by decide +kernel
theorem d_W_writePlan_91 : decode c_W_writePlan 91 = .ok (.iload 6, 2) := by decide +kernel
theorem d_W_writePlan_93 : decode c_W_writePlan 93 = .ok (.invokevirtual 89, 3) := by decide +kernel
theorem d_W_writePlan_96 : decode c_W_writePlan 96 = .ok (.invokestatic 387, 3) := by decide +kernel
theorem d_W_writePlan_99 : decode c_W_writePlan 99 = .ok (.goto 4, 3) := by decide +kernel
theorem d_W_writePlan_102 : decode c_W_writePlan 102 = .ok (.iconst 0, 1) := by decide +kernel
theorem d_W_writePlan_103 : decode c_W_writePlan 103 = .ok (.iastore, 1) := by decide +kernel
theorem d_W_writePlan_104 : decode c_W_writePlan 104 = .ok (.iinc 6 1, 3) := by decide +kernel
theorem d_W_writePlan_107 : decode c_W_writePlan 107 = .ok (.goto (-61), 3) := by decide +kernel
theorem d_W_writePlan_110 : decode c_W_writePlan 110 = .ok (.return_, 1) := by decide +kernel
theorem d_W_watchPost_0 : decode c_W_watchPost 0 = .ok (.aload_n 0, 1) := by decide +kernel
theorem d_W_watchPost_1 : decode c_W_watchPost 1 = .ok (.getfield 26, 3) := by decide +kernel
theorem d_W_watchPost_4 : decode c_W_watchPost 4 = .ok (.iload_n 1, 1) := by decide +kernel
theorem d_W_watchPost_5 : decode c_W_watchPost 5 = .ok (.invokevirtual 125, 3) := by decide +kernel
theorem d_W_watchPost_8 : decode c_W_watchPost 8 = .ok (.ifCond .ne 5, 3) := by decide +kernel
theorem d_W_watchPost_11 : decode c_W_watchPost 11 = .ok (.iconst (-1), 1) := by decide +kernel
theorem d_W_watchPost_12 : decode c_W_watchPost 12 = .ok (.ireturn, 1) := by decide +kernel
theorem d_W_watchPost_13 : decode c_W_watchPost 13 = .ok (.aload_n 0, 1) := by decide +kernel
theorem d_W_watchPost_14 : decode c_W_watchPost 14 = .ok (.getfield 35, 3) := by decide +kernel
theorem d_W_watchPost_17 : decode c_W_watchPost 17 = .ok (.invokevirtual 181, 3) := by decide +kernel
theorem d_W_watchPost_20 : decode c_W_watchPost 20 = .ok (.aload_n 0, 1) := by decide +kernel
theorem d_W_watchPost_21 : decode c_W_watchPost 21 = .ok (.getfield 35, 3) := by decide +kernel
theorem d_W_watchPost_24 : decode c_W_watchPost 24 = .ok (.aload_n 0, 1) := by decide +kernel
theorem d_W_watchPost_25 : decode c_W_watchPost 25 = .ok (.getfield 35, 3) := by decide +kernel
theorem d_W_watchPost_28 : decode c_W_watchPost 28 = .ok (.getfield 226, 3) := by decide +kernel
theorem d_W_watchPost_31 : decode c_W_watchPost 31 = .ok (.invokevirtual 229, 3) := by decide +kernel
theorem d_W_watchPost_34 : decode c_W_watchPost 34 = .ok (.iconst 1, 1) := by decide +kernel
theorem d_W_watchPost_35 : decode c_W_watchPost 35 = .ok (.if_icmp .ge 6, 3) := by decide +kernel
theorem d_W_watchPost_38 : decode c_W_watchPost 38 = .ok (.bipush (-6), 2) := by decide +kernel
theorem d_W_watchPost_40 : decode c_W_watchPost 40 = .ok (.ireturn, 1) := by decide +kernel
theorem d_W_watchPost_41 : decode c_W_watchPost 41 = .ok (.aload_n 0, 1) := by decide +kernel
theorem d_W_watchPost_42 : decode c_W_watchPost 42 = .ok (.getfield 44, 3) := by decide +kernel
theorem d_W_watchPost_45 : decode c_W_watchPost 45 = .ok (.aload_n 0, 1) := by decide +kernel
theorem d_W_watchPost_46 : decode c_W_watchPost 46 = .ok (.getfield 35, 3) := by decide +kernel
theorem d_W_watchPost_49 : decode c_W_watchPost 49 = .ok (.getfield 226, 3) := by decide +kernel
theorem d_W_watchPost_52 : decode c_W_watchPost 52 = .ok (.iconst 1, 1) := by decide +kernel
theorem d_W_watchPost_53 : decode c_W_watchPost 53 = .ok (.iload_n 1, 1) := by decide +kernel
theorem d_W_watchPost_54 : decode c_W_watchPost 54 = .ok (.ishl, 1) := by decide +kernel
theorem d_W_watchPost_55 : decode c_W_watchPost 55 = .ok (.iload_n 2, 1) := by decide +kernel
theorem d_W_watchPost_56 : decode c_W_watchPost 56 = .ok (.invokevirtual 259, 3) := by decide +kernel
theorem d_W_watchPost_59 : decode c_W_watchPost 59 = .ok (.iconst 0, 1) := by decide +kernel
theorem d_W_watchPost_60 : decode c_W_watchPost 60 = .ok (.ireturn, 1) := by decide +kernel
theorem d_W_isLoss_0 : decode c_W_isLoss 0 = .ok (.iload_n 0, 1) := by decide +kernel
theorem d_W_isLoss_1 : decode c_W_isLoss 1 = .ok (.iload_n 1, 1) := by decide +kernel
theorem d_W_isLoss_2 : decode c_W_isLoss 2 = .ok (.iconst (-1), 1) := by decide +kernel
theorem d_W_isLoss_3 : decode c_W_isLoss 3 = .ok (.ixor, 1) := by decide +kernel
theorem d_W_isLoss_4 : decode c_W_isLoss 4 = .ok (.iand, 1) := by decide +kernel
theorem d_W_isLoss_5 : decode c_W_isLoss 5 = .ok (.ifCond .ne 15, 3) := by decide +kernel
theorem d_W_isLoss_8 : decode c_W_isLoss 8 = .ok (.iload_n 0, 1) := by decide +kernel
theorem d_W_isLoss_9 : decode c_W_isLoss 9 = .ok (.invokestatic 242, 3) := by decide +kernel
theorem d_W_isLoss_12 : decode c_W_isLoss 12 = .ok (.iload_n 2, 1) := by decide +kernel
theorem d_W_isLoss_13 : decode c_W_isLoss 13 = .ok (.if_icmp .ne 7, 3) := by decide +kernel
theorem d_W_isLoss_16 : decode c_W_isLoss 16 = .ok (.iconst 1, 1) := by decide +kernel
theorem d_W_isLoss_17 : decode c_W_isLoss 17 = .ok (.goto 4, 3) := by decide +kernel
theorem d_W_isLoss_20 : decode c_W_isLoss 20 = .ok (.iconst 0, 1) := by decide +kernel
theorem d_W_isLoss_21 : decode c_W_isLoss 21 = .ok (.ireturn, 1) := by decide +kernel
theorem d_W_isSpentWithAny_0 : decode c_W_isSpentWithAny 0 = .ok (.iconst 0, 1) := by decide +kernel
theorem d_W_isSpentWithAny_1 : decode c_W_isSpentWithAny 1 = .ok (.istore_n 3, 1) := by decide +kernel
theorem d_W_isSpentWithAny_2 : decode c_W_isSpentWithAny 2 = .ok (.iload_n 3, 1) := by decide +kernel
theorem d_W_isSpentWithAny_3 : decode c_W_isSpentWithAny 3 = .ok (.iload_n 1, 1) := by decide +kernel
theorem d_W_isSpentWithAny_4 : decode c_W_isSpentWithAny 4 = .ok (.if_icmp .gt 36, 3) := by decide +kernel
theorem d_W_isSpentWithAny_7 : decode c_W_isSpentWithAny 7 = .ok (.iload_n 3, 1) := by decide +kernel
theorem d_W_isSpentWithAny_8 : decode c_W_isSpentWithAny 8 = .ok (.iload_n 1, 1) := by decide +kernel
theorem d_W_isSpentWithAny_9 : decode c_W_isSpentWithAny 9 = .ok (.iload_n 2, 1) := by decide +kernel
theorem d_W_isSpentWithAny_10 : decode c_W_isSpentWithAny 10 = .ok (.invokestatic 390, 3) := by decide +kernel
theorem d_W_isSpentWithAny_13 : decode c_W_isSpentWithAny 13 = .ok (.ifCond .eq 21, 3) := by decide +kernel
theorem d_W_isSpentWithAny_16 : decode c_W_isSpentWithAny 16 = .ok (.aload_n 0, 1) := by decide +kernel
theorem d_W_isSpentWithAny_17 : decode c_W_isSpentWithAny 17 = .ok (.getfield 35, 3) := by decide +kernel
theorem d_W_isSpentWithAny_20 : decode c_W_isSpentWithAny 20 = .ok (.iload_n 1, 1) := by decide +kernel
theorem d_W_isSpentWithAny_21 : decode c_W_isSpentWithAny 21 = .ok (.iload_n 3, 1) := by decide +kernel
theorem d_W_isSpentWithAny_22 : decode c_W_isSpentWithAny 22 = .ok (.iconst (-1), 1) := by decide +kernel
theorem d_W_isSpentWithAny_23 : decode c_W_isSpentWithAny 23 = .ok (.ixor, 1) := by decide +kernel
theorem d_W_isSpentWithAny_24 : decode c_W_isSpentWithAny 24 = .ok (.iand, 1) := by decide +kernel
theorem d_W_isSpentWithAny_25 : decode c_W_isSpentWithAny 25 = .ok (.invokevirtual 229, 3) := by decide +kernel
theorem d_W_isSpentWithAny_28 : decode c_W_isSpentWithAny 28 = .ok (.iconst 1, 1) := by decide +kernel
theorem d_W_isSpentWithAny_29 : decode c_W_isSpentWithAny 29 = .ok (.if_icmp .ge 5, 3) := by decide +kernel
theorem d_W_isSpentWithAny_32 : decode c_W_isSpentWithAny 32 = .ok (.iconst 1, 1) := by decide +kernel
theorem d_W_isSpentWithAny_33 : decode c_W_isSpentWithAny 33 = .ok (.ireturn, 1) := by decide +kernel
theorem d_W_isSpentWithAny_34 : decode c_W_isSpentWithAny 34 = .ok (.iinc 3 1, 3) := by decide +kernel
theorem d_W_isSpentWithAny_37 : decode c_W_isSpentWithAny 37 = .ok (.goto (-35), 3) := by decide +kernel
theorem d_W_isSpentWithAny_40 : decode c_W_isSpentWithAny 40 = .ok (.iconst 0, 1) := by decide +kernel
theorem d_W_isSpentWithAny_41 : decode c_W_isSpentWithAny 41 = .ok (.ireturn, 1) := by decide +kernel
theorem d_W_firstBlindSet_0 : decode c_W_firstBlindSet 0 = .ok (.aload_n 0, 1) := by decide +kernel
theorem d_W_firstBlindSet_1 : decode c_W_firstBlindSet 1 = .ok (.getfield 26, 3) := by decide +kernel
theorem d_W_firstBlindSet_4 : decode c_W_firstBlindSet 4 = .ok (.invokevirtual 256, 3) := by decide +kernel
theorem d_W_firstBlindSet_7 : decode c_W_firstBlindSet 7 = .ok (.istore_n 3, 1) := by decide +kernel
theorem d_W_firstBlindSet_8 : decode c_W_firstBlindSet 8 = .ok (.iconst 0, 1) := by decide +kernel
theorem d_W_firstBlindSet_9 : decode c_W_firstBlindSet 9 = .ok (.istore 4, 2) := by decide +kernel
theorem d_W_firstBlindSet_11 : decode c_W_firstBlindSet 11 = .ok (.iload 4, 2) := by decide +kernel
theorem d_W_firstBlindSet_13 : decode c_W_firstBlindSet 13 = .ok (.iload_n 1, 1) := by decide +kernel
theorem d_W_firstBlindSet_14 : decode c_W_firstBlindSet 14 = .ok (.if_icmp .gt 42, 3) := by decide +kernel
theorem d_W_firstBlindSet_17 : decode c_W_firstBlindSet 17 = .ok (.iload 4, 2) := by decide +kernel
theorem d_W_firstBlindSet_19 : decode c_W_firstBlindSet 19 = .ok (.iload_n 1, 1) := by decide +kernel
theorem d_W_firstBlindSet_20 : decode c_W_firstBlindSet 20 = .ok (.iload_n 2, 1) := by decide +kernel
theorem d_W_firstBlindSet_21 : decode c_W_firstBlindSet 21 = .ok (.invokestatic 390, 3) := by decide +kernel
theorem d_W_firstBlindSet_24 : decode c_W_firstBlindSet 24 = .ok (.ifCond .eq 26, 3) := by decide +kernel
theorem d_W_firstBlindSet_27 : decode c_W_firstBlindSet 27 = .ok (.iload_n 3, 1) := by decide +kernel
theorem d_W_firstBlindSet_28 : decode c_W_firstBlindSet 28 = .ok (.aload_n 0, 1) := by decide +kernel
theorem d_W_firstBlindSet_29 : decode c_W_firstBlindSet 29 = .ok (.getfield 35, 3) := by decide +kernel
theorem d_W_firstBlindSet_32 : decode c_W_firstBlindSet 32 = .ok (.iload_n 1, 1) := by decide +kernel
theorem d_W_firstBlindSet_33 : decode c_W_firstBlindSet 33 = .ok (.iload 4, 2) := by decide +kernel
theorem d_W_firstBlindSet_35 : decode c_W_firstBlindSet 35 = .ok (.iconst (-1), 1) := by decide +kernel
theorem d_W_firstBlindSet_36 : decode c_W_firstBlindSet 36 = .ok (.ixor, 1) := by decide +kernel
theorem d_W_firstBlindSet_37 : decode c_W_firstBlindSet 37 = .ok (.iand, 1) := by decide +kernel
theorem d_W_firstBlindSet_38 : decode c_W_firstBlindSet 38 = .ok (.invokevirtual 393, 3) := by decide +kernel
theorem d_W_firstBlindSet_41 : decode c_W_firstBlindSet 41 = .ok (.iconst (-1), 1) := by decide +kernel
theorem d_W_firstBlindSet_42 : decode c_W_firstBlindSet 42 = .ok (.ixor, 1) := by decide +kernel
theorem d_W_firstBlindSet_43 : decode c_W_firstBlindSet 43 = .ok (.iand, 1) := by decide +kernel
theorem d_W_firstBlindSet_44 : decode c_W_firstBlindSet 44 = .ok (.ifCond .eq 6, 3) := by decide +kernel
theorem d_W_firstBlindSet_47 : decode c_W_firstBlindSet 47 = .ok (.iload 4, 2) := by decide +kernel
theorem d_W_firstBlindSet_49 : decode c_W_firstBlindSet 49 = .ok (.ireturn, 1) := by decide +kernel
theorem d_W_firstBlindSet_50 : decode c_W_firstBlindSet 50 = .ok (.iinc 4 1, 3) := by decide +kernel
theorem d_W_firstBlindSet_53 : decode c_W_firstBlindSet 53 = .ok (.goto (-42), 3) := by decide +kernel
theorem d_W_firstBlindSet_56 : decode c_W_firstBlindSet 56 = .ok (.bipush (-9), 2) := by decide +kernel
theorem d_W_firstBlindSet_58 : decode c_W_firstBlindSet 58 = .ok (.ireturn, 1) := by decide +kernel
theorem d_W_tellGreatestLoad_0 : decode c_W_tellGreatestLoad 0 = .ok (.aload_n 0, 1) := by decide +kernel
theorem d_W_tellGreatestLoad_1 : decode c_W_tellGreatestLoad 1 = .ok (.getfield 26, 3) := by decide +kernel
theorem d_W_tellGreatestLoad_4 : decode c_W_tellGreatestLoad 4 = .ok (.invokevirtual 256, 3) := by decide +kernel
theorem d_W_tellGreatestLoad_7 : decode c_W_tellGreatestLoad 7 = .ok (.istore_n 3, 1) := by decide +kernel
theorem d_W_tellGreatestLoad_8 : decode c_W_tellGreatestLoad 8 = .ok (.iconst (-1), 1) := by decide +kernel
theorem d_W_tellGreatestLoad_9 : decode c_W_tellGreatestLoad 9 = .ok (.istore 4, 2) := by decide +kernel
theorem d_W_tellGreatestLoad_11 : decode c_W_tellGreatestLoad 11 = .ok (.iconst 0, 1) := by decide +kernel
theorem d_W_tellGreatestLoad_12 : decode c_W_tellGreatestLoad 12 = .ok (.istore 5, 2) := by decide +kernel
theorem d_W_tellGreatestLoad_14 : decode c_W_tellGreatestLoad 14 = .ok (.iload 5, 2) := by decide +kernel
theorem d_W_tellGreatestLoad_16 : decode c_W_tellGreatestLoad 16 = .ok (.iload_n 1, 1) := by decide +kernel
theorem d_W_tellGreatestLoad_17 : decode c_W_tellGreatestLoad 17 = .ok (.if_icmp .gt 86, 3) := by decide +kernel
theorem d_W_tellGreatestLoad_20 : decode c_W_tellGreatestLoad 20 = .ok (.iload 5, 2) := by decide +kernel
theorem d_W_tellGreatestLoad_22 : decode c_W_tellGreatestLoad 22 = .ok (.iload_n 1, 1) := by decide +kernel
theorem d_W_tellGreatestLoad_23 : decode c_W_tellGreatestLoad 23 = .ok (.iload_n 2, 1) := by decide +kernel
theorem d_W_tellGreatestLoad_24 : decode c_W_tellGreatestLoad 24 = .ok (.invokestatic 390, 3) := by decide +kernel
theorem d_W_tellGreatestLoad_27 : decode c_W_tellGreatestLoad 27 = .ok (.ifCond .ne 6, 3) := by decide +kernel
theorem d_W_tellGreatestLoad_30 : decode c_W_tellGreatestLoad 30 = .ok (.goto 67, 3) := by decide +kernel
theorem d_W_tellGreatestLoad_33 : decode c_W_tellGreatestLoad 33 = .ok (.aload_n 0, 1) := by decide +kernel
theorem d_W_tellGreatestLoad_34 : decode c_W_tellGreatestLoad 34 = .ok (.getfield 44, 3) := by decide +kernel
theorem d_W_tellGreatestLoad_37 : decode c_W_tellGreatestLoad 37 = .ok (.iload_n 1, 1) := by decide +kernel
theorem d_W_tellGreatestLoad_38 : decode c_W_tellGreatestLoad 38 = .ok (.iload 5, 2) := by decide +kernel
theorem d_W_tellGreatestLoad_40 : decode c_W_tellGreatestLoad 40 = .ok (.iconst (-1), 1) := by decide +kernel
theorem d_W_tellGreatestLoad_41 : decode c_W_tellGreatestLoad 41 = .ok (.ixor, 1) := by decide +kernel
theorem d_W_tellGreatestLoad_42 : decode c_W_tellGreatestLoad 42 = .ok (.iand, 1) := by decide +kernel
theorem d_W_tellGreatestLoad_43 : decode c_W_tellGreatestLoad 43 = .ok (.iload_n 3, 1) := by decide +kernel
theorem d_W_tellGreatestLoad_44 : decode c_W_tellGreatestLoad 44 = .ok (.iconst 1, 1) := by decide +kernel
theorem d_W_tellGreatestLoad_45 : decode c_W_tellGreatestLoad 45 = .ok (.invokevirtual 259, 3) := by decide +kernel
theorem d_W_tellGreatestLoad_48 : decode c_W_tellGreatestLoad 48 = .ok (.aload_n 0, 1) := by decide +kernel
theorem d_W_tellGreatestLoad_49 : decode c_W_tellGreatestLoad 49 = .ok (.getfield 44, 3) := by decide +kernel
theorem d_W_tellGreatestLoad_52 : decode c_W_tellGreatestLoad 52 = .ok (.invokevirtual 262, 3) := by decide +kernel
theorem d_W_tellGreatestLoad_55 : decode c_W_tellGreatestLoad 55 = .ok (.istore 6, 2) := by decide +kernel
theorem d_W_tellGreatestLoad_57 : decode c_W_tellGreatestLoad 57 = .ok (.iload 6, 2) := by decide +kernel
theorem d_W_tellGreatestLoad_59 : decode c_W_tellGreatestLoad 59 = .ok (.ifCond .ge 7, 3) := by decide +kernel
theorem d_W_tellGreatestLoad_62 : decode c_W_tellGreatestLoad 62 = .ok (.iconst 0, 1) := by decide +kernel
theorem d_W_tellGreatestLoad_63 : decode c_W_tellGreatestLoad 63 = .ok (.goto 12, 3) := by decide +kernel
theorem d_W_tellGreatestLoad_66 : decode c_W_tellGreatestLoad 66 = .ok (.aload_n 0, 1) := by decide +kernel
theorem d_W_tellGreatestLoad_67 : decode c_W_tellGreatestLoad 67 = .ok (.getfield 44, 3) := by decide +kernel
theorem d_W_tellGreatestLoad_70 : decode c_W_tellGreatestLoad 70 = .ok (.iload 6, 2) := by decide +kernel
theorem d_W_tellGreatestLoad_72 : decode c_W_tellGreatestLoad 72 = .ok (.invokevirtual 265, 3) := by decide +kernel
theorem d_W_tellGreatestLoad_75 : decode c_W_tellGreatestLoad 75 = .ok (.istore 7, 2) := by decide +kernel
theorem d_W_tellGreatestLoad_77 : decode c_W_tellGreatestLoad 77 = .ok (.iload 7, 2) := by decide +kernel
theorem d_W_tellGreatestLoad_79 : decode c_W_tellGreatestLoad 79 = .ok (.iload 4, 2) := by decide +kernel
theorem d_W_tellGreatestLoad_81 : decode c_W_tellGreatestLoad 81 = .ok (.if_icmp .le 16, 3) := by decide +kernel
theorem d_W_tellGreatestLoad_84 : decode c_W_tellGreatestLoad 84 = .ok (.iload 7, 2) := by decide +kernel
theorem d_W_tellGreatestLoad_86 : decode c_W_tellGreatestLoad 86 = .ok (.istore 4, 2) := by decide +kernel
theorem d_W_tellGreatestLoad_88 : decode c_W_tellGreatestLoad 88 = .ok (.aload_n 0, 1) := by decide +kernel
theorem d_W_tellGreatestLoad_89 : decode c_W_tellGreatestLoad 89 = .ok (.getfield 10, 3) := by decide +kernel
theorem d_W_tellGreatestLoad_92 : decode c_W_tellGreatestLoad 92 = .ok (.iload 5, 2) := by decide +kernel
theorem d_W_tellGreatestLoad_94 : decode c_W_tellGreatestLoad 94 = .ok (.putfield 239, 3) := by decide +kernel
theorem d_W_tellGreatestLoad_97 : decode c_W_tellGreatestLoad 97 = .ok (.iinc 5 1, 3) := by decide +kernel
theorem d_W_tellGreatestLoad_100 : decode c_W_tellGreatestLoad 100 = .ok (.goto (-86), 3) := by decide +kernel
theorem d_W_tellGreatestLoad_103 : decode c_W_tellGreatestLoad 103 = .ok (.iload 4, 2) := by decide +kernel
theorem d_W_tellGreatestLoad_105 : decode c_W_tellGreatestLoad 105 = .ok (.ireturn, 1) := by decide +kernel
theorem d_W_tellTime_0 : decode c_W_tellTime 0 = .ok (.lload_n 1, 1) := by decide +kernel
theorem d_W_tellTime_1 : decode c_W_tellTime 1 = .ok (.ldc2_w 396, 3) := by decide +kernel
theorem d_W_tellTime_4 : decode c_W_tellTime 4 = .ok (.lcmp, 1) := by decide +kernel
theorem d_W_tellTime_5 : decode c_W_tellTime 5 = .ok (.ifCond .ne 6, 3) := by decide +kernel
theorem d_W_tellTime_8 : decode c_W_tellTime 8 = .ok (.bipush (-9), 2) := by decide +kernel
theorem d_W_tellTime_10 : decode c_W_tellTime 10 = .ok (.ireturn, 1) := by decide +kernel
theorem d_W_tellTime_11 : decode c_W_tellTime 11 = .ok (.aload_n 0, 1) := by decide +kernel
theorem d_W_tellTime_12 : decode c_W_tellTime 12 = .ok (.getfield 10, 3) := by decide +kernel
theorem d_W_tellTime_15 : decode c_W_tellTime 15 = .ok (.lload_n 1, 1) := by decide +kernel
theorem d_W_tellTime_16 : decode c_W_tellTime 16 = .ok (.ldc2_w 310, 3) := by decide +kernel
theorem d_W_tellTime_19 : decode c_W_tellTime 19 = .ok (.invokevirtual 273, 3) := by decide +kernel
theorem d_W_tellTime_22 : decode c_W_tellTime 22 = .ok (.iconst 1, 1) := by decide +kernel
theorem d_W_tellTime_23 : decode c_W_tellTime 23 = .ok (.ireturn, 1) := by decide +kernel
theorem d_W_gcd_0 : decode c_W_gcd 0 = .ok (.lload_n 0, 1) := by decide +kernel
theorem d_W_gcd_1 : decode c_W_gcd 1 = .ok (.lstore 4, 2) := by decide +kernel
theorem d_W_gcd_3 : decode c_W_gcd 3 = .ok (.lload_n 2, 1) := by decide +kernel
theorem d_W_gcd_4 : decode c_W_gcd 4 = .ok (.lstore 6, 2) := by decide +kernel
theorem d_W_gcd_6 : decode c_W_gcd 6 = .ok (.iconst 0, 1) := by decide +kernel
theorem d_W_gcd_7 : decode c_W_gcd 7 = .ok (.istore 8, 2) := by decide +kernel
theorem d_W_gcd_9 : decode c_W_gcd 9 = .ok (.iload 8, 2) := by decide +kernel
theorem d_W_gcd_11 : decode c_W_gcd 11 = .ok (.sipush 200, 3) := by decide +kernel
theorem d_W_gcd_14 : decode c_W_gcd 14 = .ok (.if_icmp .ge 31, 3) := by decide +kernel
theorem d_W_gcd_17 : decode c_W_gcd 17 = .ok (.lload 6, 2) := by decide +kernel
theorem d_W_gcd_19 : decode c_W_gcd 19 = .ok (.lconst 0, 1) := by decide +kernel
theorem d_W_gcd_20 : decode c_W_gcd 20 = .ok (.lcmp, 1) := by decide +kernel
theorem d_W_gcd_21 : decode c_W_gcd 21 = .ok (.ifCond .eq 24, 3) := by decide +kernel
theorem d_W_gcd_24 : decode c_W_gcd 24 = .ok (.lload 4, 2) := by decide +kernel
theorem d_W_gcd_26 : decode c_W_gcd 26 = .ok (.lload 6, 2) := by decide +kernel
theorem d_W_gcd_28 : decode c_W_gcd 28 = .ok (.lrem, 1) := by decide +kernel
theorem d_W_gcd_29 : decode c_W_gcd 29 = .ok (.lstore 9, 2) := by decide +kernel
theorem d_W_gcd_31 : decode c_W_gcd 31 = .ok (.lload 6, 2) := by decide +kernel
theorem d_W_gcd_33 : decode c_W_gcd 33 = .ok (.lstore 4, 2) := by decide +kernel
theorem d_W_gcd_35 : decode c_W_gcd 35 = .ok (.lload 9, 2) := by decide +kernel
theorem d_W_gcd_37 : decode c_W_gcd 37 = .ok (.lstore 6, 2) := by decide +kernel
theorem d_W_gcd_39 : decode c_W_gcd 39 = .ok (.iinc 8 1, 3) := by decide +kernel
theorem d_W_gcd_42 : decode c_W_gcd 42 = .ok (.goto (-33), 3) := by decide +kernel
theorem d_W_gcd_45 : decode c_W_gcd 45 = .ok (.lload 4, 2) := by decide +kernel
theorem d_W_gcd_47 : decode c_W_gcd 47 = .ok (.lreturn, 1) := by decide +kernel
