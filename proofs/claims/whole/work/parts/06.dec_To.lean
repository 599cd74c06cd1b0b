/-! decode rows (by program) -/
theorem d_To_init_0 : decode c_To_init 0 = .ok (.aload_n 0, 1) := by decide +kernel
theorem d_To_init_1 : decode c_To_init 1 = .ok (.invokespecial 3, 3) := by decide +kernel
theorem d_To_init_4 : decode c_To_init 4 = .ok (.aload_n 0, 1) := by decide +kernel
theorem d_To_init_5 : decode c_To_init 5 = .ok (.iconst 0, 1) := by decide +kernel
theorem d_To_init_6 : decode c_To_init 6 = .ok (.putfield 9, 3) := by decide +kernel
theorem d_To_init_9 : decode c_To_init 9 = .ok (.aload_n 0, 1) := by decide +kernel
theorem d_To_init_10 : decode c_To_init 10 = .ok (.bipush 10, 2) := by decide +kernel
theorem d_To_init_12 : decode c_To_init 12 = .ok (.newarray .int, 2) := by decide +kernel
theorem d_To_init_14 : decode c_To_init 14 = .ok (.putfield 15, 3) := by decide +kernel
theorem d_To_init_17 : decode c_To_init 17 = .ok (.aload_n 0, 1) := by decide +kernel
theorem d_To_init_18 : decode c_To_init 18 = .ok (.bipush 10, 2) := by decide +kernel
theorem d_To_init_20 : decode c_To_init 20 = .ok (.newarray .int, 2) := by decide +kernel
theorem d_To_init_22 : decode c_To_init 22 = .ok (.putfield 19, 3) := by decide +kernel
theorem d_To_init_25 : decode c_To_init 25 = .ok (.aload_n 0, 1) := by decide +kernel
theorem d_To_init_26 : decode c_To_init 26 = .ok (.sipush 4608, 3) := by decide +kernel
theorem d_To_init_29 : decode c_To_init 29 = .ok (.newarray .int, 2) := by decide +kernel
theorem d_To_init_31 : decode c_To_init 31 = .ok (.putfield 22, 3) := by decide +kernel
theorem d_To_init_34 : decode c_To_init 34 = .ok (.aload_n 0, 1) := by decide +kernel
theorem d_To_init_35 : decode c_To_init 35 = .ok (.iconst 0, 1) := by decide +kernel
theorem d_To_init_36 : decode c_To_init 36 = .ok (.putfield 25, 3) := by decide +kernel
theorem d_To_init_39 : decode c_To_init 39 = .ok (.aload_n 0, 1) := by decide +kernel
theorem d_To_init_40 : decode c_To_init 40 = .ok (.iconst (-1), 1) := by decide +kernel
theorem d_To_init_41 : decode c_To_init 41 = .ok (.putfield 28, 3) := by decide +kernel
theorem d_To_init_44 : decode c_To_init 44 = .ok (.aload_n 0, 1) := by decide +kernel
theorem d_To_init_45 : decode c_To_init 45 = .ok (.aload_n 1, 1) := by decide +kernel
theorem d_To_init_46 : decode c_To_init 46 = .ok (.putfield 31, 3) := by decide +kernel
theorem d_To_init_49 : decode c_To_init 49 = .ok (.return_, 1) := by decide +kernel
theorem d_To_stopAt_0 : decode c_To_stopAt 0 = .ok (.iload_n 1, 1) := by decide +kernel
theorem d_To_stopAt_1 : decode c_To_stopAt 1 = .ok (.ifCond .lt 20, 3) := by decide +kernel
theorem d_To_stopAt_4 : decode c_To_stopAt 4 = .ok (.iload_n 1, 1) := by decide +kernel
theorem d_To_stopAt_5 : decode c_To_stopAt 5 = .ok (.aload_n 0, 1) := by decide +kernel
theorem d_To_stopAt_6 : decode c_To_stopAt 6 = .ok (.getfield 25, 3) := by decide +kernel
theorem d_To_stopAt_9 : decode c_To_stopAt 9 = .ok (.if_icmp .ge 12, 3) := by decide +kernel
theorem d_To_stopAt_12 : decode c_To_stopAt 12 = .ok (.aload_n 0, 1) := by decide +kernel
theorem d_To_stopAt_13 : decode c_To_stopAt 13 = .ok (.getfield 9, 3) := by decide +kernel
theorem d_To_stopAt_16 : decode c_To_stopAt 16 = .ok (.bipush (-9), 2) := by decide +kernel
theorem d_To_stopAt_18 : decode c_To_stopAt 18 = .ok (.if_icmp .ne 8, 3) := by decide +kernel
theorem d_To_stopAt_21 : decode c_To_stopAt 21 = .ok (.bipush (-9), 2) := by decide +kernel
theorem d_To_stopAt_23 : decode c_To_stopAt 23 = .ok (.goto 9, 3) := by decide +kernel
theorem d_To_stopAt_26 : decode c_To_stopAt 26 = .ok (.aload_n 0, 1) := by decide +kernel
theorem d_To_stopAt_27 : decode c_To_stopAt 27 = .ok (.getfield 19, 3) := by decide +kernel
theorem d_To_stopAt_30 : decode c_To_stopAt 30 = .ok (.iload_n 1, 1) := by decide +kernel
theorem d_To_stopAt_31 : decode c_To_stopAt 31 = .ok (.iaload, 1) := by decide +kernel
theorem d_To_stopAt_32 : decode c_To_stopAt 32 = .ok (.ireturn, 1) := by decide +kernel
theorem d_To_refresh_0 : decode c_To_refresh 0 = .ok (.aload_n 0, 1) := by decide +kernel
theorem d_To_refresh_1 : decode c_To_refresh 1 = .ok (.getfield 28, 3) := by decide +kernel
theorem d_To_refresh_4 : decode c_To_refresh 4 = .ok (.aload_n 0, 1) := by decide +kernel
theorem d_To_refresh_5 : decode c_To_refresh 5 = .ok (.getfield 31, 3) := by decide +kernel
theorem d_To_refresh_8 : decode c_To_refresh 8 = .ok (.getfield 35, 3) := by decide +kernel
theorem d_To_refresh_11 : decode c_To_refresh 11 = .ok (.if_icmp .ne 4, 3) := by decide +kernel
theorem d_To_refresh_14 : decode c_To_refresh 14 = .ok (.return_, 1) := by decide +kernel
theorem d_To_refresh_15 : decode c_To_refresh 15 = .ok (.aload_n 0, 1) := by decide +kernel
theorem d_To_refresh_16 : decode c_To_refresh 16 = .ok (.aload_n 0, 1) := by decide +kernel
theorem d_To_refresh_17 : decode c_To_refresh 17 = .ok (.getfield 31, 3) := by decide +kernel
theorem d_To_refresh_20 : decode c_To_refresh 20 = .ok (.getfield 35, 3) := by decide +kernel
theorem d_To_refresh_23 : decode c_To_refresh 23 = .ok (.putfield 28, 3) := by decide +kernel
theorem d_To_refresh_26 : decode c_To_refresh 26 = .ok (.aload_n 0, 1) := by decide +kernel
theorem d_To_refresh_27 : decode c_To_refresh 27 = .ok (.getfield 31, 3) := by decide +kernel
theorem d_To_refresh_30 : decode c_To_refresh 30 = .ok (.invokevirtual 40, 3) := by decide +kernel
theorem d_To_refresh_33 : decode c_To_refresh 33 = .ok (.aload_n 0, 1) := by decide +kernel
theorem d_To_refresh_34 : decode c_To_refresh 34 = .ok (.invokevirtual 43, 3) := by decide +kernel
theorem d_To_refresh_37 : decode c_To_refresh 37 = .ok (.aload_n 0, 1) := by decide +kernel
theorem d_To_refresh_38 : decode c_To_refresh 38 = .ok (.getfield 25, 3) := by decide +kernel
theorem d_To_refresh_41 : decode c_To_refresh 41 = .ok (.iconst 2, 1) := by decide +kernel
theorem d_To_refresh_42 : decode c_To_refresh 42 = .ok (.if_icmp .ge 23, 3) := by decide +kernel
theorem d_To_refresh_45 : decode c_To_refresh 45 = .ok (.aload_n 0, 1) := by decide +kernel
theorem d_To_refresh_46 : decode c_To_refresh 46 = .ok (.iconst 0, 1) := by decide +kernel
theorem d_To_refresh_47 : decode c_To_refresh 47 = .ok (.putfield 9, 3) := by decide +kernel
theorem d_To_refresh_50 : decode c_To_refresh 50 = .ok (.aload_n 0, 1) := by decide +kernel
theorem d_To_refresh_51 : decode c_To_refresh 51 = .ok (.getfield 19, 3) := by decide +kernel
theorem d_To_refresh_54 : decode c_To_refresh 54 = .ok (.iconst 0, 1) := by decide +kernel
theorem d_To_refresh_55 : decode c_To_refresh 55 = .ok (.aload_n 0, 1) := by decide +kernel
theorem d_To_refresh_56 : decode c_To_refresh 56 = .ok (.getfield 15, 3) := by decide +kernel
theorem d_To_refresh_59 : decode c_To_refresh 59 = .ok (.iconst 0, 1) := by decide +kernel
theorem d_To_refresh_60 : decode c_To_refresh 60 = .ok (.iaload, 1) := by decide +kernel
theorem d_To_refresh_61 : decode c_To_refresh 61 = .ok (.iastore, 1) := by decide +kernel
theorem d_To_refresh_62 : decode c_To_refresh 62 = .ok (.goto 27, 3) := by decide +kernel
theorem d_To_refresh_65 : decode c_To_refresh 65 = .ok (.aload_n 0, 1) := by decide +kernel
theorem d_To_refresh_66 : decode c_To_refresh 66 = .ok (.invokevirtual 46, 3) := by decide +kernel
theorem d_To_refresh_69 : decode c_To_refresh 69 = .ok (.ifCond .eq 12, 3) := by decide +kernel
theorem d_To_refresh_72 : decode c_To_refresh 72 = .ok (.aload_n 0, 1) := by decide +kernel
theorem d_To_refresh_73 : decode c_To_refresh 73 = .ok (.bipush (-9), 2) := by decide +kernel
theorem d_To_refresh_75 : decode c_To_refresh 75 = .ok (.putfield 9, 3) := by decide +kernel
theorem d_To_refresh_78 : decode c_To_refresh 78 = .ok (.goto 11, 3) := by decide +kernel
theorem d_To_refresh_81 : decode c_To_refresh 81 = .ok (.aload_n 0, 1) := by decide +kernel
theorem d_To_refresh_82 : decode c_To_refresh 82 = .ok (.invokevirtual 50, 3) := by decide +kernel
theorem d_To_refresh_85 : decode c_To_refresh 85 = .ok (.aload_n 0, 1) := by decide +kernel
theorem d_To_refresh_86 : decode c_To_refresh 86 = .ok (.invokevirtual 53, 3) := by decide +kernel
theorem d_To_refresh_89 : decode c_To_refresh 89 = .ok (.return_, 1) := by decide +kernel
theorem d_To_gatherStops_0 : decode c_To_gatherStops 0 = .ok (.aload_n 0, 1) := by decide +kernel
theorem d_To_gatherStops_1 : decode c_To_gatherStops 1 = .ok (.iconst 0, 1) := by decide +kernel
theorem d_To_gatherStops_2 : decode c_To_gatherStops 2 = .ok (.putfield 25, 3) := by decide +kernel
theorem d_To_gatherStops_5 : decode c_To_gatherStops 5 = .ok (.iconst 0, 1) := by decide +kernel
theorem d_To_gatherStops_6 : decode c_To_gatherStops 6 = .ok (.istore_n 1, 1) := by decide +kernel
theorem d_To_gatherStops_7 : decode c_To_gatherStops 7 = .ok (.iload_n 1, 1) := by decide +kernel
theorem d_To_gatherStops_8 : decode c_To_gatherStops 8 = .ok (.aload_n 0, 1) := by decide +kernel
theorem d_To_gatherStops_9 : decode c_To_gatherStops 9 = .ok (.getfield 31, 3) := by decide +kernel
theorem d_To_gatherStops_12 : decode c_To_gatherStops 12 = .ok (.getfield 56, 3) := by decide +kernel
theorem d_To_gatherStops_15 : decode c_To_gatherStops 15 = .ok (.if_icmp .ge 49, 3) := by decide +kernel
theorem d_To_gatherStops_18 : decode c_To_gatherStops 18 = .ok (.aload_n 0, 1) := by decide +kernel
theorem d_To_gatherStops_19 : decode c_To_gatherStops 19 = .ok (.getfield 31, 3) := by decide +kernel
theorem d_To_gatherStops_22 : decode c_To_gatherStops 22 = .ok (.iload_n 1, 1) := by decide +kernel
theorem d_To_gatherStops_23 : decode c_To_gatherStops 23 = .ok (.invokevirtual 59, 3) := by decide +kernel
theorem d_To_gatherStops_26 : decode c_To_gatherStops 26 = .ok (.ifCond .le 32, 3) := by decide +kernel
theorem d_To_gatherStops_29 : decode c_To_gatherStops 29 = .ok (.aload_n 0, 1) := by decide +kernel
theorem d_To_gatherStops_30 : decode c_To_gatherStops 30 = .ok (.getfield 25, 3) := by decide +kernel
theorem d_To_gatherStops_33 : decode c_To_gatherStops 33 = .ok (.bipush 10, 2) := by decide +kernel
theorem d_To_gatherStops_35 : decode c_To_gatherStops 35 = .ok (.if_icmp .ge 23, 3) := by decide +kernel
theorem d_To_gatherStops_38 : decode c_To_gatherStops 38 = .ok (.aload_n 0, 1) := by decide +kernel
theorem d_To_gatherStops_39 : decode c_To_gatherStops 39 = .ok (.getfield 15, 3) := by decide +kernel
theorem d_To_gatherStops_42 : decode c_To_gatherStops 42 = .ok (.aload_n 0, 1) := by decide +kernel
theorem d_To_gatherStops_43 : decode c_To_gatherStops 43 = .ok (.getfield 25, 3) := by decide +kernel
theorem d_To_gatherStops_46 : decode c_To_gatherStops 46 = .ok (.iload_n 1, 1) := by decide +kernel
theorem d_To_gatherStops_47 : decode c_To_gatherStops 47 = .ok (.iastore, 1) := by decide +kernel
theorem d_To_gatherStops_48 : decode c_To_gatherStops 48 = .ok (.aload_n 0, 1) := by decide +kernel
theorem d_To_gatherStops_49 : decode c_To_gatherStops 49 = .ok (.dup, 1) := by decide +kernel
theorem d_To_gatherStops_50 : decode c_To_gatherStops 50 = .ok (.getfield 25, 3) := by decide +kernel
theorem d_To_gatherStops_53 : decode c_To_gatherStops 53 = .ok (.iconst 1, 1) := by decide +kernel
theorem d_To_gatherStops_54 : decode c_To_gatherStops 54 = .ok (.iadd, 1) := by decide +kernel
theorem d_To_gatherStops_55 : decode c_To_gatherStops 55 = .ok (.putfield 25, 3) := by decide +kernel
theorem d_To_gatherStops_58 : decode c_To_gatherStops 58 = .ok (.iinc 1 1, 3) := by decide +kernel
theorem d_To_gatherStops_61 : decode c_To_gatherStops 61 = .ok (.goto (-54), 3) := by decide +kernel
theorem d_To_gatherStops_64 : decode c_To_gatherStops 64 = .ok (.return_, 1) := by decide +kernel
theorem d_To_isParted_0 : decode c_To_isParted 0 = .ok (.iconst 1, 1) := by decide +kernel
theorem d_To_isParted_1 : decode c_To_isParted 1 = .ok (.istore_n 1, 1) := by decide +kernel
theorem d_To_isParted_2 : decode c_To_isParted 2 = .ok (.iload_n 1, 1) := by decide +kernel
theorem d_To_isParted_3 : decode c_To_isParted 3 = .ok (.aload_n 0, 1) := by decide +kernel
theorem d_To_isParted_4 : decode c_To_isParted 4 = .ok (.getfield 25, 3) := by decide +kernel
theorem d_To_isParted_7 : decode c_To_isParted 7 = .ok (.if_icmp .ge 20, 3) := by decide +kernel
theorem d_To_isParted_10 : decode c_To_isParted 10 = .ok (.aload_n 0, 1) := by decide +kernel
theorem d_To_isParted_11 : decode c_To_isParted 11 = .ok (.iconst 0, 1) := by decide +kernel
theorem d_To_isParted_12 : decode c_To_isParted 12 = .ok (.iload_n 1, 1) := by decide +kernel
theorem d_To_isParted_13 : decode c_To_isParted 13 = .ok (.invokevirtual 63, 3) := by decide +kernel
theorem d_To_isParted_16 : decode c_To_isParted 16 = .ok (.ifCond .ge 5, 3) := by decide +kernel
theorem d_To_isParted_19 : decode c_To_isParted 19 = .ok (.iconst 1, 1) := by decide +kernel
theorem d_To_isParted_20 : decode c_To_isParted 20 = .ok (.ireturn, 1) := by decide +kernel
theorem d_To_isParted_21 : decode c_To_isParted 21 = .ok (.iinc 1 1, 3) := by decide +kernel
theorem d_To_isParted_24 : decode c_To_isParted 24 = .ok (.goto (-22), 3) := by decide +kernel
theorem d_To_isParted_27 : decode c_To_isParted 27 = .ok (.iconst 0, 1) := by decide +kernel
theorem d_To_isParted_28 : decode c_To_isParted 28 = .ok (.ireturn, 1) := by decide +kernel
theorem d_To_way_0 : decode c_To_way 0 = .ok (.aload_n 0, 1) := by decide +kernel
theorem d_To_way_1 : decode c_To_way 1 = .ok (.getfield 31, 3) := by decide +kernel
theorem d_To_way_4 : decode c_To_way 4 = .ok (.aload_n 0, 1) := by decide +kernel
theorem d_To_way_5 : decode c_To_way 5 = .ok (.getfield 15, 3) := by decide +kernel
theorem d_To_way_8 : decode c_To_way 8 = .ok (.iload_n 1, 1) := by decide +kernel
theorem d_To_way_9 : decode c_To_way 9 = .ok (.iaload, 1) := by decide +kernel
theorem d_To_way_10 : decode c_To_way 10 = .ok (.aload_n 0, 1) := by decide +kernel
theorem d_To_way_11 : decode c_To_way 11 = .ok (.getfield 15, 3) := by decide +kernel
theorem d_To_way_14 : decode c_To_way 14 = .ok (.iload_n 2, 1) := by decide +kernel
theorem d_To_way_15 : decode c_To_way 15 = .ok (.iaload, 1) := by decide +kernel
theorem d_To_way_16 : decode c_To_way 16 = .ok (.invokevirtual 67, 3) := by decide +kernel
theorem d_To_way_19 : decode c_To_way 19 = .ok (.ireturn, 1) := by decide +kernel
theorem d_To_workHomeward_0 : decode c_To_workHomeward 0 = .ok (.iconst 1, 1) := by decide +kernel
theorem d_To_workHomeward_1 : decode c_To_workHomeward 1 = .ok (.aload_n 0, 1) := by decide +kernel
theorem d_To_workHomeward_2 : decode c_To_workHomeward 2 = .ok (.getfield 25, 3) := by decide +kernel
theorem d_To_workHomeward_5 : decode c_To_workHomeward 5 = .ok (.iconst 1, 1) := by decide +kernel
theorem d_To_workHomeward_6 : decode c_To_workHomeward 6 = .ok (.isub, 1) := by decide +kernel
theorem d_To_workHomeward_7 : decode c_To_workHomeward 7 = .ok (.ishl, 1) := by decide +kernel
theorem d_To_workHomeward_8 : decode c_To_workHomeward 8 = .ok (.iconst 1, 1) := by decide +kernel
theorem d_To_workHomeward_9 : decode c_To_workHomeward 9 = .ok (.isub, 1) := by decide +kernel
theorem d_To_workHomeward_10 : decode c_To_workHomeward 10 = .ok (.istore_n 1, 1) := by decide +kernel
theorem d_To_workHomeward_11 : decode c_To_workHomeward 11 = .ok (.iload_n 1, 1) := by decide +kernel
theorem d_To_workHomeward_12 : decode c_To_workHomeward 12 = .ok (.istore_n 2, 1) := by decide +kernel
theorem d_To_workHomeward_13 : decode c_To_workHomeward 13 = .ok (.iload_n 2, 1) := by decide +kernel
theorem d_To_workHomeward_14 : decode c_To_workHomeward 14 = .ok (.ifCond .le 70, 3) := by decide +kernel
theorem d_To_workHomeward_17 : decode c_To_workHomeward 17 = .ok (.iconst 0, 1) := by decide +kernel
theorem d_To_workHomeward_18 : decode c_To_workHomeward 18 = .ok (.istore_n 3, 1) := by decide +kernel
theorem d_To_workHomeward_19 : decode c_To_workHomeward 19 = .ok (.iload_n 3, 1) := by decide +kernel
theorem d_To_workHomeward_20 : decode c_To_workHomeward 20 = .ok (.aload_n 0, 1) := by decide +kernel
theorem d_To_workHomeward_21 : decode c_To_workHomeward 21 = .ok (.getfield 25, 3) := by decide +kernel
theorem d_To_workHomeward_24 : decode c_To_workHomeward 24 = .ok (.iconst 1, 1) := by decide +kernel
theorem d_To_workHomeward_25 : decode c_To_workHomeward 25 = .ok (.isub, 1) := by decide +kernel
theorem d_To_workHomeward_26 : decode c_To_workHomeward 26 = .ok (.if_icmp .ge 52, 3) := by decide +kernel
theorem d_To_workHomeward_29 : decode c_To_workHomeward 29 = .ok (.iload_n 2, 1) := by decide +kernel
theorem d_To_workHomeward_30 : decode c_To_workHomeward 30 = .ok (.iload_n 3, 1) := by decide +kernel
theorem d_To_workHomeward_31 : decode c_To_workHomeward 31 = .ok (.ishr, 1) := by decide +kernel
theorem d_To_workHomeward_32 : decode c_To_workHomeward 32 = .ok (.iconst 1, 1) := by decide +kernel
theorem d_To_workHomeward_33 : decode c_To_workHomeward 33 = .ok (.iand, 1) := by decide +kernel
theorem d_To_workHomeward_34 : decode c_To_workHomeward 34 = .ok (.ifCond .eq 38, 3) := by decide +kernel
theorem d_To_workHomeward_37 : decode c_To_workHomeward 37 = .ok (.aload_n 0, 1) := by decide +kernel
theorem d_To_workHomeward_38 : decode c_To_workHomeward 38 = .ok (.getfield 22, 3) := by decide +kernel
theorem d_To_workHomeward_41 : decode c_To_workHomeward 41 = .ok (.iload_n 2, 1) := by decide +kernel
theorem d_To_workHomeward_42 : decode c_To_workHomeward 42 = .ok (.bipush 9, 2) := by decide +kernel
theorem d_To_workHomeward_44 : decode c_To_workHomeward 44 = .ok (.imul, 1) := by decide +kernel
theorem d_To_workHomeward_45 : decode c_To_workHomeward 45 = .ok (.iload_n 3, 1) := by decide +kernel
theorem d_To_workHomeward_46 : decode c_To_workHomeward 46 = .ok (.iadd, 1) := by decide +kernel
theorem d_To_workHomeward_47 : decode c_To_workHomeward 47 = .ok (.iload_n 2, 1) := by decide +kernel
theorem d_To_workHomeward_48 : decode c_To_workHomeward 48 = .ok (.iload_n 1, 1) := by decide +kernel
theorem d_To_workHomeward_49 : decode c_To_workHomeward 49 = .ok (.if_icmp .ne 14, 3) := by decide +kernel
theorem d_To_workHomeward_52 : decode c_To_workHomeward 52 = .ok (.aload_n 0, 1) := by decide +kernel
theorem d_To_workHomeward_53 : decode c_To_workHomeward 53 = .ok (.iload_n 3, 1) := by decide +kernel
theorem d_To_workHomeward_54 : decode c_To_workHomeward 54 = .ok (.iconst 1, 1) := by decide +kernel
theorem d_To_workHomeward_55 : decode c_To_workHomeward 55 = .ok (.iadd, 1) := by decide +kernel
theorem d_To_workHomeward_56 : decode c_To_workHomeward 56 = .ok (.iconst 0, 1) := by decide +kernel
theorem d_To_workHomeward_57 : decode c_To_workHomeward 57 = .ok (.invokevirtual 63, 3) := by decide +kernel
theorem d_To_workHomeward_60 : decode c_To_workHomeward 60 = .ok (.goto 11, 3) := by decide +kernel
theorem d_To_workHomeward_63 : decode c_To_workHomeward 63 = .ok (.aload_n 0, 1) := by decide +kernel
theorem d_To_workHomeward_64 : decode c_To_workHomeward 64 = .ok (.iload_n 2, 1) := by decide +kernel
theorem d_To_workHomeward_65 : decode c_To_workHomeward 65 = .ok (.iload_n 3, 1) := by decide +kernel
theorem d_To_workHomeward_66 : decode c_To_workHomeward 66 = .ok (.iconst 1, 1) := by decide +kernel
theorem d_To_workHomeward_67 : decode c_To_workHomeward 67 = .ok (.iadd, 1) := by decide +kernel
theorem d_To_workHomeward_68 : decode c_To_workHomeward 68 = .ok (.invokevirtual 70, 3) := by decide +kernel
theorem d_To_workHomeward_71 : decode c_To_workHomeward 71 = .ok (.iastore, 1) := by decide +kernel
theorem d_To_workHomeward_72 : decode c_To_workHomeward 72 = .ok (.iinc 3 1, 3) := by decide +kernel
theorem d_To_workHomeward_75 : decode c_To_workHomeward 75 = .ok (.goto (-56), 3) := by decide +kernel
theorem d_To_workHomeward_78 : decode c_To_workHomeward 78 = .ok (.iinc 2 (-1), 3) := by decide +kernel
theorem d_To_workHomeward_81 : decode c_To_workHomeward 81 = .ok (.goto (-68), 3) := by decide +kernel
theorem d_To_workHomeward_84 : decode c_To_workHomeward 84 = .ok (.return_, 1) := by decide +kernel
theorem d_To_bestBeyond_0 : decode c_To_bestBeyond 0 = .ok (.ldc 73, 2) := by decide +kernel
theorem d_To_bestBeyond_2 : decode c_To_bestBeyond 2 = .ok (.istore_n 3, 1) := by decide +kernel
theorem d_To_bestBeyond_3 : decode c_To_bestBeyond 3 = .ok (.iconst 0, 1) := by decide +kernel
theorem d_To_bestBeyond_4 : decode c_To_bestBeyond 4 = .ok (.istore 4, 2) := by decide +kernel
theorem d_To_bestBeyond_6 : decode c_To_bestBeyond 6 = .ok (.iload 4, 2) := by decide +kernel
theorem d_To_bestBeyond_8 : decode c_To_bestBeyond 8 = .ok (.aload_n 0, 1) := by decide +kernel
theorem d_To_bestBeyond_9 : decode c_To_bestBeyond 9 = .ok (.getfield 25, 3) := by decide +kernel
theorem d_To_bestBeyond_12 : decode c_To_bestBeyond 12 = .ok (.iconst 1, 1) := by decide +kernel
theorem d_To_bestBeyond_13 : decode c_To_bestBeyond 13 = .ok (.isub, 1) := by decide +kernel
theorem d_To_bestBeyond_14 : decode c_To_bestBeyond 14 = .ok (.if_icmp .ge 31, 3) := by decide +kernel
theorem d_To_bestBeyond_17 : decode c_To_bestBeyond 17 = .ok (.iload_n 1, 1) := by decide +kernel
theorem d_To_bestBeyond_18 : decode c_To_bestBeyond 18 = .ok (.iload 4, 2) := by decide +kernel
theorem d_To_bestBeyond_20 : decode c_To_bestBeyond 20 = .ok (.ishr, 1) := by decide +kernel
theorem d_To_bestBeyond_21 : decode c_To_bestBeyond 21 = .ok (.iconst 1, 1) := by decide +kernel
theorem d_To_bestBeyond_22 : decode c_To_bestBeyond 22 = .ok (.iand, 1) := by decide +kernel
theorem d_To_bestBeyond_23 : decode c_To_bestBeyond 23 = .ok (.ifCond .ne 16, 3) := by decide +kernel
theorem d_To_bestBeyond_26 : decode c_To_bestBeyond 26 = .ok (.iload_n 3, 1) := by decide +kernel
theorem d_To_bestBeyond_27 : decode c_To_bestBeyond 27 = .ok (.aload_n 0, 1) := by decide +kernel
theorem d_To_bestBeyond_28 : decode c_To_bestBeyond 28 = .ok (.iload_n 1, 1) := by decide +kernel
theorem d_To_bestBeyond_29 : decode c_To_bestBeyond 29 = .ok (.iload_n 2, 1) := by decide +kernel
theorem d_To_bestBeyond_30 : decode c_To_bestBeyond 30 = .ok (.iload 4, 2) := by decide +kernel
theorem d_To_bestBeyond_32 : decode c_To_bestBeyond 32 = .ok (.invokevirtual 74, 3) := by decide +kernel
theorem d_To_bestBeyond_35 : decode c_To_bestBeyond 35 = .ok (.invokestatic 78, 3) := by decide +kernel
theorem d_To_bestBeyond_38 : decode c_To_bestBeyond 38 = .ok (.istore_n 3, 1) := by decide +kernel
theorem d_To_bestBeyond_39 : decode c_To_bestBeyond 39 = .ok (.iinc 4 1, 3) := by decide +kernel
theorem d_To_bestBeyond_42 : decode c_To_bestBeyond 42 = .ok (.goto (-36), 3) := by decide +kernel
theorem d_To_bestBeyond_45 : decode c_To_bestBeyond 45 = .ok (.iload_n 3, 1) := by decide +kernel
theorem d_To_bestBeyond_46 : decode c_To_bestBeyond 46 = .ok (.ireturn, 1) := by decide +kernel
theorem d_To_wayOver_0 : decode c_To_wayOver 0 = .ok (.aload_n 0, 1) := by decide +kernel
theorem d_To_wayOver_1 : decode c_To_wayOver 1 = .ok (.iload_n 2, 1) := by decide +kernel
theorem d_To_wayOver_2 : decode c_To_wayOver 2 = .ok (.iload_n 3, 1) := by decide +kernel
theorem d_To_wayOver_3 : decode c_To_wayOver 3 = .ok (.iconst 1, 1) := by decide +kernel
theorem d_To_wayOver_4 : decode c_To_wayOver 4 = .ok (.iadd, 1) := by decide +kernel
theorem d_To_wayOver_5 : decode c_To_wayOver 5 = .ok (.invokevirtual 63, 3) := by decide +kernel
theorem d_To_wayOver_8 : decode c_To_wayOver 8 = .ok (.aload_n 0, 1) := by decide +kernel
theorem d_To_wayOver_9 : decode c_To_wayOver 9 = .ok (.getfield 22, 3) := by decide +kernel
theorem d_To_wayOver_12 : decode c_To_wayOver 12 = .ok (.iload_n 1, 1) := by decide +kernel
theorem d_To_wayOver_13 : decode c_To_wayOver 13 = .ok (.iconst 1, 1) := by decide +kernel
theorem d_To_wayOver_14 : decode c_To_wayOver 14 = .ok (.iload_n 3, 1) := by decide +kernel
theorem d_To_wayOver_15 : decode c_To_wayOver 15 = .ok (.ishl, 1) := by decide +kernel
theorem d_To_wayOver_16 : decode c_To_wayOver 16 = .ok (.ior, 1) := by decide +kernel
theorem d_To_wayOver_17 : decode c_To_wayOver 17 = .ok (.bipush 9, 2) := by decide +kernel
theorem d_To_wayOver_19 : decode c_To_wayOver 19 = .ok (.imul, 1) := by decide +kernel
theorem d_To_wayOver_20 : decode c_To_wayOver 20 = .ok (.iload_n 3, 1) := by decide +kernel
theorem d_To_wayOver_21 : decode c_To_wayOver 21 = .ok (.iadd, 1) := by decide +kernel
theorem d_To_wayOver_22 : decode c_To_wayOver 22 = .ok (.iaload, 1) := by decide +kernel
theorem d_To_wayOver_23 : decode c_To_wayOver 23 = .ok (.iadd, 1) := by decide +kernel
theorem d_To_wayOver_24 : decode c_To_wayOver 24 = .ok (.ireturn, 1) := by decide +kernel
theorem d_To_follow_0 : decode c_To_follow 0 = .ok (.aload_n 0, 1) := by decide +kernel
theorem d_To_follow_1 : decode c_To_follow 1 = .ok (.aload_n 0, 1) := by decide +kernel
theorem d_To_follow_2 : decode c_To_follow 2 = .ok (.iconst 0, 1) := by decide +kernel
theorem d_To_follow_3 : decode c_To_follow 3 = .ok (.iconst 0, 1) := by decide +kernel
theorem d_To_follow_4 : decode c_To_follow 4 = .ok (.invokevirtual 70, 3) := by decide +kernel
theorem d_To_follow_7 : decode c_To_follow 7 = .ok (.putfield 9, 3) := by decide +kernel
theorem d_To_follow_10 : decode c_To_follow 10 = .ok (.aload_n 0, 1) := by decide +kernel
theorem d_To_follow_11 : decode c_To_follow 11 = .ok (.getfield 19, 3) := by decide +kernel
theorem d_To_follow_14 : decode c_To_follow 14 = .ok (.iconst 0, 1) := by decide +kernel
theorem d_To_follow_15 : decode c_To_follow 15 = .ok (.aload_n 0, 1) := by decide +kernel
theorem d_To_follow_16 : decode c_To_follow 16 = .ok (.getfield 15, 3) := by decide +kernel
theorem d_To_follow_19 : decode c_To_follow 19 = .ok (.iconst 0, 1) := by decide +kernel
theorem d_To_follow_20 : decode c_To_follow 20 = .ok (.iaload, 1) := by decide +kernel
theorem d_To_follow_21 : decode c_To_follow 21 = .ok (.iastore, 1) := by decide +kernel
theorem d_To_follow_22 : decode c_To_follow 22 = .ok (.iconst 0, 1) := by decide +kernel
theorem d_To_follow_23 : decode c_To_follow 23 = .ok (.istore_n 1, 1) := by decide +kernel
theorem d_To_follow_24 : decode c_To_follow 24 = .ok (.iconst 0, 1) := by decide +kernel
theorem d_To_follow_25 : decode c_To_follow 25 = .ok (.istore_n 2, 1) := by decide +kernel
theorem d_To_follow_26 : decode c_To_follow 26 = .ok (.iconst 1, 1) := by decide +kernel
theorem d_To_follow_27 : decode c_To_follow 27 = .ok (.istore_n 3, 1) := by decide +kernel
theorem d_To_follow_28 : decode c_To_follow 28 = .ok (.iload_n 3, 1) := by decide +kernel
theorem d_To_follow_29 : decode c_To_follow 29 = .ok (.aload_n 0, 1) := by decide +kernel
theorem d_To_follow_30 : decode c_To_follow 30 = .ok (.getfield 25, 3) := by decide +kernel
theorem d_To_follow_33 : decode c_To_follow 33 = .ok (.if_icmp .ge 41, 3) := by decide +kernel
theorem d_To_follow_36 : decode c_To_follow 36 = .ok (.aload_n 0, 1) := by decide +kernel
theorem d_To_follow_37 : decode c_To_follow 37 = .ok (.iload_n 1, 1) := by decide +kernel
theorem d_To_follow_38 : decode c_To_follow 38 = .ok (.iload_n 2, 1) := by decide +kernel
theorem d_To_follow_39 : decode c_To_follow 39 = .ok (.invokevirtual 83, 3) := by decide +kernel
theorem d_To_follow_42 : decode c_To_follow 42 = .ok (.istore 4, 2) := by decide +kernel
theorem d_To_follow_44 : decode c_To_follow 44 = .ok (.iload_n 1, 1) := by decide +kernel
theorem d_To_follow_45 : decode c_To_follow 45 = .ok (.iconst 1, 1) := by decide +kernel
theorem d_To_follow_46 : decode c_To_follow 46 = .ok (.iload 4, 2) := by decide +kernel
theorem d_To_follow_48 : decode c_To_follow 48 = .ok (.ishl, 1) := by decide +kernel
theorem d_To_follow_49 : decode c_To_follow 49 = .ok (.ior, 1) := by decide +kernel
theorem d_To_follow_50 : decode c_To_follow 50 = .ok (.istore_n 1, 1) := by decide +kernel
theorem d_To_follow_51 : decode c_To_follow 51 = .ok (.iload 4, 2) := by decide +kernel
theorem d_To_follow_53 : decode c_To_follow 53 = .ok (.iconst 1, 1) := by decide +kernel
theorem d_To_follow_54 : decode c_To_follow 54 = .ok (.iadd, 1) := by decide +kernel
theorem d_To_follow_55 : decode c_To_follow 55 = .ok (.istore_n 2, 1) := by decide +kernel
theorem d_To_follow_56 : decode c_To_follow 56 = .ok (.aload_n 0, 1) := by decide +kernel
theorem d_To_follow_57 : decode c_To_follow 57 = .ok (.getfield 19, 3) := by decide +kernel
theorem d_To_follow_60 : decode c_To_follow 60 = .ok (.iload_n 3, 1) := by decide +kernel
theorem d_To_follow_61 : decode c_To_follow 61 = .ok (.aload_n 0, 1) := by decide +kernel
theorem d_To_follow_62 : decode c_To_follow 62 = .ok (.getfield 15, 3) := by decide +kernel
theorem d_To_follow_65 : decode c_To_follow 65 = .ok (.iload_n 2, 1) := by decide +kernel
theorem d_To_follow_66 : decode c_To_follow 66 = .ok (.iaload, 1) := by decide +kernel
theorem d_To_follow_67 : decode c_To_follow 67 = .ok (.iastore, 1) := by decide +kernel
theorem d_To_follow_68 : decode c_To_follow 68 = .ok (.iinc 3 1, 3) := by decide +kernel
theorem d_To_follow_71 : decode c_To_follow 71 = .ok (.goto (-43), 3) := by decide +kernel
theorem d_To_follow_74 : decode c_To_follow 74 = .ok (.return_, 1) := by decide +kernel
theorem d_To_nextStop_0 : decode c_To_nextStop 0 = .ok (.ldc 73, 2) := by decide +kernel
theorem d_To_nextStop_2 : decode c_To_nextStop 2 = .ok (.istore_n 3, 1) := by decide +kernel
theorem d_To_nextStop_3 : decode c_To_nextStop 3 = .ok (.iconst 0, 1) := by decide +kernel
theorem d_To_nextStop_4 : decode c_To_nextStop 4 = .ok (.istore 4, 2) := by decide +kernel
theorem d_To_nextStop_6 : decode c_To_nextStop 6 = .ok (.iconst 0, 1) := by decide +kernel
theorem d_To_nextStop_7 : decode c_To_nextStop 7 = .ok (.istore 5, 2) := by decide +kernel
theorem d_To_nextStop_9 : decode c_To_nextStop 9 = .ok (.iload 5, 2) := by decide +kernel
theorem d_To_nextStop_11 : decode c_To_nextStop 11 = .ok (.aload_n 0, 1) := by decide +kernel
theorem d_To_nextStop_12 : decode c_To_nextStop 12 = .ok (.getfield 25, 3) := by decide +kernel
theorem d_To_nextStop_15 : decode c_To_nextStop 15 = .ok (.iconst 1, 1) := by decide +kernel
theorem d_To_nextStop_16 : decode c_To_nextStop 16 = .ok (.isub, 1) := by decide +kernel
theorem d_To_nextStop_17 : decode c_To_nextStop 17 = .ok (.if_icmp .ge 43, 3) := by decide +kernel
theorem d_To_nextStop_20 : decode c_To_nextStop 20 = .ok (.iload_n 1, 1) := by decide +kernel
theorem d_To_nextStop_21 : decode c_To_nextStop 21 = .ok (.iload 5, 2) := by decide +kernel
theorem d_To_nextStop_23 : decode c_To_nextStop 23 = .ok (.ishr, 1) := by decide +kernel
theorem d_To_nextStop_24 : decode c_To_nextStop 24 = .ok (.iconst 1, 1) := by decide +kernel
theorem d_To_nextStop_25 : decode c_To_nextStop 25 = .ok (.iand, 1) := by decide +kernel
theorem d_To_nextStop_26 : decode c_To_nextStop 26 = .ok (.ifCond .ne 28, 3) := by decide +kernel
theorem d_To_nextStop_29 : decode c_To_nextStop 29 = .ok (.aload_n 0, 1) := by decide +kernel
theorem d_To_nextStop_30 : decode c_To_nextStop 30 = .ok (.iload_n 1, 1) := by decide +kernel
theorem d_To_nextStop_31 : decode c_To_nextStop 31 = .ok (.iload_n 2, 1) := by decide +kernel
theorem d_To_nextStop_32 : decode c_To_nextStop 32 = .ok (.iload 5, 2) := by decide +kernel
theorem d_To_nextStop_34 : decode c_To_nextStop 34 = .ok (.invokevirtual 74, 3) := by decide +kernel
theorem d_To_nextStop_37 : decode c_To_nextStop 37 = .ok (.iload_n 3, 1) := by decide +kernel
theorem d_To_nextStop_38 : decode c_To_nextStop 38 = .ok (.if_icmp .ge 16, 3) := by decide +kernel
theorem d_To_nextStop_41 : decode c_To_nextStop 41 = .ok (.aload_n 0, 1) := by decide +kernel
theorem d_To_nextStop_42 : decode c_To_nextStop 42 = .ok (.iload_n 1, 1) := by decide +kernel
theorem d_To_nextStop_43 : decode c_To_nextStop 43 = .ok (.iload_n 2, 1) := by decide +kernel
theorem d_To_nextStop_44 : decode c_To_nextStop 44 = .ok (.iload 5, 2) := by decide +kernel
theorem d_To_nextStop_46 : decode c_To_nextStop 46 = .ok (.invokevirtual 74, 3) := by decide +kernel
theorem d_To_nextStop_49 : decode c_To_nextStop 49 = .ok (.istore_n 3, 1) := by decide +kernel
theorem d_To_nextStop_50 : decode c_To_nextStop 50 = .ok (.iload 5, 2) := by decide +kernel
theorem d_To_nextStop_52 : decode c_To_nextStop 52 = .ok (.istore 4, 2) := by decide +kernel
theorem d_To_nextStop_54 : decode c_To_nextStop 54 = .ok (.iinc 5 1, 3) := by decide +kernel
theorem d_To_nextStop_57 : decode c_To_nextStop 57 = .ok (.goto (-48), 3) := by decide +kernel
theorem d_To_nextStop_60 : decode c_To_nextStop 60 = .ok (.iload 4, 2) := by decide +kernel
theorem d_To_nextStop_62 : decode c_To_nextStop 62 = .ok (.ireturn, 1) := by decide +kernel
