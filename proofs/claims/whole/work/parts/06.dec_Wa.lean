/-! decode rows (by program) -/
theorem d_Wa_init_0 : decode c_Wa_init 0 = .ok (.aload_n 0, 1) := by decide +kernel
theorem d_Wa_init_1 : decode c_Wa_init 1 = .ok (.invokespecial 3, 3) := by decide +kernel
theorem d_Wa_init_4 : decode c_Wa_init 4 = .ok (.aload_n 0, 1) := by decide +kernel
theorem d_Wa_init_5 : decode c_Wa_init 5 = .ok (.iconst 1, 1) := by decide +kernel
theorem d_Wa_init_6 : decode c_Wa_init 6 = .ok (.putfield 9, 3) := by decide +kernel
theorem d_Wa_init_9 : decode c_Wa_init 9 = .ok (.aload_n 0, 1) := by decide +kernel
theorem d_Wa_init_10 : decode c_Wa_init 10 = .ok (.bipush 16, 2) := by decide +kernel
theorem d_Wa_init_12 : decode c_Wa_init 12 = .ok (.newarray .int, 2) := by decide +kernel
theorem d_Wa_init_14 : decode c_Wa_init 14 = .ok (.putfield 15, 3) := by decide +kernel
theorem d_Wa_init_17 : decode c_Wa_init 17 = .ok (.aload_n 0, 1) := by decide +kernel
theorem d_Wa_init_18 : decode c_Wa_init 18 = .ok (.bipush 16, 2) := by decide +kernel
theorem d_Wa_init_20 : decode c_Wa_init 20 = .ok (.newarray .int, 2) := by decide +kernel
theorem d_Wa_init_22 : decode c_Wa_init 22 = .ok (.putfield 19, 3) := by decide +kernel
theorem d_Wa_init_25 : decode c_Wa_init 25 = .ok (.aload_n 0, 1) := by decide +kernel
theorem d_Wa_init_26 : decode c_Wa_init 26 = .ok (.bipush 16, 2) := by decide +kernel
theorem d_Wa_init_28 : decode c_Wa_init 28 = .ok (.newarray .int, 2) := by decide +kernel
theorem d_Wa_init_30 : decode c_Wa_init 30 = .ok (.putfield 22, 3) := by decide +kernel
theorem d_Wa_init_33 : decode c_Wa_init 33 = .ok (.aload_n 0, 1) := by decide +kernel
theorem d_Wa_init_34 : decode c_Wa_init 34 = .ok (.bipush 16, 2) := by decide +kernel
theorem d_Wa_init_36 : decode c_Wa_init 36 = .ok (.newarray .int, 2) := by decide +kernel
theorem d_Wa_init_38 : decode c_Wa_init 38 = .ok (.putfield 25, 3) := by decide +kernel
theorem d_Wa_init_41 : decode c_Wa_init 41 = .ok (.aload_n 0, 1) := by decide +kernel
theorem d_Wa_init_42 : decode c_Wa_init 42 = .ok (.bipush 16, 2) := by decide +kernel
theorem d_Wa_init_44 : decode c_Wa_init 44 = .ok (.newarray .int, 2) := by decide +kernel
theorem d_Wa_init_46 : decode c_Wa_init 46 = .ok (.putfield 28, 3) := by decide +kernel
theorem d_Wa_init_49 : decode c_Wa_init 49 = .ok (.aload_n 0, 1) := by decide +kernel
theorem d_Wa_init_50 : decode c_Wa_init 50 = .ok (.bipush 16, 2) := by decide +kernel
theorem d_Wa_init_52 : decode c_Wa_init 52 = .ok (.newarray .int, 2) := by decide +kernel
theorem d_Wa_init_54 : decode c_Wa_init 54 = .ok (.putfield 31, 3) := by decide +kernel
theorem d_Wa_init_57 : decode c_Wa_init 57 = .ok (.aload_n 0, 1) := by decide +kernel
theorem d_Wa_init_58 : decode c_Wa_init 58 = .ok (.bipush 8, 2) := by decide +kernel
theorem d_Wa_init_60 : decode c_Wa_init 60 = .ok (.newarray .int, 2) := by decide +kernel
theorem d_Wa_init_62 : decode c_Wa_init 62 = .ok (.putfield 34, 3) := by decide +kernel
theorem d_Wa_init_65 : decode c_Wa_init 65 = .ok (.aload_n 0, 1) := by decide +kernel
theorem d_Wa_init_66 : decode c_Wa_init 66 = .ok (.bipush 8, 2) := by decide +kernel
theorem d_Wa_init_68 : decode c_Wa_init 68 = .ok (.newarray .int, 2) := by decide +kernel
theorem d_Wa_init_70 : decode c_Wa_init 70 = .ok (.putfield 37, 3) := by decide +kernel
theorem d_Wa_init_73 : decode c_Wa_init 73 = .ok (.aload_n 0, 1) := by decide +kernel
theorem d_Wa_init_74 : decode c_Wa_init 74 = .ok (.bipush 8, 2) := by decide +kernel
theorem d_Wa_init_76 : decode c_Wa_init 76 = .ok (.newarray .int, 2) := by decide +kernel
theorem d_Wa_init_78 : decode c_Wa_init 78 = .ok (.putfield 40, 3) := by decide +kernel
theorem d_Wa_init_81 : decode c_Wa_init 81 = .ok (.aload_n 0, 1) := by decide +kernel
theorem d_Wa_init_82 : decode c_Wa_init 82 = .ok (.iconst 0, 1) := by decide +kernel
theorem d_Wa_init_83 : decode c_Wa_init 83 = .ok (.putfield 43, 3) := by decide +kernel
theorem d_Wa_init_86 : decode c_Wa_init 86 = .ok (.aload_n 0, 1) := by decide +kernel
theorem d_Wa_init_87 : decode c_Wa_init 87 = .ok (.iconst 0, 1) := by decide +kernel
theorem d_Wa_init_88 : decode c_Wa_init 88 = .ok (.putfield 46, 3) := by decide +kernel
theorem d_Wa_init_91 : decode c_Wa_init 91 = .ok (.aload_n 0, 1) := by decide +kernel
theorem d_Wa_init_92 : decode c_Wa_init 92 = .ok (.iconst 0, 1) := by decide +kernel
theorem d_Wa_init_93 : decode c_Wa_init 93 = .ok (.putfield 49, 3) := by decide +kernel
theorem d_Wa_init_96 : decode c_Wa_init 96 = .ok (.aload_n 0, 1) := by decide +kernel
theorem d_Wa_init_97 : decode c_Wa_init 97 = .ok (.iconst 0, 1) := by decide +kernel
theorem d_Wa_init_98 : decode c_Wa_init 98 = .ok (.putfield 52, 3) := by decide +kernel
theorem d_Wa_init_101 : decode c_Wa_init 101 = .ok (.aload_n 0, 1) := by decide +kernel
theorem d_Wa_init_102 : decode c_Wa_init 102 = .ok (.iconst 1, 1) := by decide +kernel
theorem d_Wa_init_103 : decode c_Wa_init 103 = .ok (.putfield 55, 3) := by decide +kernel
theorem d_Wa_init_106 : decode c_Wa_init 106 = .ok (.aload_n 0, 1) := by decide +kernel
theorem d_Wa_init_107 : decode c_Wa_init 107 = .ok (.aload_n 1, 1) := by decide +kernel
theorem d_Wa_init_108 : decode c_Wa_init 108 = .ok (.putfield 58, 3) := by decide +kernel
theorem d_Wa_init_111 : decode c_Wa_init 111 = .ok (.return_, 1) := by decide +kernel
theorem d_Wa_look_0 : decode c_Wa_look 0 = .ok (.aload_n 0, 1) := by decide +kernel
theorem d_Wa_look_1 : decode c_Wa_look 1 = .ok (.iconst 1, 1) := by decide +kernel
theorem d_Wa_look_2 : decode c_Wa_look 2 = .ok (.aload_n 0, 1) := by decide +kernel
theorem d_Wa_look_3 : decode c_Wa_look 3 = .ok (.getfield 58, 3) := by decide +kernel
theorem d_Wa_look_6 : decode c_Wa_look 6 = .ok (.iload_n 1, 1) := by decide +kernel
theorem d_Wa_look_7 : decode c_Wa_look 7 = .ok (.invokevirtual 62, 3) := by decide +kernel
theorem d_Wa_look_10 : decode c_Wa_look 10 = .ok (.invokestatic 68, 3) := by decide +kernel
theorem d_Wa_look_13 : decode c_Wa_look 13 = .ok (.putfield 9, 3) := by decide +kernel
theorem d_Wa_look_16 : decode c_Wa_look 16 = .ok (.aload_n 0, 1) := by decide +kernel
theorem d_Wa_look_17 : decode c_Wa_look 17 = .ok (.iload_n 3, 1) := by decide +kernel
theorem d_Wa_look_18 : decode c_Wa_look 18 = .ok (.putfield 55, 3) := by decide +kernel
theorem d_Wa_look_21 : decode c_Wa_look 21 = .ok (.aload_n 0, 1) := by decide +kernel
theorem d_Wa_look_22 : decode c_Wa_look 22 = .ok (.iload_n 2, 1) := by decide +kernel
theorem d_Wa_look_23 : decode c_Wa_look 23 = .ok (.putfield 46, 3) := by decide +kernel
theorem d_Wa_look_26 : decode c_Wa_look 26 = .ok (.aload_n 0, 1) := by decide +kernel
theorem d_Wa_look_27 : decode c_Wa_look 27 = .ok (.iload_n 2, 1) := by decide +kernel
theorem d_Wa_look_28 : decode c_Wa_look 28 = .ok (.aload_n 0, 1) := by decide +kernel
theorem d_Wa_look_29 : decode c_Wa_look 29 = .ok (.getfield 58, 3) := by decide +kernel
theorem d_Wa_look_32 : decode c_Wa_look 32 = .ok (.iload_n 1, 1) := by decide +kernel
theorem d_Wa_look_33 : decode c_Wa_look 33 = .ok (.invokevirtual 74, 3) := by decide +kernel
theorem d_Wa_look_36 : decode c_Wa_look 36 = .ok (.iconst (-1), 1) := by decide +kernel
theorem d_Wa_look_37 : decode c_Wa_look 37 = .ok (.ixor, 1) := by decide +kernel
theorem d_Wa_look_38 : decode c_Wa_look 38 = .ok (.iand, 1) := by decide +kernel
theorem d_Wa_look_39 : decode c_Wa_look 39 = .ok (.putfield 52, 3) := by decide +kernel
theorem d_Wa_look_42 : decode c_Wa_look 42 = .ok (.aload_n 0, 1) := by decide +kernel
theorem d_Wa_look_43 : decode c_Wa_look 43 = .ok (.iload_n 2, 1) := by decide +kernel
theorem d_Wa_look_44 : decode c_Wa_look 44 = .ok (.aload_n 0, 1) := by decide +kernel
theorem d_Wa_look_45 : decode c_Wa_look 45 = .ok (.getfield 52, 3) := by decide +kernel
theorem d_Wa_look_48 : decode c_Wa_look 48 = .ok (.iconst (-1), 1) := by decide +kernel
theorem d_Wa_look_49 : decode c_Wa_look 49 = .ok (.ixor, 1) := by decide +kernel
theorem d_Wa_look_50 : decode c_Wa_look 50 = .ok (.iand, 1) := by decide +kernel
theorem d_Wa_look_51 : decode c_Wa_look 51 = .ok (.aload_n 0, 1) := by decide +kernel
theorem d_Wa_look_52 : decode c_Wa_look 52 = .ok (.iload_n 1, 1) := by decide +kernel
theorem d_Wa_look_53 : decode c_Wa_look 53 = .ok (.invokevirtual 77, 3) := by decide +kernel
theorem d_Wa_look_56 : decode c_Wa_look 56 = .ok (.iconst (-1), 1) := by decide +kernel
theorem d_Wa_look_57 : decode c_Wa_look 57 = .ok (.ixor, 1) := by decide +kernel
theorem d_Wa_look_58 : decode c_Wa_look 58 = .ok (.iand, 1) := by decide +kernel
theorem d_Wa_look_59 : decode c_Wa_look 59 = .ok (.putfield 49, 3) := by decide +kernel
theorem d_Wa_look_62 : decode c_Wa_look 62 = .ok (.aload_n 0, 1) := by decide +kernel
theorem d_Wa_look_63 : decode c_Wa_look 63 = .ok (.invokevirtual 80, 3) := by decide +kernel
theorem d_Wa_look_66 : decode c_Wa_look 66 = .ok (.aload_n 0, 1) := by decide +kernel
theorem d_Wa_look_67 : decode c_Wa_look 67 = .ok (.iload_n 1, 1) := by decide +kernel
theorem d_Wa_look_68 : decode c_Wa_look 68 = .ok (.invokevirtual 83, 3) := by decide +kernel
theorem d_Wa_look_71 : decode c_Wa_look 71 = .ok (.aload_n 0, 1) := by decide +kernel
theorem d_Wa_look_72 : decode c_Wa_look 72 = .ok (.invokevirtual 87, 3) := by decide +kernel
theorem d_Wa_look_75 : decode c_Wa_look 75 = .ok (.aload_n 0, 1) := by decide +kernel
theorem d_Wa_look_76 : decode c_Wa_look 76 = .ok (.invokevirtual 90, 3) := by decide +kernel
theorem d_Wa_look_79 : decode c_Wa_look 79 = .ok (.return_, 1) := by decide +kernel
theorem d_Wa_alwaysSeen_0 : decode c_Wa_alwaysSeen 0 = .ok (.iconst 0, 1) := by decide +kernel
theorem d_Wa_alwaysSeen_1 : decode c_Wa_alwaysSeen 1 = .ok (.istore_n 2, 1) := by decide +kernel
theorem d_Wa_alwaysSeen_2 : decode c_Wa_alwaysSeen 2 = .ok (.iconst 0, 1) := by decide +kernel
theorem d_Wa_alwaysSeen_3 : decode c_Wa_alwaysSeen 3 = .ok (.istore_n 3, 1) := by decide +kernel
theorem d_Wa_alwaysSeen_4 : decode c_Wa_alwaysSeen 4 = .ok (.iload_n 3, 1) := by decide +kernel
theorem d_Wa_alwaysSeen_5 : decode c_Wa_alwaysSeen 5 = .ok (.aload_n 0, 1) := by decide +kernel
theorem d_Wa_alwaysSeen_6 : decode c_Wa_alwaysSeen 6 = .ok (.getfield 58, 3) := by decide +kernel
theorem d_Wa_alwaysSeen_9 : decode c_Wa_alwaysSeen 9 = .ok (.getfield 93, 3) := by decide +kernel
theorem d_Wa_alwaysSeen_12 : decode c_Wa_alwaysSeen 12 = .ok (.if_icmp .ge 48, 3) := by decide +kernel
theorem d_Wa_alwaysSeen_15 : decode c_Wa_alwaysSeen 15 = .ok (.aload_n 0, 1) := by decide +kernel
theorem d_Wa_alwaysSeen_16 : decode c_Wa_alwaysSeen 16 = .ok (.getfield 58, 3) := by decide +kernel
theorem d_Wa_alwaysSeen_19 : decode c_Wa_alwaysSeen 19 = .ok (.iload_n 3, 1) := by decide +kernel
theorem d_Wa_alwaysSeen_20 : decode c_Wa_alwaysSeen 20 = .ok (.invokevirtual 96, 3) := by decide +kernel
theorem d_Wa_alwaysSeen_23 : decode c_Wa_alwaysSeen 23 = .ok (.astore 4, 2) := by decide +kernel
theorem d_Wa_alwaysSeen_25 : decode c_Wa_alwaysSeen 25 = .ok (.iload_n 2, 1) := by decide +kernel
theorem d_Wa_alwaysSeen_26 : decode c_Wa_alwaysSeen 26 = .ok (.iload_n 1, 1) := by decide +kernel
theorem d_Wa_alwaysSeen_27 : decode c_Wa_alwaysSeen 27 = .ok (.iload_n 3, 1) := by decide +kernel
theorem d_Wa_alwaysSeen_28 : decode c_Wa_alwaysSeen 28 = .ok (.ishr, 1) := by decide +kernel
theorem d_Wa_alwaysSeen_29 : decode c_Wa_alwaysSeen 29 = .ok (.iconst 1, 1) := by decide +kernel
theorem d_Wa_alwaysSeen_30 : decode c_Wa_alwaysSeen 30 = .ok (.iand, 1) := by decide +kernel
theorem d_Wa_alwaysSeen_31 : decode c_Wa_alwaysSeen 31 = .ok (.ifCond .eq 20, 3) := by decide +kernel
theorem d_Wa_alwaysSeen_34 : decode c_Wa_alwaysSeen 34 = .ok (.aload 4, 2) := by decide +kernel
theorem d_Wa_alwaysSeen_36 : decode c_Wa_alwaysSeen 36 = .ok (.getfield 100, 3) := by decide +kernel
theorem d_Wa_alwaysSeen_39 : decode c_Wa_alwaysSeen 39 = .ok (.iconst 3, 1) := by decide +kernel
theorem d_Wa_alwaysSeen_40 : decode c_Wa_alwaysSeen 40 = .ok (.if_icmp .ne 11, 3) := by decide +kernel
theorem d_Wa_alwaysSeen_43 : decode c_Wa_alwaysSeen 43 = .ok (.aload 4, 2) := by decide +kernel
theorem d_Wa_alwaysSeen_45 : decode c_Wa_alwaysSeen 45 = .ok (.getfield 105, 3) := by decide +kernel
theorem d_Wa_alwaysSeen_48 : decode c_Wa_alwaysSeen 48 = .ok (.goto 4, 3) := by decide +kernel
theorem d_Wa_alwaysSeen_51 : decode c_Wa_alwaysSeen 51 = .ok (.iconst 0, 1) := by decide +kernel
theorem d_Wa_alwaysSeen_52 : decode c_Wa_alwaysSeen 52 = .ok (.ior, 1) := by decide +kernel
theorem d_Wa_alwaysSeen_53 : decode c_Wa_alwaysSeen 53 = .ok (.istore_n 2, 1) := by decide +kernel
theorem d_Wa_alwaysSeen_54 : decode c_Wa_alwaysSeen 54 = .ok (.iinc 3 1, 3) := by decide +kernel
theorem d_Wa_alwaysSeen_57 : decode c_Wa_alwaysSeen 57 = .ok (.goto (-53), 3) := by decide +kernel
theorem d_Wa_alwaysSeen_60 : decode c_Wa_alwaysSeen 60 = .ok (.iload_n 2, 1) := by decide +kernel
theorem d_Wa_alwaysSeen_61 : decode c_Wa_alwaysSeen 61 = .ok (.ireturn, 1) := by decide +kernel
theorem d_Wa_clear_0 : decode c_Wa_clear 0 = .ok (.iconst 0, 1) := by decide +kernel
theorem d_Wa_clear_1 : decode c_Wa_clear 1 = .ok (.istore_n 1, 1) := by decide +kernel
theorem d_Wa_clear_2 : decode c_Wa_clear 2 = .ok (.iload_n 1, 1) := by decide +kernel
theorem d_Wa_clear_3 : decode c_Wa_clear 3 = .ok (.bipush 16, 2) := by decide +kernel
theorem d_Wa_clear_5 : decode c_Wa_clear 5 = .ok (.if_icmp .ge 91, 3) := by decide +kernel
theorem d_Wa_clear_8 : decode c_Wa_clear 8 = .ok (.aload_n 0, 1) := by decide +kernel
theorem d_Wa_clear_9 : decode c_Wa_clear 9 = .ok (.getfield 52, 3) := by decide +kernel
theorem d_Wa_clear_12 : decode c_Wa_clear 12 = .ok (.iload_n 1, 1) := by decide +kernel
theorem d_Wa_clear_13 : decode c_Wa_clear 13 = .ok (.ishr, 1) := by decide +kernel
theorem d_Wa_clear_14 : decode c_Wa_clear 14 = .ok (.iconst 1, 1) := by decide +kernel
theorem d_Wa_clear_15 : decode c_Wa_clear 15 = .ok (.iand, 1) := by decide +kernel
theorem d_Wa_clear_16 : decode c_Wa_clear 16 = .ok (.ifCond .eq 7, 3) := by decide +kernel
theorem d_Wa_clear_19 : decode c_Wa_clear 19 = .ok (.iconst 1, 1) := by decide +kernel
theorem d_Wa_clear_20 : decode c_Wa_clear 20 = .ok (.goto 4, 3) := by decide +kernel
theorem d_Wa_clear_23 : decode c_Wa_clear 23 = .ok (.iconst 0, 1) := by decide +kernel
theorem d_Wa_clear_24 : decode c_Wa_clear 24 = .ok (.istore_n 2, 1) := by decide +kernel
theorem d_Wa_clear_25 : decode c_Wa_clear 25 = .ok (.aload_n 0, 1) := by decide +kernel
theorem d_Wa_clear_26 : decode c_Wa_clear 26 = .ok (.getfield 15, 3) := by decide +kernel
theorem d_Wa_clear_29 : decode c_Wa_clear 29 = .ok (.iload_n 1, 1) := by decide +kernel
theorem d_Wa_clear_30 : decode c_Wa_clear 30 = .ok (.iconst 0, 1) := by decide +kernel
theorem d_Wa_clear_31 : decode c_Wa_clear 31 = .ok (.iastore, 1) := by decide +kernel
theorem d_Wa_clear_32 : decode c_Wa_clear 32 = .ok (.aload_n 0, 1) := by decide +kernel
theorem d_Wa_clear_33 : decode c_Wa_clear 33 = .ok (.getfield 19, 3) := by decide +kernel
theorem d_Wa_clear_36 : decode c_Wa_clear 36 = .ok (.iload_n 1, 1) := by decide +kernel
theorem d_Wa_clear_37 : decode c_Wa_clear 37 = .ok (.bipush (-9), 2) := by decide +kernel
theorem d_Wa_clear_39 : decode c_Wa_clear 39 = .ok (.iastore, 1) := by decide +kernel
theorem d_Wa_clear_40 : decode c_Wa_clear 40 = .ok (.aload_n 0, 1) := by decide +kernel
theorem d_Wa_clear_41 : decode c_Wa_clear 41 = .ok (.getfield 22, 3) := by decide +kernel
theorem d_Wa_clear_44 : decode c_Wa_clear 44 = .ok (.iload_n 1, 1) := by decide +kernel
theorem d_Wa_clear_45 : decode c_Wa_clear 45 = .ok (.iload_n 2, 1) := by decide +kernel
theorem d_Wa_clear_46 : decode c_Wa_clear 46 = .ok (.ifCond .eq 10, 3) := by decide +kernel
theorem d_Wa_clear_49 : decode c_Wa_clear 49 = .ok (.aload_n 0, 1) := by decide +kernel
theorem d_Wa_clear_50 : decode c_Wa_clear 50 = .ok (.getfield 9, 3) := by decide +kernel
theorem d_Wa_clear_53 : decode c_Wa_clear 53 = .ok (.goto 4, 3) := by decide +kernel
theorem d_Wa_clear_56 : decode c_Wa_clear 56 = .ok (.iconst 0, 1) := by decide +kernel
theorem d_Wa_clear_57 : decode c_Wa_clear 57 = .ok (.iastore, 1) := by decide +kernel
theorem d_Wa_clear_58 : decode c_Wa_clear 58 = .ok (.aload_n 0, 1) := by decide +kernel
theorem d_Wa_clear_59 : decode c_Wa_clear 59 = .ok (.getfield 25, 3) := by decide +kernel
theorem d_Wa_clear_62 : decode c_Wa_clear 62 = .ok (.iload_n 1, 1) := by decide +kernel
theorem d_Wa_clear_63 : decode c_Wa_clear 63 = .ok (.iload_n 2, 1) := by decide +kernel
theorem d_Wa_clear_64 : decode c_Wa_clear 64 = .ok (.ifCond .eq 10, 3) := by decide +kernel
theorem d_Wa_clear_67 : decode c_Wa_clear 67 = .ok (.aload_n 0, 1) := by decide +kernel
theorem d_Wa_clear_68 : decode c_Wa_clear 68 = .ok (.getfield 9, 3) := by decide +kernel
theorem d_Wa_clear_71 : decode c_Wa_clear 71 = .ok (.goto 4, 3) := by decide +kernel
theorem d_Wa_clear_74 : decode c_Wa_clear 74 = .ok (.iconst 0, 1) := by decide +kernel
theorem d_Wa_clear_75 : decode c_Wa_clear 75 = .ok (.iastore, 1) := by decide +kernel
theorem d_Wa_clear_76 : decode c_Wa_clear 76 = .ok (.aload_n 0, 1) := by decide +kernel
theorem d_Wa_clear_77 : decode c_Wa_clear 77 = .ok (.getfield 28, 3) := by decide +kernel
theorem d_Wa_clear_80 : decode c_Wa_clear 80 = .ok (.iload_n 1, 1) := by decide +kernel
theorem d_Wa_clear_81 : decode c_Wa_clear 81 = .ok (.iconst (-1), 1) := by decide +kernel
theorem d_Wa_clear_82 : decode c_Wa_clear 82 = .ok (.iastore, 1) := by decide +kernel
theorem d_Wa_clear_83 : decode c_Wa_clear 83 = .ok (.aload_n 0, 1) := by decide +kernel
theorem d_Wa_clear_84 : decode c_Wa_clear 84 = .ok (.getfield 31, 3) := by decide +kernel
theorem d_Wa_clear_87 : decode c_Wa_clear 87 = .ok (.iload_n 1, 1) := by decide +kernel
theorem d_Wa_clear_88 : decode c_Wa_clear 88 = .ok (.iconst (-1), 1) := by decide +kernel
theorem d_Wa_clear_89 : decode c_Wa_clear 89 = .ok (.iastore, 1) := by decide +kernel
theorem d_Wa_clear_90 : decode c_Wa_clear 90 = .ok (.iinc 1 1, 3) := by decide +kernel
theorem d_Wa_clear_93 : decode c_Wa_clear 93 = .ok (.goto (-91), 3) := by decide +kernel
theorem d_Wa_clear_96 : decode c_Wa_clear 96 = .ok (.return_, 1) := by decide +kernel
theorem d_Wa_enlist_0 : decode c_Wa_enlist 0 = .ok (.aload_n 0, 1) := by decide +kernel
theorem d_Wa_enlist_1 : decode c_Wa_enlist 1 = .ok (.iconst 0, 1) := by decide +kernel
theorem d_Wa_enlist_2 : decode c_Wa_enlist 2 = .ok (.putfield 43, 3) := by decide +kernel
theorem d_Wa_enlist_5 : decode c_Wa_enlist 5 = .ok (.iconst 0, 1) := by decide +kernel
theorem d_Wa_enlist_6 : decode c_Wa_enlist 6 = .ok (.istore_n 2, 1) := by decide +kernel
theorem d_Wa_enlist_7 : decode c_Wa_enlist 7 = .ok (.iload_n 2, 1) := by decide +kernel
theorem d_Wa_enlist_8 : decode c_Wa_enlist 8 = .ok (.aload_n 0, 1) := by decide +kernel
theorem d_Wa_enlist_9 : decode c_Wa_enlist 9 = .ok (.getfield 58, 3) := by decide +kernel
theorem d_Wa_enlist_12 : decode c_Wa_enlist 12 = .ok (.getfield 93, 3) := by decide +kernel
theorem d_Wa_enlist_15 : decode c_Wa_enlist 15 = .ok (.if_icmp .ge 66, 3) := by decide +kernel
theorem d_Wa_enlist_18 : decode c_Wa_enlist 18 = .ok (.aload_n 0, 1) := by decide +kernel
theorem d_Wa_enlist_19 : decode c_Wa_enlist 19 = .ok (.getfield 58, 3) := by decide +kernel
theorem d_Wa_enlist_22 : decode c_Wa_enlist 22 = .ok (.iload_n 2, 1) := by decide +kernel
theorem d_Wa_enlist_23 : decode c_Wa_enlist 23 = .ok (.invokevirtual 96, 3) := by decide +kernel
theorem d_Wa_enlist_26 : decode c_Wa_enlist 26 = .ok (.astore_n 3, 1) := by decide +kernel
theorem d_Wa_enlist_27 : decode c_Wa_enlist 27 = .ok (.iload_n 1, 1) := by decide +kernel
theorem d_Wa_enlist_28 : decode c_Wa_enlist 28 = .ok (.iload_n 2, 1) := by decide +kernel
theorem d_Wa_enlist_29 : decode c_Wa_enlist 29 = .ok (.ishr, 1) := by decide +kernel
theorem d_Wa_enlist_30 : decode c_Wa_enlist 30 = .ok (.iconst 1, 1) := by decide +kernel
theorem d_Wa_enlist_31 : decode c_Wa_enlist 31 = .ok (.iand, 1) := by decide +kernel
theorem d_Wa_enlist_32 : decode c_Wa_enlist 32 = .ok (.ifCond .eq 43, 3) := by decide +kernel
theorem d_Wa_enlist_35 : decode c_Wa_enlist 35 = .ok (.aload_n 3, 1) := by decide +kernel
theorem d_Wa_enlist_36 : decode c_Wa_enlist 36 = .ok (.getfield 100, 3) := by decide +kernel
theorem d_Wa_enlist_39 : decode c_Wa_enlist 39 = .ok (.iconst 3, 1) := by decide +kernel
theorem d_Wa_enlist_40 : decode c_Wa_enlist 40 = .ok (.if_icmp .eq 35, 3) := by decide +kernel
theorem d_Wa_enlist_43 : decode c_Wa_enlist 43 = .ok (.aload_n 3, 1) := by decide +kernel
theorem d_Wa_enlist_44 : decode c_Wa_enlist 44 = .ok (.getfield 105, 3) := by decide +kernel
theorem d_Wa_enlist_47 : decode c_Wa_enlist 47 = .ok (.aload_n 0, 1) := by decide +kernel
theorem d_Wa_enlist_48 : decode c_Wa_enlist 48 = .ok (.getfield 49, 3) := by decide +kernel
theorem d_Wa_enlist_51 : decode c_Wa_enlist 51 = .ok (.iand, 1) := by decide +kernel
theorem d_Wa_enlist_52 : decode c_Wa_enlist 52 = .ok (.ifCond .eq 23, 3) := by decide +kernel
theorem d_Wa_enlist_55 : decode c_Wa_enlist 55 = .ok (.aload_n 0, 1) := by decide +kernel
theorem d_Wa_enlist_56 : decode c_Wa_enlist 56 = .ok (.aload_n 0, 1) := by decide +kernel
theorem d_Wa_enlist_57 : decode c_Wa_enlist 57 = .ok (.getfield 43, 3) := by decide +kernel
theorem d_Wa_enlist_60 : decode c_Wa_enlist 60 = .ok (.iload_n 2, 1) := by decide +kernel
theorem d_Wa_enlist_61 : decode c_Wa_enlist 61 = .ok (.aload_n 3, 1) := by decide +kernel
theorem d_Wa_enlist_62 : decode c_Wa_enlist 62 = .ok (.invokevirtual 107, 3) := by decide +kernel
theorem d_Wa_enlist_65 : decode c_Wa_enlist 65 = .ok (.aload_n 0, 1) := by decide +kernel
theorem d_Wa_enlist_66 : decode c_Wa_enlist 66 = .ok (.dup, 1) := by decide +kernel
theorem d_Wa_enlist_67 : decode c_Wa_enlist 67 = .ok (.getfield 43, 3) := by decide +kernel
theorem d_Wa_enlist_70 : decode c_Wa_enlist 70 = .ok (.iconst 1, 1) := by decide +kernel
theorem d_Wa_enlist_71 : decode c_Wa_enlist 71 = .ok (.iadd, 1) := by decide +kernel
theorem d_Wa_enlist_72 : decode c_Wa_enlist 72 = .ok (.putfield 43, 3) := by decide +kernel
theorem d_Wa_enlist_75 : decode c_Wa_enlist 75 = .ok (.iinc 2 1, 3) := by decide +kernel
theorem d_Wa_enlist_78 : decode c_Wa_enlist 78 = .ok (.goto (-71), 3) := by decide +kernel
theorem d_Wa_enlist_81 : decode c_Wa_enlist 81 = .ok (.return_, 1) := by decide +kernel
theorem d_Wa_setOut_0 : decode c_Wa_setOut 0 = .ok (.aload_n 3, 1) := by decide +kernel
theorem d_Wa_setOut_1 : decode c_Wa_setOut 1 = .ok (.iconst 0, 1) := by decide +kernel
theorem d_Wa_setOut_2 : decode c_Wa_setOut 2 = .ok (.invokevirtual 111, 3) := by decide +kernel
theorem d_Wa_setOut_5 : decode c_Wa_setOut 5 = .ok (.istore 4, 2) := by decide +kernel
theorem d_Wa_setOut_7 : decode c_Wa_setOut 7 = .ok (.aload_n 3, 1) := by decide +kernel
theorem d_Wa_setOut_8 : decode c_Wa_setOut 8 = .ok (.iload 4, 2) := by decide +kernel
theorem d_Wa_setOut_10 : decode c_Wa_setOut 10 = .ok (.invokevirtual 114, 3) := by decide +kernel
theorem d_Wa_setOut_13 : decode c_Wa_setOut 13 = .ok (.istore 5, 2) := by decide +kernel
theorem d_Wa_setOut_15 : decode c_Wa_setOut 15 = .ok (.aload_n 0, 1) := by decide +kernel
theorem d_Wa_setOut_16 : decode c_Wa_setOut 16 = .ok (.getfield 34, 3) := by decide +kernel
theorem d_Wa_setOut_19 : decode c_Wa_setOut 19 = .ok (.iload_n 1, 1) := by decide +kernel
theorem d_Wa_setOut_20 : decode c_Wa_setOut 20 = .ok (.iload_n 2, 1) := by decide +kernel
theorem d_Wa_setOut_21 : decode c_Wa_setOut 21 = .ok (.iastore, 1) := by decide +kernel
theorem d_Wa_setOut_22 : decode c_Wa_setOut 22 = .ok (.aload_n 3, 1) := by decide +kernel
theorem d_Wa_setOut_23 : decode c_Wa_setOut 23 = .ok (.getfield 117, 3) := by decide +kernel
theorem d_Wa_setOut_26 : decode c_Wa_setOut 26 = .ok (.iload 5, 2) := by decide +kernel
theorem d_Wa_setOut_28 : decode c_Wa_setOut 28 = .ok (.iaload, 1) := by decide +kernel
theorem d_Wa_setOut_29 : decode c_Wa_setOut 29 = .ok (.iload 4, 2) := by decide +kernel
theorem d_Wa_setOut_31 : decode c_Wa_setOut 31 = .ok (.if_icmp .ne 19, 3) := by decide +kernel
theorem d_Wa_setOut_34 : decode c_Wa_setOut 34 = .ok (.aload_n 0, 1) := by decide +kernel
theorem d_Wa_setOut_35 : decode c_Wa_setOut 35 = .ok (.getfield 37, 3) := by decide +kernel
theorem d_Wa_setOut_38 : decode c_Wa_setOut 38 = .ok (.iload_n 1, 1) := by decide +kernel
theorem d_Wa_setOut_39 : decode c_Wa_setOut 39 = .ok (.iload 5, 2) := by decide +kernel
theorem d_Wa_setOut_41 : decode c_Wa_setOut 41 = .ok (.iastore, 1) := by decide +kernel
theorem d_Wa_setOut_42 : decode c_Wa_setOut 42 = .ok (.aload_n 0, 1) := by decide +kernel
theorem d_Wa_setOut_43 : decode c_Wa_setOut 43 = .ok (.getfield 40, 3) := by decide +kernel
theorem d_Wa_setOut_46 : decode c_Wa_setOut 46 = .ok (.iload_n 1, 1) := by decide +kernel
theorem d_Wa_setOut_47 : decode c_Wa_setOut 47 = .ok (.iconst 0, 1) := by decide +kernel
theorem d_Wa_setOut_48 : decode c_Wa_setOut 48 = .ok (.iastore, 1) := by decide +kernel
theorem d_Wa_setOut_49 : decode c_Wa_setOut 49 = .ok (.return_, 1) := by decide +kernel
theorem d_Wa_setOut_50 : decode c_Wa_setOut 50 = .ok (.aload_n 0, 1) := by decide +kernel
theorem d_Wa_setOut_51 : decode c_Wa_setOut 51 = .ok (.getfield 37, 3) := by decide +kernel
theorem d_Wa_setOut_54 : decode c_Wa_setOut 54 = .ok (.iload_n 1, 1) := by decide +kernel
theorem d_Wa_setOut_55 : decode c_Wa_setOut 55 = .ok (.aload_n 3, 1) := by decide +kernel
theorem d_Wa_setOut_56 : decode c_Wa_setOut 56 = .ok (.iload 5, 2) := by decide +kernel
theorem d_Wa_setOut_58 : decode c_Wa_setOut 58 = .ok (.invokevirtual 120, 3) := by decide +kernel
theorem d_Wa_setOut_61 : decode c_Wa_setOut 61 = .ok (.iastore, 1) := by decide +kernel
theorem d_Wa_setOut_62 : decode c_Wa_setOut 62 = .ok (.aload_n 0, 1) := by decide +kernel
theorem d_Wa_setOut_63 : decode c_Wa_setOut 63 = .ok (.getfield 40, 3) := by decide +kernel
theorem d_Wa_setOut_66 : decode c_Wa_setOut 66 = .ok (.iload_n 1, 1) := by decide +kernel
theorem d_Wa_setOut_67 : decode c_Wa_setOut 67 = .ok (.aload_n 3, 1) := by decide +kernel
theorem d_Wa_setOut_68 : decode c_Wa_setOut 68 = .ok (.getfield 117, 3) := by decide +kernel
theorem d_Wa_setOut_71 : decode c_Wa_setOut 71 = .ok (.iload 5, 2) := by decide +kernel
theorem d_Wa_setOut_73 : decode c_Wa_setOut 73 = .ok (.iconst 1, 1) := by decide +kernel
theorem d_Wa_setOut_74 : decode c_Wa_setOut 74 = .ok (.iadd, 1) := by decide +kernel
theorem d_Wa_setOut_75 : decode c_Wa_setOut 75 = .ok (.iaload, 1) := by decide +kernel
theorem d_Wa_setOut_76 : decode c_Wa_setOut 76 = .ok (.iload 4, 2) := by decide +kernel
theorem d_Wa_setOut_78 : decode c_Wa_setOut 78 = .ok (.isub, 1) := by decide +kernel
theorem d_Wa_setOut_79 : decode c_Wa_setOut 79 = .ok (.iastore, 1) := by decide +kernel
theorem d_Wa_setOut_80 : decode c_Wa_setOut 80 = .ok (.iload 4, 2) := by decide +kernel
theorem d_Wa_setOut_82 : decode c_Wa_setOut 82 = .ok (.aload_n 3, 1) := by decide +kernel
theorem d_Wa_setOut_83 : decode c_Wa_setOut 83 = .ok (.getfield 123, 3) := by decide +kernel
theorem d_Wa_setOut_86 : decode c_Wa_setOut 86 = .ok (.iload 5, 2) := by decide +kernel
theorem d_Wa_setOut_88 : decode c_Wa_setOut 88 = .ok (.iaload, 1) := by decide +kernel
theorem d_Wa_setOut_89 : decode c_Wa_setOut 89 = .ok (.if_icmp .gt 31, 3) := by decide +kernel
theorem d_Wa_setOut_92 : decode c_Wa_setOut 92 = .ok (.aload_n 0, 1) := by decide +kernel
theorem d_Wa_setOut_93 : decode c_Wa_setOut 93 = .ok (.aload_n 3, 1) := by decide +kernel
theorem d_Wa_setOut_94 : decode c_Wa_setOut 94 = .ok (.getfield 126, 3) := by decide +kernel
theorem d_Wa_setOut_97 : decode c_Wa_setOut 97 = .ok (.iload 5, 2) := by decide +kernel
theorem d_Wa_setOut_99 : decode c_Wa_setOut 99 = .ok (.iaload, 1) := by decide +kernel
theorem d_Wa_setOut_100 : decode c_Wa_setOut 100 = .ok (.aload_n 0, 1) := by decide +kernel
theorem d_Wa_setOut_101 : decode c_Wa_setOut 101 = .ok (.getfield 49, 3) := by decide +kernel
theorem d_Wa_setOut_104 : decode c_Wa_setOut 104 = .ok (.iand, 1) := by decide +kernel
theorem d_Wa_setOut_105 : decode c_Wa_setOut 105 = .ok (.aload_n 3, 1) := by decide +kernel
theorem d_Wa_setOut_106 : decode c_Wa_setOut 106 = .ok (.getfield 123, 3) := by decide +kernel
theorem d_Wa_setOut_109 : decode c_Wa_setOut 109 = .ok (.iload 5, 2) := by decide +kernel
theorem d_Wa_setOut_111 : decode c_Wa_setOut 111 = .ok (.iaload, 1) := by decide +kernel
theorem d_Wa_setOut_112 : decode c_Wa_setOut 112 = .ok (.iload 4, 2) := by decide +kernel
theorem d_Wa_setOut_114 : decode c_Wa_setOut 114 = .ok (.isub, 1) := by decide +kernel
theorem d_Wa_setOut_115 : decode c_Wa_setOut 115 = .ok (.iconst 1, 1) := by decide +kernel
theorem d_Wa_setOut_116 : decode c_Wa_setOut 116 = .ok (.iadd, 1) := by decide +kernel
theorem d_Wa_setOut_117 : decode c_Wa_setOut 117 = .ok (.invokevirtual 129, 3) := by decide +kernel
theorem d_Wa_setOut_120 : decode c_Wa_setOut 120 = .ok (.return_, 1) := by decide +kernel
theorem d_Wa_coverAhead_0 : decode c_Wa_coverAhead 0 = .ok (.iconst 0, 1) := by decide +kernel
theorem d_Wa_coverAhead_1 : decode c_Wa_coverAhead 1 = .ok (.istore_n 3, 1) := by decide +kernel
theorem d_Wa_coverAhead_2 : decode c_Wa_coverAhead 2 = .ok (.iload_n 3, 1) := by decide +kernel
theorem d_Wa_coverAhead_3 : decode c_Wa_coverAhead 3 = .ok (.bipush 16, 2) := by decide +kernel
theorem d_Wa_coverAhead_5 : decode c_Wa_coverAhead 5 = .ok (.if_icmp .ge 33, 3) := by decide +kernel
theorem d_Wa_coverAhead_8 : decode c_Wa_coverAhead 8 = .ok (.iload_n 1, 1) := by decide +kernel
theorem d_Wa_coverAhead_9 : decode c_Wa_coverAhead 9 = .ok (.iload_n 3, 1) := by decide +kernel
theorem d_Wa_coverAhead_10 : decode c_Wa_coverAhead 10 = .ok (.ishr, 1) := by decide +kernel
theorem d_Wa_coverAhead_11 : decode c_Wa_coverAhead 11 = .ok (.iconst 1, 1) := by decide +kernel
theorem d_Wa_coverAhead_12 : decode c_Wa_coverAhead 12 = .ok (.iand, 1) := by decide +kernel
theorem d_Wa_coverAhead_13 : decode c_Wa_coverAhead 13 = .ok (.ifCond .eq 19, 3) := by decide +kernel
theorem d_Wa_coverAhead_16 : decode c_Wa_coverAhead 16 = .ok (.aload_n 0, 1) := by decide +kernel
theorem d_Wa_coverAhead_17 : decode c_Wa_coverAhead 17 = .ok (.getfield 28, 3) := by decide +kernel
theorem d_Wa_coverAhead_20 : decode c_Wa_coverAhead 20 = .ok (.iload_n 3, 1) := by decide +kernel
theorem d_Wa_coverAhead_21 : decode c_Wa_coverAhead 21 = .ok (.aload_n 0, 1) := by decide +kernel
theorem d_Wa_coverAhead_22 : decode c_Wa_coverAhead 22 = .ok (.getfield 28, 3) := by decide +kernel
theorem d_Wa_coverAhead_25 : decode c_Wa_coverAhead 25 = .ok (.iload_n 3, 1) := by decide +kernel
theorem d_Wa_coverAhead_26 : decode c_Wa_coverAhead 26 = .ok (.iaload, 1) := by decide +kernel
theorem d_Wa_coverAhead_27 : decode c_Wa_coverAhead 27 = .ok (.iload_n 2, 1) := by decide +kernel
theorem d_Wa_coverAhead_28 : decode c_Wa_coverAhead 28 = .ok (.invokestatic 68, 3) := by decide +kernel
theorem d_Wa_coverAhead_31 : decode c_Wa_coverAhead 31 = .ok (.iastore, 1) := by decide +kernel
theorem d_Wa_coverAhead_32 : decode c_Wa_coverAhead 32 = .ok (.iinc 3 1, 3) := by decide +kernel
theorem d_Wa_coverAhead_35 : decode c_Wa_coverAhead 35 = .ok (.goto (-33), 3) := by decide +kernel
theorem d_Wa_coverAhead_38 : decode c_Wa_coverAhead 38 = .ok (.return_, 1) := by decide +kernel
theorem d_Wa_sweep_0 : decode c_Wa_sweep 0 = .ok (.iconst 0, 1) := by decide +kernel
theorem d_Wa_sweep_1 : decode c_Wa_sweep 1 = .ok (.istore_n 1, 1) := by decide +kernel
theorem d_Wa_sweep_2 : decode c_Wa_sweep 2 = .ok (.iload_n 1, 1) := by decide +kernel
theorem d_Wa_sweep_3 : decode c_Wa_sweep 3 = .ok (.sipush 11528, 3) := by decide +kernel
theorem d_Wa_sweep_6 : decode c_Wa_sweep 6 = .ok (.if_icmp .ge 130, 3) := by decide +kernel
theorem d_Wa_sweep_9 : decode c_Wa_sweep 9 = .ok (.aload_n 0, 1) := by decide +kernel
theorem d_Wa_sweep_10 : decode c_Wa_sweep 10 = .ok (.getfield 43, 3) := by decide +kernel
theorem d_Wa_sweep_13 : decode c_Wa_sweep 13 = .ok (.ifCond .le 123, 3) := by decide +kernel
theorem d_Wa_sweep_16 : decode c_Wa_sweep 16 = .ok (.aload_n 0, 1) := by decide +kernel
theorem d_Wa_sweep_17 : decode c_Wa_sweep 17 = .ok (.invokevirtual 133, 3) := by decide +kernel
theorem d_Wa_sweep_20 : decode c_Wa_sweep 20 = .ok (.istore_n 2, 1) := by decide +kernel
theorem d_Wa_sweep_21 : decode c_Wa_sweep 21 = .ok (.aload_n 0, 1) := by decide +kernel
theorem d_Wa_sweep_22 : decode c_Wa_sweep 22 = .ok (.getfield 40, 3) := by decide +kernel
theorem d_Wa_sweep_25 : decode c_Wa_sweep 25 = .ok (.iload_n 2, 1) := by decide +kernel
theorem d_Wa_sweep_26 : decode c_Wa_sweep 26 = .ok (.iaload, 1) := by decide +kernel
theorem d_Wa_sweep_27 : decode c_Wa_sweep 27 = .ok (.istore_n 3, 1) := by decide +kernel
theorem d_Wa_sweep_28 : decode c_Wa_sweep 28 = .ok (.iload_n 3, 1) := by decide +kernel
theorem d_Wa_sweep_29 : decode c_Wa_sweep 29 = .ok (.aload_n 0, 1) := by decide +kernel
theorem d_Wa_sweep_30 : decode c_Wa_sweep 30 = .ok (.getfield 9, 3) := by decide +kernel
theorem d_Wa_sweep_33 : decode c_Wa_sweep 33 = .ok (.if_icmp .lt 4, 3) := by decide +kernel
theorem d_Wa_sweep_36 : decode c_Wa_sweep 36 = .ok (.return_, 1) := by decide +kernel
theorem d_Wa_sweep_37 : decode c_Wa_sweep 37 = .ok (.aload_n 0, 1) := by decide +kernel
theorem d_Wa_sweep_38 : decode c_Wa_sweep 38 = .ok (.getfield 58, 3) := by decide +kernel
theorem d_Wa_sweep_41 : decode c_Wa_sweep 41 = .ok (.aload_n 0, 1) := by decide +kernel
theorem d_Wa_sweep_42 : decode c_Wa_sweep 42 = .ok (.getfield 34, 3) := by decide +kernel
theorem d_Wa_sweep_45 : decode c_Wa_sweep 45 = .ok (.iload_n 2, 1) := by decide +kernel
theorem d_Wa_sweep_46 : decode c_Wa_sweep 46 = .ok (.iaload, 1) := by decide +kernel
theorem d_Wa_sweep_47 : decode c_Wa_sweep 47 = .ok (.invokevirtual 96, 3) := by decide +kernel
theorem d_Wa_sweep_50 : decode c_Wa_sweep 50 = .ok (.astore 4, 2) := by decide +kernel
theorem d_Wa_sweep_52 : decode c_Wa_sweep 52 = .ok (.aload_n 0, 1) := by decide +kernel
theorem d_Wa_sweep_53 : decode c_Wa_sweep 53 = .ok (.getfield 37, 3) := by decide +kernel
theorem d_Wa_sweep_56 : decode c_Wa_sweep 56 = .ok (.iload_n 2, 1) := by decide +kernel
theorem d_Wa_sweep_57 : decode c_Wa_sweep 57 = .ok (.iaload, 1) := by decide +kernel
theorem d_Wa_sweep_58 : decode c_Wa_sweep 58 = .ok (.istore 5, 2) := by decide +kernel
theorem d_Wa_sweep_60 : decode c_Wa_sweep 60 = .ok (.aload_n 0, 1) := by decide +kernel
theorem d_Wa_sweep_61 : decode c_Wa_sweep 61 = .ok (.aload 4, 2) := by decide +kernel
theorem d_Wa_sweep_63 : decode c_Wa_sweep 63 = .ok (.getfield 126, 3) := by decide +kernel
theorem d_Wa_sweep_66 : decode c_Wa_sweep 66 = .ok (.iload 5, 2) := by decide +kernel
theorem d_Wa_sweep_68 : decode c_Wa_sweep 68 = .ok (.iaload, 1) := by decide +kernel
theorem d_Wa_sweep_69 : decode c_Wa_sweep 69 = .ok (.aload_n 0, 1) := by decide +kernel
theorem d_Wa_sweep_70 : decode c_Wa_sweep 70 = .ok (.getfield 49, 3) := by decide +kernel
theorem d_Wa_sweep_73 : decode c_Wa_sweep 73 = .ok (.iand, 1) := by decide +kernel
theorem d_Wa_sweep_74 : decode c_Wa_sweep 74 = .ok (.iload_n 3, 1) := by decide +kernel
theorem d_Wa_sweep_75 : decode c_Wa_sweep 75 = .ok (.iload_n 3, 1) := by decide +kernel
theorem d_Wa_sweep_76 : decode c_Wa_sweep 76 = .ok (.aload 4, 2) := by decide +kernel
theorem d_Wa_sweep_78 : decode c_Wa_sweep 78 = .ok (.getfield 137, 3) := by decide +kernel
theorem d_Wa_sweep_81 : decode c_Wa_sweep 81 = .ok (.iload 5, 2) := by decide +kernel
theorem d_Wa_sweep_83 : decode c_Wa_sweep 83 = .ok (.iaload, 1) := by decide +kernel
theorem d_Wa_sweep_84 : decode c_Wa_sweep 84 = .ok (.iadd, 1) := by decide +kernel
theorem d_Wa_sweep_85 : decode c_Wa_sweep 85 = .ok (.iconst 1, 1) := by decide +kernel
theorem d_Wa_sweep_86 : decode c_Wa_sweep 86 = .ok (.iadd, 1) := by decide +kernel
theorem d_Wa_sweep_87 : decode c_Wa_sweep 87 = .ok (.invokevirtual 140, 3) := by decide +kernel
theorem d_Wa_sweep_90 : decode c_Wa_sweep 90 = .ok (.aload_n 0, 1) := by decide +kernel
theorem d_Wa_sweep_91 : decode c_Wa_sweep 91 = .ok (.getfield 40, 3) := by decide +kernel
theorem d_Wa_sweep_94 : decode c_Wa_sweep 94 = .ok (.iload_n 2, 1) := by decide +kernel
theorem d_Wa_sweep_95 : decode c_Wa_sweep 95 = .ok (.iload_n 3, 1) := by decide +kernel
theorem d_Wa_sweep_96 : decode c_Wa_sweep 96 = .ok (.aload 4, 2) := by decide +kernel
theorem d_Wa_sweep_98 : decode c_Wa_sweep 98 = .ok (.getfield 117, 3) := by decide +kernel
theorem d_Wa_sweep_101 : decode c_Wa_sweep 101 = .ok (.iload 5, 2) := by decide +kernel
theorem d_Wa_sweep_103 : decode c_Wa_sweep 103 = .ok (.iconst 1, 1) := by decide +kernel
theorem d_Wa_sweep_104 : decode c_Wa_sweep 104 = .ok (.iadd, 1) := by decide +kernel
theorem d_Wa_sweep_105 : decode c_Wa_sweep 105 = .ok (.iaload, 1) := by decide +kernel
theorem d_Wa_sweep_106 : decode c_Wa_sweep 106 = .ok (.iadd, 1) := by decide +kernel
theorem d_Wa_sweep_107 : decode c_Wa_sweep 107 = .ok (.aload 4, 2) := by decide +kernel
theorem d_Wa_sweep_109 : decode c_Wa_sweep 109 = .ok (.getfield 117, 3) := by decide +kernel
theorem d_Wa_sweep_112 : decode c_Wa_sweep 112 = .ok (.iload 5, 2) := by decide +kernel
theorem d_Wa_sweep_114 : decode c_Wa_sweep 114 = .ok (.iaload, 1) := by decide +kernel
theorem d_Wa_sweep_115 : decode c_Wa_sweep 115 = .ok (.isub, 1) := by decide +kernel
theorem d_Wa_sweep_116 : decode c_Wa_sweep 116 = .ok (.iastore, 1) := by decide +kernel
theorem d_Wa_sweep_117 : decode c_Wa_sweep 117 = .ok (.aload_n 0, 1) := by decide +kernel
theorem d_Wa_sweep_118 : decode c_Wa_sweep 118 = .ok (.getfield 37, 3) := by decide +kernel
theorem d_Wa_sweep_121 : decode c_Wa_sweep 121 = .ok (.iload_n 2, 1) := by decide +kernel
theorem d_Wa_sweep_122 : decode c_Wa_sweep 122 = .ok (.aload 4, 2) := by decide +kernel
theorem d_Wa_sweep_124 : decode c_Wa_sweep 124 = .ok (.iload 5, 2) := by decide +kernel
theorem d_Wa_sweep_126 : decode c_Wa_sweep 126 = .ok (.invokevirtual 120, 3) := by decide +kernel
theorem d_Wa_sweep_129 : decode c_Wa_sweep 129 = .ok (.iastore, 1) := by decide +kernel
theorem d_Wa_sweep_130 : decode c_Wa_sweep 130 = .ok (.iinc 1 1, 3) := by decide +kernel
theorem d_Wa_sweep_133 : decode c_Wa_sweep 133 = .ok (.goto (-131), 3) := by decide +kernel
theorem d_Wa_sweep_136 : decode c_Wa_sweep 136 = .ok (.return_, 1) := by decide +kernel
theorem d_Wa_earliest_0 : decode c_Wa_earliest 0 = .ok (.iconst 0, 1) := by decide +kernel
theorem d_Wa_earliest_1 : decode c_Wa_earliest 1 = .ok (.istore_n 1, 1) := by decide +kernel
theorem d_Wa_earliest_2 : decode c_Wa_earliest 2 = .ok (.iconst 1, 1) := by decide +kernel
theorem d_Wa_earliest_3 : decode c_Wa_earliest 3 = .ok (.istore_n 2, 1) := by decide +kernel
theorem d_Wa_earliest_4 : decode c_Wa_earliest 4 = .ok (.iload_n 2, 1) := by decide +kernel
theorem d_Wa_earliest_5 : decode c_Wa_earliest 5 = .ok (.aload_n 0, 1) := by decide +kernel
theorem d_Wa_earliest_6 : decode c_Wa_earliest 6 = .ok (.getfield 43, 3) := by decide +kernel
theorem d_Wa_earliest_9 : decode c_Wa_earliest 9 = .ok (.if_icmp .ge 26, 3) := by decide +kernel
theorem d_Wa_earliest_12 : decode c_Wa_earliest 12 = .ok (.aload_n 0, 1) := by decide +kernel
theorem d_Wa_earliest_13 : decode c_Wa_earliest 13 = .ok (.getfield 40, 3) := by decide +kernel
theorem d_Wa_earliest_16 : decode c_Wa_earliest 16 = .ok (.iload_n 2, 1) := by decide +kernel
theorem d_Wa_earliest_17 : decode c_Wa_earliest 17 = .ok (.iaload, 1) := by decide +kernel
theorem d_Wa_earliest_18 : decode c_Wa_earliest 18 = .ok (.aload_n 0, 1) := by decide +kernel
theorem d_Wa_earliest_19 : decode c_Wa_earliest 19 = .ok (.getfield 40, 3) := by decide +kernel
theorem d_Wa_earliest_22 : decode c_Wa_earliest 22 = .ok (.iload_n 1, 1) := by decide +kernel
theorem d_Wa_earliest_23 : decode c_Wa_earliest 23 = .ok (.iaload, 1) := by decide +kernel
theorem d_Wa_earliest_24 : decode c_Wa_earliest 24 = .ok (.if_icmp .ge 5, 3) := by decide +kernel
theorem d_Wa_earliest_27 : decode c_Wa_earliest 27 = .ok (.iload_n 2, 1) := by decide +kernel
theorem d_Wa_earliest_28 : decode c_Wa_earliest 28 = .ok (.istore_n 1, 1) := by decide +kernel
theorem d_Wa_earliest_29 : decode c_Wa_earliest 29 = .ok (.iinc 2 1, 3) := by decide +kernel
theorem d_Wa_earliest_32 : decode c_Wa_earliest 32 = .ok (.goto (-28), 3) := by decide +kernel
theorem d_Wa_earliest_35 : decode c_Wa_earliest 35 = .ok (.iload_n 1, 1) := by decide +kernel
theorem d_Wa_earliest_36 : decode c_Wa_earliest 36 = .ok (.ireturn, 1) := by decide +kernel
theorem d_Wa_see_0 : decode c_Wa_see 0 = .ok (.iload_n 1, 1) := by decide +kernel
theorem d_Wa_see_1 : decode c_Wa_see 1 = .ok (.istore 4, 2) := by decide +kernel
theorem d_Wa_see_3 : decode c_Wa_see 3 = .ok (.iconst 0, 1) := by decide +kernel
theorem d_Wa_see_4 : decode c_Wa_see 4 = .ok (.istore 5, 2) := by decide +kernel
theorem d_Wa_see_6 : decode c_Wa_see 6 = .ok (.iload 5, 2) := by decide +kernel
theorem d_Wa_see_8 : decode c_Wa_see 8 = .ok (.bipush 16, 2) := by decide +kernel
theorem d_Wa_see_10 : decode c_Wa_see 10 = .ok (.if_icmp .ge 35, 3) := by decide +kernel
theorem d_Wa_see_13 : decode c_Wa_see 13 = .ok (.iload 4, 2) := by decide +kernel
theorem d_Wa_see_15 : decode c_Wa_see 15 = .ok (.ifCond .eq 30, 3) := by decide +kernel
theorem d_Wa_see_18 : decode c_Wa_see 18 = .ok (.iload 4, 2) := by decide +kernel
theorem d_Wa_see_20 : decode c_Wa_see 20 = .ok (.iconst 1, 1) := by decide +kernel
theorem d_Wa_see_21 : decode c_Wa_see 21 = .ok (.iand, 1) := by decide +kernel
theorem d_Wa_see_22 : decode c_Wa_see 22 = .ok (.ifCond .eq 11, 3) := by decide +kernel
theorem d_Wa_see_25 : decode c_Wa_see 25 = .ok (.aload_n 0, 1) := by decide +kernel
theorem d_Wa_see_26 : decode c_Wa_see 26 = .ok (.iload 5, 2) := by decide +kernel
theorem d_Wa_see_28 : decode c_Wa_see 28 = .ok (.iload_n 2, 1) := by decide +kernel
theorem d_Wa_see_29 : decode c_Wa_see 29 = .ok (.iload_n 3, 1) := by decide +kernel
theorem d_Wa_see_30 : decode c_Wa_see 30 = .ok (.invokevirtual 144, 3) := by decide +kernel
theorem d_Wa_see_33 : decode c_Wa_see 33 = .ok (.iload 4, 2) := by decide +kernel
theorem d_Wa_see_35 : decode c_Wa_see 35 = .ok (.iconst 1, 1) := by decide +kernel
theorem d_Wa_see_36 : decode c_Wa_see 36 = .ok (.ishr, 1) := by decide +kernel
theorem d_Wa_see_37 : decode c_Wa_see 37 = .ok (.istore 4, 2) := by decide +kernel
theorem d_Wa_see_39 : decode c_Wa_see 39 = .ok (.iinc 5 1, 3) := by decide +kernel
theorem d_Wa_see_42 : decode c_Wa_see 42 = .ok (.goto (-36), 3) := by decide +kernel
theorem d_Wa_see_45 : decode c_Wa_see 45 = .ok (.return_, 1) := by decide +kernel
theorem d_Wa_seeOne_0 : decode c_Wa_seeOne 0 = .ok (.aload_n 0, 1) := by decide +kernel
theorem d_Wa_seeOne_1 : decode c_Wa_seeOne 1 = .ok (.getfield 28, 3) := by decide +kernel
theorem d_Wa_seeOne_4 : decode c_Wa_seeOne 4 = .ok (.iload_n 1, 1) := by decide +kernel
theorem d_Wa_seeOne_5 : decode c_Wa_seeOne 5 = .ok (.iaload, 1) := by decide +kernel
theorem d_Wa_seeOne_6 : decode c_Wa_seeOne 6 = .ok (.iconst (-1), 1) := by decide +kernel
theorem d_Wa_seeOne_7 : decode c_Wa_seeOne 7 = .ok (.if_icmp .ne 13, 3) := by decide +kernel
theorem d_Wa_seeOne_10 : decode c_Wa_seeOne 10 = .ok (.aload_n 0, 1) := by decide +kernel
theorem d_Wa_seeOne_11 : decode c_Wa_seeOne 11 = .ok (.getfield 31, 3) := by decide +kernel
theorem d_Wa_seeOne_14 : decode c_Wa_seeOne 14 = .ok (.iload_n 1, 1) := by decide +kernel
theorem d_Wa_seeOne_15 : decode c_Wa_seeOne 15 = .ok (.iload_n 2, 1) := by decide +kernel
theorem d_Wa_seeOne_16 : decode c_Wa_seeOne 16 = .ok (.iastore, 1) := by decide +kernel
theorem d_Wa_seeOne_17 : decode c_Wa_seeOne 17 = .ok (.goto 32, 3) := by decide +kernel
theorem d_Wa_seeOne_20 : decode c_Wa_seeOne 20 = .ok (.iload_n 2, 1) := by decide +kernel
theorem d_Wa_seeOne_21 : decode c_Wa_seeOne 21 = .ok (.aload_n 0, 1) := by decide +kernel
theorem d_Wa_seeOne_22 : decode c_Wa_seeOne 22 = .ok (.getfield 28, 3) := by decide +kernel
theorem d_Wa_seeOne_25 : decode c_Wa_seeOne 25 = .ok (.iload_n 1, 1) := by decide +kernel
theorem d_Wa_seeOne_26 : decode c_Wa_seeOne 26 = .ok (.iaload, 1) := by decide +kernel
theorem d_Wa_seeOne_27 : decode c_Wa_seeOne 27 = .ok (.if_icmp .le 22, 3) := by decide +kernel
theorem d_Wa_seeOne_30 : decode c_Wa_seeOne 30 = .ok (.aload_n 0, 1) := by decide +kernel
theorem d_Wa_seeOne_31 : decode c_Wa_seeOne 31 = .ok (.iload_n 1, 1) := by decide +kernel
theorem d_Wa_seeOne_32 : decode c_Wa_seeOne 32 = .ok (.aload_n 0, 1) := by decide +kernel
theorem d_Wa_seeOne_33 : decode c_Wa_seeOne 33 = .ok (.getfield 28, 3) := by decide +kernel
theorem d_Wa_seeOne_36 : decode c_Wa_seeOne 36 = .ok (.iload_n 1, 1) := by decide +kernel
theorem d_Wa_seeOne_37 : decode c_Wa_seeOne 37 = .ok (.iaload, 1) := by decide +kernel
theorem d_Wa_seeOne_38 : decode c_Wa_seeOne 38 = .ok (.iload_n 2, 1) := by decide +kernel
theorem d_Wa_seeOne_39 : decode c_Wa_seeOne 39 = .ok (.aload_n 0, 1) := by decide +kernel
theorem d_Wa_seeOne_40 : decode c_Wa_seeOne 40 = .ok (.getfield 28, 3) := by decide +kernel
theorem d_Wa_seeOne_43 : decode c_Wa_seeOne 43 = .ok (.iload_n 1, 1) := by decide +kernel
theorem d_Wa_seeOne_44 : decode c_Wa_seeOne 44 = .ok (.iaload, 1) := by decide +kernel
theorem d_Wa_seeOne_45 : decode c_Wa_seeOne 45 = .ok (.isub, 1) := by decide +kernel
theorem d_Wa_seeOne_46 : decode c_Wa_seeOne 46 = .ok (.invokevirtual 147, 3) := by decide +kernel
theorem d_Wa_seeOne_49 : decode c_Wa_seeOne 49 = .ok (.aload_n 0, 1) := by decide +kernel
theorem d_Wa_seeOne_50 : decode c_Wa_seeOne 50 = .ok (.getfield 28, 3) := by decide +kernel
theorem d_Wa_seeOne_53 : decode c_Wa_seeOne 53 = .ok (.iload_n 1, 1) := by decide +kernel
theorem d_Wa_seeOne_54 : decode c_Wa_seeOne 54 = .ok (.aload_n 0, 1) := by decide +kernel
theorem d_Wa_seeOne_55 : decode c_Wa_seeOne 55 = .ok (.getfield 28, 3) := by decide +kernel
theorem d_Wa_seeOne_58 : decode c_Wa_seeOne 58 = .ok (.iload_n 1, 1) := by decide +kernel
theorem d_Wa_seeOne_59 : decode c_Wa_seeOne 59 = .ok (.iaload, 1) := by decide +kernel
theorem d_Wa_seeOne_60 : decode c_Wa_seeOne 60 = .ok (.iload_n 3, 1) := by decide +kernel
theorem d_Wa_seeOne_61 : decode c_Wa_seeOne 61 = .ok (.invokestatic 68, 3) := by decide +kernel
theorem d_Wa_seeOne_64 : decode c_Wa_seeOne 64 = .ok (.iastore, 1) := by decide +kernel
theorem d_Wa_seeOne_65 : decode c_Wa_seeOne 65 = .ok (.return_, 1) := by decide +kernel
theorem d_Wa_noteGap_0 : decode c_Wa_noteGap 0 = .ok (.aload_n 0, 1) := by decide +kernel
theorem d_Wa_noteGap_1 : decode c_Wa_noteGap 1 = .ok (.getfield 22, 3) := by decide +kernel
theorem d_Wa_noteGap_4 : decode c_Wa_noteGap 4 = .ok (.iload_n 1, 1) := by decide +kernel
theorem d_Wa_noteGap_5 : decode c_Wa_noteGap 5 = .ok (.dup2, 1) := by decide +kernel
theorem d_Wa_noteGap_6 : decode c_Wa_noteGap 6 = .ok (.iaload, 1) := by decide +kernel
theorem d_Wa_noteGap_7 : decode c_Wa_noteGap 7 = .ok (.iload_n 3, 1) := by decide +kernel
theorem d_Wa_noteGap_8 : decode c_Wa_noteGap 8 = .ok (.iadd, 1) := by decide +kernel
theorem d_Wa_noteGap_9 : decode c_Wa_noteGap 9 = .ok (.iastore, 1) := by decide +kernel
theorem d_Wa_noteGap_10 : decode c_Wa_noteGap 10 = .ok (.aload_n 0, 1) := by decide +kernel
theorem d_Wa_noteGap_11 : decode c_Wa_noteGap 11 = .ok (.getfield 25, 3) := by decide +kernel
theorem d_Wa_noteGap_14 : decode c_Wa_noteGap 14 = .ok (.iload_n 1, 1) := by decide +kernel
theorem d_Wa_noteGap_15 : decode c_Wa_noteGap 15 = .ok (.dup2, 1) := by decide +kernel
theorem d_Wa_noteGap_16 : decode c_Wa_noteGap 16 = .ok (.iaload, 1) := by decide +kernel
theorem d_Wa_noteGap_17 : decode c_Wa_noteGap 17 = .ok (.iload_n 3, 1) := by decide +kernel
theorem d_Wa_noteGap_18 : decode c_Wa_noteGap 18 = .ok (.aload_n 0, 1) := by decide +kernel
theorem d_Wa_noteGap_19 : decode c_Wa_noteGap 19 = .ok (.getfield 55, 3) := by decide +kernel
theorem d_Wa_noteGap_22 : decode c_Wa_noteGap 22 = .ok (.if_icmp .ge 7, 3) := by decide +kernel
theorem d_Wa_noteGap_25 : decode c_Wa_noteGap 25 = .ok (.iconst 0, 1) := by decide +kernel
theorem d_Wa_noteGap_26 : decode c_Wa_noteGap 26 = .ok (.goto 11, 3) := by decide +kernel
theorem d_Wa_noteGap_29 : decode c_Wa_noteGap 29 = .ok (.iload_n 3, 1) := by decide +kernel
theorem d_Wa_noteGap_30 : decode c_Wa_noteGap 30 = .ok (.aload_n 0, 1) := by decide +kernel
theorem d_Wa_noteGap_31 : decode c_Wa_noteGap 31 = .ok (.getfield 55, 3) := by decide +kernel
theorem d_Wa_noteGap_34 : decode c_Wa_noteGap 34 = .ok (.isub, 1) := by decide +kernel
theorem d_Wa_noteGap_35 : decode c_Wa_noteGap 35 = .ok (.iconst 1, 1) := by decide +kernel
theorem d_Wa_noteGap_36 : decode c_Wa_noteGap 36 = .ok (.iadd, 1) := by decide +kernel
theorem d_Wa_noteGap_37 : decode c_Wa_noteGap 37 = .ok (.iadd, 1) := by decide +kernel
theorem d_Wa_noteGap_38 : decode c_Wa_noteGap 38 = .ok (.iastore, 1) := by decide +kernel
theorem d_Wa_noteGap_39 : decode c_Wa_noteGap 39 = .ok (.iload_n 3, 1) := by decide +kernel
theorem d_Wa_noteGap_40 : decode c_Wa_noteGap 40 = .ok (.aload_n 0, 1) := by decide +kernel
theorem d_Wa_noteGap_41 : decode c_Wa_noteGap 41 = .ok (.getfield 15, 3) := by decide +kernel
theorem d_Wa_noteGap_44 : decode c_Wa_noteGap 44 = .ok (.iload_n 1, 1) := by decide +kernel
theorem d_Wa_noteGap_45 : decode c_Wa_noteGap 45 = .ok (.iaload, 1) := by decide +kernel
theorem d_Wa_noteGap_46 : decode c_Wa_noteGap 46 = .ok (.if_icmp .gt 23, 3) := by decide +kernel
theorem d_Wa_noteGap_49 : decode c_Wa_noteGap 49 = .ok (.iload_n 3, 1) := by decide +kernel
theorem d_Wa_noteGap_50 : decode c_Wa_noteGap 50 = .ok (.aload_n 0, 1) := by decide +kernel
theorem d_Wa_noteGap_51 : decode c_Wa_noteGap 51 = .ok (.getfield 15, 3) := by decide +kernel
theorem d_Wa_noteGap_54 : decode c_Wa_noteGap 54 = .ok (.iload_n 1, 1) := by decide +kernel
theorem d_Wa_noteGap_55 : decode c_Wa_noteGap 55 = .ok (.iaload, 1) := by decide +kernel
theorem d_Wa_noteGap_56 : decode c_Wa_noteGap 56 = .ok (.if_icmp .ne 27, 3) := by decide +kernel
theorem d_Wa_noteGap_59 : decode c_Wa_noteGap 59 = .ok (.iload_n 2, 1) := by decide +kernel
theorem d_Wa_noteGap_60 : decode c_Wa_noteGap 60 = .ok (.aload_n 0, 1) := by decide +kernel
theorem d_Wa_noteGap_61 : decode c_Wa_noteGap 61 = .ok (.getfield 19, 3) := by decide +kernel
theorem d_Wa_noteGap_64 : decode c_Wa_noteGap 64 = .ok (.iload_n 1, 1) := by decide +kernel
theorem d_Wa_noteGap_65 : decode c_Wa_noteGap 65 = .ok (.iaload, 1) := by decide +kernel
theorem d_Wa_noteGap_66 : decode c_Wa_noteGap 66 = .ok (.if_icmp .ge 17, 3) := by decide +kernel
theorem d_Wa_noteGap_69 : decode c_Wa_noteGap 69 = .ok (.aload_n 0, 1) := by decide +kernel
theorem d_Wa_noteGap_70 : decode c_Wa_noteGap 70 = .ok (.getfield 15, 3) := by decide +kernel
theorem d_Wa_noteGap_73 : decode c_Wa_noteGap 73 = .ok (.iload_n 1, 1) := by decide +kernel
theorem d_Wa_noteGap_74 : decode c_Wa_noteGap 74 = .ok (.iload_n 3, 1) := by decide +kernel
theorem d_Wa_noteGap_75 : decode c_Wa_noteGap 75 = .ok (.iastore, 1) := by decide +kernel
theorem d_Wa_noteGap_76 : decode c_Wa_noteGap 76 = .ok (.aload_n 0, 1) := by decide +kernel
theorem d_Wa_noteGap_77 : decode c_Wa_noteGap 77 = .ok (.getfield 19, 3) := by decide +kernel
theorem d_Wa_noteGap_80 : decode c_Wa_noteGap 80 = .ok (.iload_n 1, 1) := by decide +kernel
theorem d_Wa_noteGap_81 : decode c_Wa_noteGap 81 = .ok (.iload_n 2, 1) := by decide +kernel
theorem d_Wa_noteGap_82 : decode c_Wa_noteGap 82 = .ok (.iastore, 1) := by decide +kernel
theorem d_Wa_noteGap_83 : decode c_Wa_noteGap 83 = .ok (.return_, 1) := by decide +kernel
theorem d_Wa_closeRound_0 : decode c_Wa_closeRound 0 = .ok (.iconst 0, 1) := by decide +kernel
theorem d_Wa_closeRound_1 : decode c_Wa_closeRound 1 = .ok (.istore_n 1, 1) := by decide +kernel
theorem d_Wa_closeRound_2 : decode c_Wa_closeRound 2 = .ok (.iload_n 1, 1) := by decide +kernel
theorem d_Wa_closeRound_3 : decode c_Wa_closeRound 3 = .ok (.bipush 16, 2) := by decide +kernel
theorem d_Wa_closeRound_5 : decode c_Wa_closeRound 5 = .ok (.if_icmp .ge 74, 3) := by decide +kernel
theorem d_Wa_closeRound_8 : decode c_Wa_closeRound 8 = .ok (.aload_n 0, 1) := by decide +kernel
theorem d_Wa_closeRound_9 : decode c_Wa_closeRound 9 = .ok (.getfield 31, 3) := by decide +kernel
theorem d_Wa_closeRound_12 : decode c_Wa_closeRound 12 = .ok (.iload_n 1, 1) := by decide +kernel
theorem d_Wa_closeRound_13 : decode c_Wa_closeRound 13 = .ok (.iaload, 1) := by decide +kernel
theorem d_Wa_closeRound_14 : decode c_Wa_closeRound 14 = .ok (.iconst (-1), 1) := by decide +kernel
theorem d_Wa_closeRound_15 : decode c_Wa_closeRound 15 = .ok (.if_icmp .ne 6, 3) := by decide +kernel
theorem d_Wa_closeRound_18 : decode c_Wa_closeRound 18 = .ok (.goto 55, 3) := by decide +kernel
theorem d_Wa_closeRound_21 : decode c_Wa_closeRound 21 = .ok (.aload_n 0, 1) := by decide +kernel
theorem d_Wa_closeRound_22 : decode c_Wa_closeRound 22 = .ok (.getfield 31, 3) := by decide +kernel
theorem d_Wa_closeRound_25 : decode c_Wa_closeRound 25 = .ok (.iload_n 1, 1) := by decide +kernel
theorem d_Wa_closeRound_26 : decode c_Wa_closeRound 26 = .ok (.iaload, 1) := by decide +kernel
theorem d_Wa_closeRound_27 : decode c_Wa_closeRound 27 = .ok (.aload_n 0, 1) := by decide +kernel
theorem d_Wa_closeRound_28 : decode c_Wa_closeRound 28 = .ok (.getfield 9, 3) := by decide +kernel
theorem d_Wa_closeRound_31 : decode c_Wa_closeRound 31 = .ok (.iadd, 1) := by decide +kernel
theorem d_Wa_closeRound_32 : decode c_Wa_closeRound 32 = .ok (.aload_n 0, 1) := by decide +kernel
theorem d_Wa_closeRound_33 : decode c_Wa_closeRound 33 = .ok (.getfield 28, 3) := by decide +kernel
theorem d_Wa_closeRound_36 : decode c_Wa_closeRound 36 = .ok (.iload_n 1, 1) := by decide +kernel
theorem d_Wa_closeRound_37 : decode c_Wa_closeRound 37 = .ok (.iaload, 1) := by decide +kernel
theorem d_Wa_closeRound_38 : decode c_Wa_closeRound 38 = .ok (.isub, 1) := by decide +kernel
theorem d_Wa_closeRound_39 : decode c_Wa_closeRound 39 = .ok (.istore_n 2, 1) := by decide +kernel
theorem d_Wa_closeRound_40 : decode c_Wa_closeRound 40 = .ok (.iload_n 2, 1) := by decide +kernel
theorem d_Wa_closeRound_41 : decode c_Wa_closeRound 41 = .ok (.ifCond .le 32, 3) := by decide +kernel
theorem d_Wa_closeRound_44 : decode c_Wa_closeRound 44 = .ok (.aload_n 0, 1) := by decide +kernel
theorem d_Wa_closeRound_45 : decode c_Wa_closeRound 45 = .ok (.iload_n 1, 1) := by decide +kernel
theorem d_Wa_closeRound_46 : decode c_Wa_closeRound 46 = .ok (.aload_n 0, 1) := by decide +kernel
theorem d_Wa_closeRound_47 : decode c_Wa_closeRound 47 = .ok (.getfield 28, 3) := by decide +kernel
theorem d_Wa_closeRound_50 : decode c_Wa_closeRound 50 = .ok (.iload_n 1, 1) := by decide +kernel
theorem d_Wa_closeRound_51 : decode c_Wa_closeRound 51 = .ok (.iaload, 1) := by decide +kernel
theorem d_Wa_closeRound_52 : decode c_Wa_closeRound 52 = .ok (.aload_n 0, 1) := by decide +kernel
theorem d_Wa_closeRound_53 : decode c_Wa_closeRound 53 = .ok (.getfield 9, 3) := by decide +kernel
theorem d_Wa_closeRound_56 : decode c_Wa_closeRound 56 = .ok (.if_icmp .ge 12, 3) := by decide +kernel
theorem d_Wa_closeRound_59 : decode c_Wa_closeRound 59 = .ok (.aload_n 0, 1) := by decide +kernel
theorem d_Wa_closeRound_60 : decode c_Wa_closeRound 60 = .ok (.getfield 28, 3) := by decide +kernel
theorem d_Wa_closeRound_63 : decode c_Wa_closeRound 63 = .ok (.iload_n 1, 1) := by decide +kernel
theorem d_Wa_closeRound_64 : decode c_Wa_closeRound 64 = .ok (.iaload, 1) := by decide +kernel
theorem d_Wa_closeRound_65 : decode c_Wa_closeRound 65 = .ok (.goto 4, 3) := by decide +kernel
theorem d_Wa_closeRound_68 : decode c_Wa_closeRound 68 = .ok (.iconst 0, 1) := by decide +kernel
theorem d_Wa_closeRound_69 : decode c_Wa_closeRound 69 = .ok (.iload_n 2, 1) := by decide +kernel
theorem d_Wa_closeRound_70 : decode c_Wa_closeRound 70 = .ok (.invokevirtual 147, 3) := by decide +kernel
theorem d_Wa_closeRound_73 : decode c_Wa_closeRound 73 = .ok (.iinc 1 1, 3) := by decide +kernel
theorem d_Wa_closeRound_76 : decode c_Wa_closeRound 76 = .ok (.goto (-74), 3) := by decide +kernel
theorem d_Wa_closeRound_79 : decode c_Wa_closeRound 79 = .ok (.return_, 1) := by decide +kernel
theorem d_Wa_idleOf_0 : decode c_Wa_idleOf 0 = .ok (.aload_n 0, 1) := by decide +kernel
theorem d_Wa_idleOf_1 : decode c_Wa_idleOf 1 = .ok (.getfield 52, 3) := by decide +kernel
theorem d_Wa_idleOf_4 : decode c_Wa_idleOf 4 = .ok (.iload_n 1, 1) := by decide +kernel
theorem d_Wa_idleOf_5 : decode c_Wa_idleOf 5 = .ok (.ishr, 1) := by decide +kernel
theorem d_Wa_idleOf_6 : decode c_Wa_idleOf 6 = .ok (.iconst 1, 1) := by decide +kernel
theorem d_Wa_idleOf_7 : decode c_Wa_idleOf 7 = .ok (.iand, 1) := by decide +kernel
theorem d_Wa_idleOf_8 : decode c_Wa_idleOf 8 = .ok (.ifCond .eq 8, 3) := by decide +kernel
theorem d_Wa_idleOf_11 : decode c_Wa_idleOf 11 = .ok (.bipush (-9), 2) := by decide +kernel
theorem d_Wa_idleOf_13 : decode c_Wa_idleOf 13 = .ok (.goto 9, 3) := by decide +kernel
theorem d_Wa_idleOf_16 : decode c_Wa_idleOf 16 = .ok (.aload_n 0, 1) := by decide +kernel
theorem d_Wa_idleOf_17 : decode c_Wa_idleOf 17 = .ok (.getfield 15, 3) := by decide +kernel
theorem d_Wa_idleOf_20 : decode c_Wa_idleOf 20 = .ok (.iload_n 1, 1) := by decide +kernel
theorem d_Wa_idleOf_21 : decode c_Wa_idleOf 21 = .ok (.iaload, 1) := by decide +kernel
theorem d_Wa_idleOf_22 : decode c_Wa_idleOf 22 = .ok (.ireturn, 1) := by decide +kernel
theorem d_Wa_idleStartOf_0 : decode c_Wa_idleStartOf 0 = .ok (.aload_n 0, 1) := by decide +kernel
theorem d_Wa_idleStartOf_1 : decode c_Wa_idleStartOf 1 = .ok (.getfield 19, 3) := by decide +kernel
theorem d_Wa_idleStartOf_4 : decode c_Wa_idleStartOf 4 = .ok (.iload_n 1, 1) := by decide +kernel
theorem d_Wa_idleStartOf_5 : decode c_Wa_idleStartOf 5 = .ok (.iaload, 1) := by decide +kernel
theorem d_Wa_idleStartOf_6 : decode c_Wa_idleStartOf 6 = .ok (.ireturn, 1) := by decide +kernel
theorem d_Wa_unseenOf_0 : decode c_Wa_unseenOf 0 = .ok (.aload_n 0, 1) := by decide +kernel
theorem d_Wa_unseenOf_1 : decode c_Wa_unseenOf 1 = .ok (.getfield 22, 3) := by decide +kernel
theorem d_Wa_unseenOf_4 : decode c_Wa_unseenOf 4 = .ok (.iload_n 1, 1) := by decide +kernel
theorem d_Wa_unseenOf_5 : decode c_Wa_unseenOf 5 = .ok (.iaload, 1) := by decide +kernel
theorem d_Wa_unseenOf_6 : decode c_Wa_unseenOf 6 = .ok (.ireturn, 1) := by decide +kernel
theorem d_Wa_openingsOf_0 : decode c_Wa_openingsOf 0 = .ok (.aload_n 0, 1) := by decide +kernel
theorem d_Wa_openingsOf_1 : decode c_Wa_openingsOf 1 = .ok (.getfield 25, 3) := by decide +kernel
theorem d_Wa_openingsOf_4 : decode c_Wa_openingsOf 4 = .ok (.iload_n 1, 1) := by decide +kernel
theorem d_Wa_openingsOf_5 : decode c_Wa_openingsOf 5 = .ok (.iaload, 1) := by decide +kernel
theorem d_Wa_openingsOf_6 : decode c_Wa_openingsOf 6 = .ok (.ireturn, 1) := by decide +kernel
theorem d_Wa_loadOf_0 : decode c_Wa_loadOf 0 = .ok (.aload_n 0, 1) := by decide +kernel
theorem d_Wa_loadOf_1 : decode c_Wa_loadOf 1 = .ok (.iload_n 1, 1) := by decide +kernel
theorem d_Wa_loadOf_2 : decode c_Wa_loadOf 2 = .ok (.invokevirtual 150, 3) := by decide +kernel
theorem d_Wa_loadOf_5 : decode c_Wa_loadOf 5 = .ok (.istore_n 2, 1) := by decide +kernel
theorem d_Wa_loadOf_6 : decode c_Wa_loadOf 6 = .ok (.iload_n 2, 1) := by decide +kernel
theorem d_Wa_loadOf_7 : decode c_Wa_loadOf 7 = .ok (.ifCond .ge 8, 3) := by decide +kernel
theorem d_Wa_loadOf_10 : decode c_Wa_loadOf 10 = .ok (.bipush (-9), 2) := by decide +kernel
theorem d_Wa_loadOf_12 : decode c_Wa_loadOf 12 = .ok (.goto 16, 3) := by decide +kernel
theorem d_Wa_loadOf_15 : decode c_Wa_loadOf 15 = .ok (.iload_n 2, 1) := by decide +kernel
theorem d_Wa_loadOf_16 : decode c_Wa_loadOf 16 = .ok (.aload_n 0, 1) := by decide +kernel
theorem d_Wa_loadOf_17 : decode c_Wa_loadOf 17 = .ok (.getfield 58, 3) := by decide +kernel
theorem d_Wa_loadOf_20 : decode c_Wa_loadOf 20 = .ok (.getfield 153, 3) := by decide +kernel
theorem d_Wa_loadOf_23 : decode c_Wa_loadOf 23 = .ok (.iload_n 1, 1) := by decide +kernel
theorem d_Wa_loadOf_24 : decode c_Wa_loadOf 24 = .ok (.invokevirtual 157, 3) := by decide +kernel
theorem d_Wa_loadOf_27 : decode c_Wa_loadOf 27 = .ok (.imul, 1) := by decide +kernel
theorem d_Wa_loadOf_28 : decode c_Wa_loadOf 28 = .ok (.ireturn, 1) := by decide +kernel
theorem d_Wa_lureOf_0 : decode c_Wa_lureOf 0 = .ok (.aload_n 0, 1) := by decide +kernel
theorem d_Wa_lureOf_1 : decode c_Wa_lureOf 1 = .ok (.getfield 25, 3) := by decide +kernel
theorem d_Wa_lureOf_4 : decode c_Wa_lureOf 4 = .ok (.iload_n 1, 1) := by decide +kernel
theorem d_Wa_lureOf_5 : decode c_Wa_lureOf 5 = .ok (.iaload, 1) := by decide +kernel
theorem d_Wa_lureOf_6 : decode c_Wa_lureOf 6 = .ok (.aload_n 0, 1) := by decide +kernel
theorem d_Wa_lureOf_7 : decode c_Wa_lureOf 7 = .ok (.getfield 58, 3) := by decide +kernel
theorem d_Wa_lureOf_10 : decode c_Wa_lureOf 10 = .ok (.getfield 153, 3) := by decide +kernel
theorem d_Wa_lureOf_13 : decode c_Wa_lureOf 13 = .ok (.iload_n 1, 1) := by decide +kernel
theorem d_Wa_lureOf_14 : decode c_Wa_lureOf 14 = .ok (.invokevirtual 157, 3) := by decide +kernel
theorem d_Wa_lureOf_17 : decode c_Wa_lureOf 17 = .ok (.imul, 1) := by decide +kernel
theorem d_Wa_lureOf_18 : decode c_Wa_lureOf 18 = .ok (.ireturn, 1) := by decide +kernel
theorem d_Wa_worstPost_0 : decode c_Wa_worstPost 0 = .ok (.aload_n 0, 1) := by decide +kernel
theorem d_Wa_worstPost_1 : decode c_Wa_worstPost 1 = .ok (.getfield 52, 3) := by decide +kernel
theorem d_Wa_worstPost_4 : decode c_Wa_worstPost 4 = .ok (.ifCond .eq 11, 3) := by decide +kernel
theorem d_Wa_worstPost_7 : decode c_Wa_worstPost 7 = .ok (.aload_n 0, 1) := by decide +kernel
theorem d_Wa_worstPost_8 : decode c_Wa_worstPost 8 = .ok (.getfield 52, 3) := by decide +kernel
theorem d_Wa_worstPost_11 : decode c_Wa_worstPost 11 = .ok (.invokestatic 162, 3) := by decide +kernel
theorem d_Wa_worstPost_14 : decode c_Wa_worstPost 14 = .ok (.ireturn, 1) := by decide +kernel
theorem d_Wa_worstPost_15 : decode c_Wa_worstPost 15 = .ok (.bipush (-9), 2) := by decide +kernel
theorem d_Wa_worstPost_17 : decode c_Wa_worstPost 17 = .ok (.istore_n 1, 1) := by decide +kernel
theorem d_Wa_worstPost_18 : decode c_Wa_worstPost 18 = .ok (.iconst (-1), 1) := by decide +kernel
theorem d_Wa_worstPost_19 : decode c_Wa_worstPost 19 = .ok (.istore_n 2, 1) := by decide +kernel
theorem d_Wa_worstPost_20 : decode c_Wa_worstPost 20 = .ok (.iconst 0, 1) := by decide +kernel
theorem d_Wa_worstPost_21 : decode c_Wa_worstPost 21 = .ok (.istore_n 3, 1) := by decide +kernel
theorem d_Wa_worstPost_22 : decode c_Wa_worstPost 22 = .ok (.iload_n 3, 1) := by decide +kernel
theorem d_Wa_worstPost_23 : decode c_Wa_worstPost 23 = .ok (.bipush 16, 2) := by decide +kernel
theorem d_Wa_worstPost_25 : decode c_Wa_worstPost 25 = .ok (.if_icmp .ge 37, 3) := by decide +kernel
theorem d_Wa_worstPost_28 : decode c_Wa_worstPost 28 = .ok (.aload_n 0, 1) := by decide +kernel
theorem d_Wa_worstPost_29 : decode c_Wa_worstPost 29 = .ok (.getfield 46, 3) := by decide +kernel
theorem d_Wa_worstPost_32 : decode c_Wa_worstPost 32 = .ok (.iload_n 3, 1) := by decide +kernel
theorem d_Wa_worstPost_33 : decode c_Wa_worstPost 33 = .ok (.ishr, 1) := by decide +kernel
theorem d_Wa_worstPost_34 : decode c_Wa_worstPost 34 = .ok (.iconst 1, 1) := by decide +kernel
theorem d_Wa_worstPost_35 : decode c_Wa_worstPost 35 = .ok (.iand, 1) := by decide +kernel
theorem d_Wa_worstPost_36 : decode c_Wa_worstPost 36 = .ok (.ifCond .eq 20, 3) := by decide +kernel
theorem d_Wa_worstPost_39 : decode c_Wa_worstPost 39 = .ok (.aload_n 0, 1) := by decide +kernel
theorem d_Wa_worstPost_40 : decode c_Wa_worstPost 40 = .ok (.iload_n 3, 1) := by decide +kernel
theorem d_Wa_worstPost_41 : decode c_Wa_worstPost 41 = .ok (.invokevirtual 167, 3) := by decide +kernel
theorem d_Wa_worstPost_44 : decode c_Wa_worstPost 44 = .ok (.iload_n 2, 1) := by decide +kernel
theorem d_Wa_worstPost_45 : decode c_Wa_worstPost 45 = .ok (.if_icmp .le 11, 3) := by decide +kernel
theorem d_Wa_worstPost_48 : decode c_Wa_worstPost 48 = .ok (.iload_n 3, 1) := by decide +kernel
theorem d_Wa_worstPost_49 : decode c_Wa_worstPost 49 = .ok (.istore_n 1, 1) := by decide +kernel
theorem d_Wa_worstPost_50 : decode c_Wa_worstPost 50 = .ok (.aload_n 0, 1) := by decide +kernel
theorem d_Wa_worstPost_51 : decode c_Wa_worstPost 51 = .ok (.iload_n 3, 1) := by decide +kernel
theorem d_Wa_worstPost_52 : decode c_Wa_worstPost 52 = .ok (.invokevirtual 167, 3) := by decide +kernel
theorem d_Wa_worstPost_55 : decode c_Wa_worstPost 55 = .ok (.istore_n 2, 1) := by decide +kernel
theorem d_Wa_worstPost_56 : decode c_Wa_worstPost 56 = .ok (.iinc 3 1, 3) := by decide +kernel
theorem d_Wa_worstPost_59 : decode c_Wa_worstPost 59 = .ok (.goto (-37), 3) := by decide +kernel
theorem d_Wa_worstPost_62 : decode c_Wa_worstPost 62 = .ok (.iload_n 1, 1) := by decide +kernel
theorem d_Wa_worstPost_63 : decode c_Wa_worstPost 63 = .ok (.ireturn, 1) := by decide +kernel
theorem d_Wa_bestForThief_0 : decode c_Wa_bestForThief 0 = .ok (.bipush (-9), 2) := by decide +kernel
theorem d_Wa_bestForThief_2 : decode c_Wa_bestForThief 2 = .ok (.istore_n 1, 1) := by decide +kernel
theorem d_Wa_bestForThief_3 : decode c_Wa_bestForThief 3 = .ok (.iconst 0, 1) := by decide +kernel
theorem d_Wa_bestForThief_4 : decode c_Wa_bestForThief 4 = .ok (.istore_n 2, 1) := by decide +kernel
theorem d_Wa_bestForThief_5 : decode c_Wa_bestForThief 5 = .ok (.iconst 0, 1) := by decide +kernel
theorem d_Wa_bestForThief_6 : decode c_Wa_bestForThief 6 = .ok (.istore_n 3, 1) := by decide +kernel
theorem d_Wa_bestForThief_7 : decode c_Wa_bestForThief 7 = .ok (.iload_n 3, 1) := by decide +kernel
theorem d_Wa_bestForThief_8 : decode c_Wa_bestForThief 8 = .ok (.bipush 16, 2) := by decide +kernel
theorem d_Wa_bestForThief_10 : decode c_Wa_bestForThief 10 = .ok (.if_icmp .ge 37, 3) := by decide +kernel
theorem d_Wa_bestForThief_13 : decode c_Wa_bestForThief 13 = .ok (.aload_n 0, 1) := by decide +kernel
theorem d_Wa_bestForThief_14 : decode c_Wa_bestForThief 14 = .ok (.getfield 46, 3) := by decide +kernel
theorem d_Wa_bestForThief_17 : decode c_Wa_bestForThief 17 = .ok (.iload_n 3, 1) := by decide +kernel
theorem d_Wa_bestForThief_18 : decode c_Wa_bestForThief 18 = .ok (.ishr, 1) := by decide +kernel
theorem d_Wa_bestForThief_19 : decode c_Wa_bestForThief 19 = .ok (.iconst 1, 1) := by decide +kernel
theorem d_Wa_bestForThief_20 : decode c_Wa_bestForThief 20 = .ok (.iand, 1) := by decide +kernel
theorem d_Wa_bestForThief_21 : decode c_Wa_bestForThief 21 = .ok (.ifCond .eq 20, 3) := by decide +kernel
theorem d_Wa_bestForThief_24 : decode c_Wa_bestForThief 24 = .ok (.aload_n 0, 1) := by decide +kernel
theorem d_Wa_bestForThief_25 : decode c_Wa_bestForThief 25 = .ok (.iload_n 3, 1) := by decide +kernel
theorem d_Wa_bestForThief_26 : decode c_Wa_bestForThief 26 = .ok (.invokevirtual 170, 3) := by decide +kernel
theorem d_Wa_bestForThief_29 : decode c_Wa_bestForThief 29 = .ok (.iload_n 2, 1) := by decide +kernel
theorem d_Wa_bestForThief_30 : decode c_Wa_bestForThief 30 = .ok (.if_icmp .le 11, 3) := by decide +kernel
theorem d_Wa_bestForThief_33 : decode c_Wa_bestForThief 33 = .ok (.iload_n 3, 1) := by decide +kernel
theorem d_Wa_bestForThief_34 : decode c_Wa_bestForThief 34 = .ok (.istore_n 1, 1) := by decide +kernel
theorem d_Wa_bestForThief_35 : decode c_Wa_bestForThief 35 = .ok (.aload_n 0, 1) := by decide +kernel
theorem d_Wa_bestForThief_36 : decode c_Wa_bestForThief 36 = .ok (.iload_n 3, 1) := by decide +kernel
theorem d_Wa_bestForThief_37 : decode c_Wa_bestForThief 37 = .ok (.invokevirtual 170, 3) := by decide +kernel
theorem d_Wa_bestForThief_40 : decode c_Wa_bestForThief 40 = .ok (.istore_n 2, 1) := by decide +kernel
theorem d_Wa_bestForThief_41 : decode c_Wa_bestForThief 41 = .ok (.iinc 3 1, 3) := by decide +kernel
theorem d_Wa_bestForThief_44 : decode c_Wa_bestForThief 44 = .ok (.goto (-37), 3) := by decide +kernel
theorem d_Wa_bestForThief_47 : decode c_Wa_bestForThief 47 = .ok (.iload_n 1, 1) := by decide +kernel
theorem d_Wa_bestForThief_48 : decode c_Wa_bestForThief 48 = .ok (.ireturn, 1) := by decide +kernel
theorem d_Wa_longestIdle_0 : decode c_Wa_longestIdle 0 = .ok (.aload_n 0, 1) := by decide +kernel
theorem d_Wa_longestIdle_1 : decode c_Wa_longestIdle 1 = .ok (.getfield 52, 3) := by decide +kernel
theorem d_Wa_longestIdle_4 : decode c_Wa_longestIdle 4 = .ok (.ifCond .eq 6, 3) := by decide +kernel
theorem d_Wa_longestIdle_7 : decode c_Wa_longestIdle 7 = .ok (.bipush (-9), 2) := by decide +kernel
theorem d_Wa_longestIdle_9 : decode c_Wa_longestIdle 9 = .ok (.ireturn, 1) := by decide +kernel
theorem d_Wa_longestIdle_10 : decode c_Wa_longestIdle 10 = .ok (.iconst 0, 1) := by decide +kernel
theorem d_Wa_longestIdle_11 : decode c_Wa_longestIdle 11 = .ok (.istore_n 1, 1) := by decide +kernel
theorem d_Wa_longestIdle_12 : decode c_Wa_longestIdle 12 = .ok (.iconst 0, 1) := by decide +kernel
theorem d_Wa_longestIdle_13 : decode c_Wa_longestIdle 13 = .ok (.istore_n 2, 1) := by decide +kernel
theorem d_Wa_longestIdle_14 : decode c_Wa_longestIdle 14 = .ok (.iload_n 2, 1) := by decide +kernel
theorem d_Wa_longestIdle_15 : decode c_Wa_longestIdle 15 = .ok (.bipush 16, 2) := by decide +kernel
theorem d_Wa_longestIdle_17 : decode c_Wa_longestIdle 17 = .ok (.if_icmp .ge 35, 3) := by decide +kernel
theorem d_Wa_longestIdle_20 : decode c_Wa_longestIdle 20 = .ok (.iload_n 1, 1) := by decide +kernel
theorem d_Wa_longestIdle_21 : decode c_Wa_longestIdle 21 = .ok (.aload_n 0, 1) := by decide +kernel
theorem d_Wa_longestIdle_22 : decode c_Wa_longestIdle 22 = .ok (.getfield 46, 3) := by decide +kernel
theorem d_Wa_longestIdle_25 : decode c_Wa_longestIdle 25 = .ok (.iload_n 2, 1) := by decide +kernel
theorem d_Wa_longestIdle_26 : decode c_Wa_longestIdle 26 = .ok (.ishr, 1) := by decide +kernel
theorem d_Wa_longestIdle_27 : decode c_Wa_longestIdle 27 = .ok (.iconst 1, 1) := by decide +kernel
theorem d_Wa_longestIdle_28 : decode c_Wa_longestIdle 28 = .ok (.iand, 1) := by decide +kernel
theorem d_Wa_longestIdle_29 : decode c_Wa_longestIdle 29 = .ok (.ifCond .eq 12, 3) := by decide +kernel
theorem d_Wa_longestIdle_32 : decode c_Wa_longestIdle 32 = .ok (.aload_n 0, 1) := by decide +kernel
theorem d_Wa_longestIdle_33 : decode c_Wa_longestIdle 33 = .ok (.getfield 15, 3) := by decide +kernel
theorem d_Wa_longestIdle_36 : decode c_Wa_longestIdle 36 = .ok (.iload_n 2, 1) := by decide +kernel
theorem d_Wa_longestIdle_37 : decode c_Wa_longestIdle 37 = .ok (.iaload, 1) := by decide +kernel
theorem d_Wa_longestIdle_38 : decode c_Wa_longestIdle 38 = .ok (.goto 4, 3) := by decide +kernel
theorem d_Wa_longestIdle_41 : decode c_Wa_longestIdle 41 = .ok (.iconst 0, 1) := by decide +kernel
theorem d_Wa_longestIdle_42 : decode c_Wa_longestIdle 42 = .ok (.invokestatic 68, 3) := by decide +kernel
theorem d_Wa_longestIdle_45 : decode c_Wa_longestIdle 45 = .ok (.istore_n 1, 1) := by decide +kernel
theorem d_Wa_longestIdle_46 : decode c_Wa_longestIdle 46 = .ok (.iinc 2 1, 3) := by decide +kernel
theorem d_Wa_longestIdle_49 : decode c_Wa_longestIdle 49 = .ok (.goto (-35), 3) := by decide +kernel
theorem d_Wa_longestIdle_52 : decode c_Wa_longestIdle 52 = .ok (.iload_n 1, 1) := by decide +kernel
theorem d_Wa_longestIdle_53 : decode c_Wa_longestIdle 53 = .ok (.ireturn, 1) := by decide +kernel
