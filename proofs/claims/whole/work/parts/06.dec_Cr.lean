/-! decode rows (by program) -/
theorem d_Cr_init_0 : decode c_Cr_init 0 = .ok (.aload_n 0, 1) := by decide +kernel
theorem d_Cr_init_1 : decode c_Cr_init 1 = .ok (.invokespecial 3, 3) := by decide +kernel
theorem d_Cr_init_4 : decode c_Cr_init 4 = .ok (.aload_n 0, 1) := by decide +kernel
theorem d_Cr_init_5 : decode c_Cr_init 5 = .ok (.iconst 0, 1) := by decide +kernel
theorem d_Cr_init_6 : decode c_Cr_init 6 = .ok (.putfield 9, 3) := by decide +kernel
theorem d_Cr_init_9 : decode c_Cr_init 9 = .ok (.aload_n 0, 1) := by decide +kernel
theorem d_Cr_init_10 : decode c_Cr_init 10 = .ok (.iconst 0, 1) := by decide +kernel
theorem d_Cr_init_11 : decode c_Cr_init 11 = .ok (.putfield 15, 3) := by decide +kernel
theorem d_Cr_init_14 : decode c_Cr_init 14 = .ok (.aload_n 0, 1) := by decide +kernel
theorem d_Cr_init_15 : decode c_Cr_init 15 = .ok (.bipush 8, 2) := by decide +kernel
theorem d_Cr_init_17 : decode c_Cr_init 17 = .ok (.anewarray 18, 3) := by decide +kernel
theorem d_Cr_init_20 : decode c_Cr_init 20 = .ok (.putfield 20, 3) := by decide +kernel
theorem d_Cr_init_23 : decode c_Cr_init 23 = .ok (.aload_n 0, 1) := by decide +kernel
theorem d_Cr_init_24 : decode c_Cr_init 24 = .ok (.iconst 1, 1) := by decide +kernel
theorem d_Cr_init_25 : decode c_Cr_init 25 = .ok (.putfield 24, 3) := by decide +kernel
theorem d_Cr_init_28 : decode c_Cr_init 28 = .ok (.aload_n 0, 1) := by decide +kernel
theorem d_Cr_init_29 : decode c_Cr_init 29 = .ok (.iconst 0, 1) := by decide +kernel
theorem d_Cr_init_30 : decode c_Cr_init 30 = .ok (.putfield 28, 3) := by decide +kernel
theorem d_Cr_init_33 : decode c_Cr_init 33 = .ok (.aload_n 0, 1) := by decide +kernel
theorem d_Cr_init_34 : decode c_Cr_init 34 = .ok (.aload_n 1, 1) := by decide +kernel
theorem d_Cr_init_35 : decode c_Cr_init 35 = .ok (.putfield 31, 3) := by decide +kernel
theorem d_Cr_init_38 : decode c_Cr_init 38 = .ok (.iconst 0, 1) := by decide +kernel
theorem d_Cr_init_39 : decode c_Cr_init 39 = .ok (.istore_n 2, 1) := by decide +kernel
theorem d_Cr_init_40 : decode c_Cr_init 40 = .ok (.iload_n 2, 1) := by decide +kernel
theorem d_Cr_init_41 : decode c_Cr_init 41 = .ok (.bipush 8, 2) := by decide +kernel
theorem d_Cr_init_43 : decode c_Cr_init 43 = .ok (.if_icmp .ge 22, 3) := by decide +kernel
theorem d_Cr_init_46 : decode c_Cr_init 46 = .ok (.aload_n 0, 1) := by decide +kernel
theorem d_Cr_init_47 : decode c_Cr_init 47 = .ok (.getfield 20, 3) := by decide +kernel
theorem d_Cr_init_50 : decode c_Cr_init 50 = .ok (.iload_n 2, 1) := by decide +kernel
theorem d_Cr_init_51 : decode c_Cr_init 51 = .ok (.new 18, 3) := by decide +kernel
theorem d_Cr_init_54 : decode c_Cr_init 54 = .ok (.dup, 1) := by decide +kernel
theorem d_Cr_init_55 : decode c_Cr_init 55 = .ok (.invokespecial 35, 3) := by decide +kernel
theorem d_Cr_init_58 : decode c_Cr_init 58 = .ok (.aastore, 1) := by decide +kernel
theorem d_Cr_init_59 : decode c_Cr_init 59 = .ok (.iinc 2 1, 3) := by decide +kernel
theorem d_Cr_init_62 : decode c_Cr_init 62 = .ok (.goto (-22), 3) := by decide +kernel
theorem d_Cr_init_65 : decode c_Cr_init 65 = .ok (.return_, 1) := by decide +kernel
theorem d_Cr_has_0 : decode c_Cr_has 0 = .ok (.iload_n 1, 1) := by decide +kernel
theorem d_Cr_has_1 : decode c_Cr_has 1 = .ok (.ifCond .lt 15, 3) := by decide +kernel
theorem d_Cr_has_4 : decode c_Cr_has 4 = .ok (.iload_n 1, 1) := by decide +kernel
theorem d_Cr_has_5 : decode c_Cr_has 5 = .ok (.aload_n 0, 1) := by decide +kernel
theorem d_Cr_has_6 : decode c_Cr_has 6 = .ok (.getfield 9, 3) := by decide +kernel
theorem d_Cr_has_9 : decode c_Cr_has 9 = .ok (.if_icmp .ge 7, 3) := by decide +kernel
theorem d_Cr_has_12 : decode c_Cr_has 12 = .ok (.iconst 1, 1) := by decide +kernel
theorem d_Cr_has_13 : decode c_Cr_has 13 = .ok (.goto 4, 3) := by decide +kernel
theorem d_Cr_has_16 : decode c_Cr_has 16 = .ok (.iconst 0, 1) := by decide +kernel
theorem d_Cr_has_17 : decode c_Cr_has 17 = .ok (.ireturn, 1) := by decide +kernel
theorem d_Cr_lacks_0 : decode c_Cr_lacks 0 = .ok (.aload_n 0, 1) := by decide +kernel
theorem d_Cr_lacks_1 : decode c_Cr_lacks 1 = .ok (.getfield 20, 3) := by decide +kernel
theorem d_Cr_lacks_4 : decode c_Cr_lacks 4 = .ok (.iload_n 1, 1) := by decide +kernel
theorem d_Cr_lacks_5 : decode c_Cr_lacks 5 = .ok (.aaload, 1) := by decide +kernel
theorem d_Cr_lacks_6 : decode c_Cr_lacks 6 = .ok (.getfield 36, 3) := by decide +kernel
theorem d_Cr_lacks_9 : decode c_Cr_lacks 9 = .ok (.ireturn, 1) := by decide +kernel
theorem d_Cr_get_0 : decode c_Cr_get 0 = .ok (.aload_n 0, 1) := by decide +kernel
theorem d_Cr_get_1 : decode c_Cr_get 1 = .ok (.getfield 20, 3) := by decide +kernel
theorem d_Cr_get_4 : decode c_Cr_get 4 = .ok (.iload_n 1, 1) := by decide +kernel
theorem d_Cr_get_5 : decode c_Cr_get 5 = .ok (.aaload, 1) := by decide +kernel
theorem d_Cr_get_6 : decode c_Cr_get 6 = .ok (.areturn, 1) := by decide +kernel
theorem d_Cr_changing_0 : decode c_Cr_changing 0 = .ok (.aload_n 0, 1) := by decide +kernel
theorem d_Cr_changing_1 : decode c_Cr_changing 1 = .ok (.iconst 1, 1) := by decide +kernel
theorem d_Cr_changing_2 : decode c_Cr_changing 2 = .ok (.putfield 24, 3) := by decide +kernel
theorem d_Cr_changing_5 : decode c_Cr_changing 5 = .ok (.aload_n 0, 1) := by decide +kernel
theorem d_Cr_changing_6 : decode c_Cr_changing 6 = .ok (.getfield 20, 3) := by decide +kernel
theorem d_Cr_changing_9 : decode c_Cr_changing 9 = .ok (.iload_n 1, 1) := by decide +kernel
theorem d_Cr_changing_10 : decode c_Cr_changing 10 = .ok (.aaload, 1) := by decide +kernel
theorem d_Cr_changing_11 : decode c_Cr_changing 11 = .ok (.areturn, 1) := by decide +kernel
theorem d_Cr_add_0 : decode c_Cr_add 0 = .ok (.aload_n 0, 1) := by decide +kernel
theorem d_Cr_add_1 : decode c_Cr_add 1 = .ok (.getfield 9, 3) := by decide +kernel
theorem d_Cr_add_4 : decode c_Cr_add 4 = .ok (.istore 4, 2) := by decide +kernel
theorem d_Cr_add_6 : decode c_Cr_add 6 = .ok (.aload_n 0, 1) := by decide +kernel
theorem d_Cr_add_7 : decode c_Cr_add 7 = .ok (.dup, 1) := by decide +kernel
theorem d_Cr_add_8 : decode c_Cr_add 8 = .ok (.getfield 9, 3) := by decide +kernel
theorem d_Cr_add_11 : decode c_Cr_add 11 = .ok (.iconst 1, 1) := by decide +kernel
theorem d_Cr_add_12 : decode c_Cr_add 12 = .ok (.iadd, 1) := by decide +kernel
theorem d_Cr_add_13 : decode c_Cr_add 13 = .ok (.putfield 9, 3) := by decide +kernel
theorem d_Cr_add_16 : decode c_Cr_add 16 = .ok (.aload_n 0, 1) := by decide +kernel
theorem d_Cr_add_17 : decode c_Cr_add 17 = .ok (.iload 4, 2) := by decide +kernel
theorem d_Cr_add_19 : decode c_Cr_add 19 = .ok (.invokevirtual 39, 3) := by decide +kernel
theorem d_Cr_add_22 : decode c_Cr_add 22 = .ok (.astore 5, 2) := by decide +kernel
theorem d_Cr_add_24 : decode c_Cr_add 24 = .ok (.aload 5, 2) := by decide +kernel
theorem d_Cr_add_26 : decode c_Cr_add 26 = .ok (.iload_n 1, 1) := by decide +kernel
theorem d_Cr_add_27 : decode c_Cr_add 27 = .ok (.putfield 43, 3) := by decide +kernel
theorem d_Cr_add_30 : decode c_Cr_add 30 = .ok (.aload 5, 2) := by decide +kernel
theorem d_Cr_add_32 : decode c_Cr_add 32 = .ok (.iload_n 1, 1) := by decide +kernel
theorem d_Cr_add_33 : decode c_Cr_add 33 = .ok (.iconst 1, 1) := by decide +kernel
theorem d_Cr_add_34 : decode c_Cr_add 34 = .ok (.if_icmp .eq 8, 3) := by decide +kernel
theorem d_Cr_add_37 : decode c_Cr_add 37 = .ok (.iload_n 1, 1) := by decide +kernel
theorem d_Cr_add_38 : decode c_Cr_add 38 = .ok (.iconst 2, 1) := by decide +kernel
theorem d_Cr_add_39 : decode c_Cr_add 39 = .ok (.if_icmp .ne 7, 3) := by decide +kernel
theorem d_Cr_add_42 : decode c_Cr_add 42 = .ok (.iload_n 2, 1) := by decide +kernel
theorem d_Cr_add_43 : decode c_Cr_add 43 = .ok (.goto 4, 3) := by decide +kernel
theorem d_Cr_add_46 : decode c_Cr_add 46 = .ok (.iconst 1, 1) := by decide +kernel
theorem d_Cr_add_47 : decode c_Cr_add 47 = .ok (.putfield 46, 3) := by decide +kernel
theorem d_Cr_add_50 : decode c_Cr_add 50 = .ok (.aload 5, 2) := by decide +kernel
theorem d_Cr_add_52 : decode c_Cr_add 52 = .ok (.iload_n 1, 1) := by decide +kernel
theorem d_Cr_add_53 : decode c_Cr_add 53 = .ok (.iconst 2, 1) := by decide +kernel
theorem d_Cr_add_54 : decode c_Cr_add 54 = .ok (.if_icmp .ne 7, 3) := by decide +kernel
theorem d_Cr_add_57 : decode c_Cr_add 57 = .ok (.iload_n 3, 1) := by decide +kernel
theorem d_Cr_add_58 : decode c_Cr_add 58 = .ok (.goto 4, 3) := by decide +kernel
theorem d_Cr_add_61 : decode c_Cr_add 61 = .ok (.iconst 0, 1) := by decide +kernel
theorem d_Cr_add_62 : decode c_Cr_add 62 = .ok (.putfield 49, 3) := by decide +kernel
theorem d_Cr_add_65 : decode c_Cr_add 65 = .ok (.aload 5, 2) := by decide +kernel
theorem d_Cr_add_67 : decode c_Cr_add 67 = .ok (.iload_n 1, 1) := by decide +kernel
theorem d_Cr_add_68 : decode c_Cr_add 68 = .ok (.iconst 3, 1) := by decide +kernel
theorem d_Cr_add_69 : decode c_Cr_add 69 = .ok (.if_icmp .ne 7, 3) := by decide +kernel
theorem d_Cr_add_72 : decode c_Cr_add 72 = .ok (.iload_n 2, 1) := by decide +kernel
theorem d_Cr_add_73 : decode c_Cr_add 73 = .ok (.goto 4, 3) := by decide +kernel
theorem d_Cr_add_76 : decode c_Cr_add 76 = .ok (.iconst 0, 1) := by decide +kernel
theorem d_Cr_add_77 : decode c_Cr_add 77 = .ok (.putfield 52, 3) := by decide +kernel
theorem d_Cr_add_80 : decode c_Cr_add 80 = .ok (.iload 4, 2) := by decide +kernel
theorem d_Cr_add_82 : decode c_Cr_add 82 = .ok (.ireturn, 1) := by decide +kernel
theorem d_Cr_refresh_0 : decode c_Cr_refresh 0 = .ok (.aload_n 0, 1) := by decide +kernel
theorem d_Cr_refresh_1 : decode c_Cr_refresh 1 = .ok (.getfield 24, 3) := by decide +kernel
theorem d_Cr_refresh_4 : decode c_Cr_refresh 4 = .ok (.ifCond .ne 18, 3) := by decide +kernel
theorem d_Cr_refresh_7 : decode c_Cr_refresh 7 = .ok (.aload_n 0, 1) := by decide +kernel
theorem d_Cr_refresh_8 : decode c_Cr_refresh 8 = .ok (.getfield 28, 3) := by decide +kernel
theorem d_Cr_refresh_11 : decode c_Cr_refresh 11 = .ok (.aload_n 0, 1) := by decide +kernel
theorem d_Cr_refresh_12 : decode c_Cr_refresh 12 = .ok (.getfield 31, 3) := by decide +kernel
theorem d_Cr_refresh_15 : decode c_Cr_refresh 15 = .ok (.getfield 55, 3) := by decide +kernel
theorem d_Cr_refresh_18 : decode c_Cr_refresh 18 = .ok (.if_icmp .ne 4, 3) := by decide +kernel
theorem d_Cr_refresh_21 : decode c_Cr_refresh 21 = .ok (.return_, 1) := by decide +kernel
theorem d_Cr_refresh_22 : decode c_Cr_refresh 22 = .ok (.aload_n 0, 1) := by decide +kernel
theorem d_Cr_refresh_23 : decode c_Cr_refresh 23 = .ok (.getfield 31, 3) := by decide +kernel
theorem d_Cr_refresh_26 : decode c_Cr_refresh 26 = .ok (.invokevirtual 60, 3) := by decide +kernel
theorem d_Cr_refresh_29 : decode c_Cr_refresh 29 = .ok (.aload_n 0, 1) := by decide +kernel
theorem d_Cr_refresh_30 : decode c_Cr_refresh 30 = .ok (.iconst 0, 1) := by decide +kernel
theorem d_Cr_refresh_31 : decode c_Cr_refresh 31 = .ok (.putfield 15, 3) := by decide +kernel
theorem d_Cr_refresh_34 : decode c_Cr_refresh 34 = .ok (.iconst 0, 1) := by decide +kernel
theorem d_Cr_refresh_35 : decode c_Cr_refresh 35 = .ok (.istore_n 1, 1) := by decide +kernel
theorem d_Cr_refresh_36 : decode c_Cr_refresh 36 = .ok (.iload_n 1, 1) := by decide +kernel
theorem d_Cr_refresh_37 : decode c_Cr_refresh 37 = .ok (.aload_n 0, 1) := by decide +kernel
theorem d_Cr_refresh_38 : decode c_Cr_refresh 38 = .ok (.getfield 9, 3) := by decide +kernel
theorem d_Cr_refresh_41 : decode c_Cr_refresh 41 = .ok (.if_icmp .ge 50, 3) := by decide +kernel
theorem d_Cr_refresh_44 : decode c_Cr_refresh 44 = .ok (.aload_n 0, 1) := by decide +kernel
theorem d_Cr_refresh_45 : decode c_Cr_refresh 45 = .ok (.getfield 20, 3) := by decide +kernel
theorem d_Cr_refresh_48 : decode c_Cr_refresh 48 = .ok (.iload_n 1, 1) := by decide +kernel
theorem d_Cr_refresh_49 : decode c_Cr_refresh 49 = .ok (.aaload, 1) := by decide +kernel
theorem d_Cr_refresh_50 : decode c_Cr_refresh 50 = .ok (.aload_n 0, 1) := by decide +kernel
theorem d_Cr_refresh_51 : decode c_Cr_refresh 51 = .ok (.getfield 31, 3) := by decide +kernel
theorem d_Cr_refresh_54 : decode c_Cr_refresh 54 = .ok (.invokevirtual 63, 3) := by decide +kernel
theorem d_Cr_refresh_57 : decode c_Cr_refresh 57 = .ok (.aload_n 0, 1) := by decide +kernel
theorem d_Cr_refresh_58 : decode c_Cr_refresh 58 = .ok (.dup, 1) := by decide +kernel
theorem d_Cr_refresh_59 : decode c_Cr_refresh 59 = .ok (.getfield 15, 3) := by decide +kernel
theorem d_Cr_refresh_62 : decode c_Cr_refresh 62 = .ok (.aload_n 0, 1) := by decide +kernel
theorem d_Cr_refresh_63 : decode c_Cr_refresh 63 = .ok (.getfield 20, 3) := by decide +kernel
theorem d_Cr_refresh_66 : decode c_Cr_refresh 66 = .ok (.iload_n 1, 1) := by decide +kernel
theorem d_Cr_refresh_67 : decode c_Cr_refresh 67 = .ok (.aaload, 1) := by decide +kernel
theorem d_Cr_refresh_68 : decode c_Cr_refresh 68 = .ok (.getfield 67, 3) := by decide +kernel
theorem d_Cr_refresh_71 : decode c_Cr_refresh 71 = .ok (.ifCond .eq 9, 3) := by decide +kernel
theorem d_Cr_refresh_74 : decode c_Cr_refresh 74 = .ok (.iconst 1, 1) := by decide +kernel
theorem d_Cr_refresh_75 : decode c_Cr_refresh 75 = .ok (.iload_n 1, 1) := by decide +kernel
theorem d_Cr_refresh_76 : decode c_Cr_refresh 76 = .ok (.ishl, 1) := by decide +kernel
theorem d_Cr_refresh_77 : decode c_Cr_refresh 77 = .ok (.goto 4, 3) := by decide +kernel
theorem d_Cr_refresh_80 : decode c_Cr_refresh 80 = .ok (.iconst 0, 1) := by decide +kernel
theorem d_Cr_refresh_81 : decode c_Cr_refresh 81 = .ok (.ior, 1) := by decide +kernel
theorem d_Cr_refresh_82 : decode c_Cr_refresh 82 = .ok (.putfield 15, 3) := by decide +kernel
theorem d_Cr_refresh_85 : decode c_Cr_refresh 85 = .ok (.iinc 1 1, 3) := by decide +kernel
theorem d_Cr_refresh_88 : decode c_Cr_refresh 88 = .ok (.goto (-52), 3) := by decide +kernel
theorem d_Cr_refresh_91 : decode c_Cr_refresh 91 = .ok (.aload_n 0, 1) := by decide +kernel
theorem d_Cr_refresh_92 : decode c_Cr_refresh 92 = .ok (.iconst 0, 1) := by decide +kernel
theorem d_Cr_refresh_93 : decode c_Cr_refresh 93 = .ok (.putfield 24, 3) := by decide +kernel
theorem d_Cr_refresh_96 : decode c_Cr_refresh 96 = .ok (.aload_n 0, 1) := by decide +kernel
theorem d_Cr_refresh_97 : decode c_Cr_refresh 97 = .ok (.aload_n 0, 1) := by decide +kernel
theorem d_Cr_refresh_98 : decode c_Cr_refresh 98 = .ok (.getfield 31, 3) := by decide +kernel
theorem d_Cr_refresh_101 : decode c_Cr_refresh 101 = .ok (.getfield 55, 3) := by decide +kernel
theorem d_Cr_refresh_104 : decode c_Cr_refresh 104 = .ok (.putfield 28, 3) := by decide +kernel
theorem d_Cr_refresh_107 : decode c_Cr_refresh 107 = .ok (.return_, 1) := by decide +kernel
theorem d_Cr_goes_0 : decode c_Cr_goes 0 = .ok (.aload_n 0, 1) := by decide +kernel
theorem d_Cr_goes_1 : decode c_Cr_goes 1 = .ok (.getfield 15, 3) := by decide +kernel
theorem d_Cr_goes_4 : decode c_Cr_goes 4 = .ok (.iload_n 1, 1) := by decide +kernel
theorem d_Cr_goes_5 : decode c_Cr_goes 5 = .ok (.ishr, 1) := by decide +kernel
theorem d_Cr_goes_6 : decode c_Cr_goes 6 = .ok (.iconst 1, 1) := by decide +kernel
theorem d_Cr_goes_7 : decode c_Cr_goes 7 = .ok (.iand, 1) := by decide +kernel
theorem d_Cr_goes_8 : decode c_Cr_goes 8 = .ok (.ifCond .eq 7, 3) := by decide +kernel
theorem d_Cr_goes_11 : decode c_Cr_goes 11 = .ok (.iconst 1, 1) := by decide +kernel
theorem d_Cr_goes_12 : decode c_Cr_goes 12 = .ok (.goto 4, 3) := by decide +kernel
theorem d_Cr_goes_15 : decode c_Cr_goes 15 = .ok (.iconst 0, 1) := by decide +kernel
theorem d_Cr_goes_16 : decode c_Cr_goes 16 = .ok (.ireturn, 1) := by decide +kernel
theorem d_Cr_jointOf_0 : decode c_Cr_jointOf 0 = .ok (.iconst 1, 1) := by decide +kernel
theorem d_Cr_jointOf_1 : decode c_Cr_jointOf 1 = .ok (.istore_n 2, 1) := by decide +kernel
theorem d_Cr_jointOf_2 : decode c_Cr_jointOf 2 = .ok (.iconst 0, 1) := by decide +kernel
theorem d_Cr_jointOf_3 : decode c_Cr_jointOf 3 = .ok (.istore_n 3, 1) := by decide +kernel
theorem d_Cr_jointOf_4 : decode c_Cr_jointOf 4 = .ok (.iload_n 3, 1) := by decide +kernel
theorem d_Cr_jointOf_5 : decode c_Cr_jointOf 5 = .ok (.aload_n 0, 1) := by decide +kernel
theorem d_Cr_jointOf_6 : decode c_Cr_jointOf 6 = .ok (.getfield 9, 3) := by decide +kernel
theorem d_Cr_jointOf_9 : decode c_Cr_jointOf 9 = .ok (.if_icmp .ge 77, 3) := by decide +kernel
theorem d_Cr_jointOf_12 : decode c_Cr_jointOf 12 = .ok (.iload_n 1, 1) := by decide +kernel
theorem d_Cr_jointOf_13 : decode c_Cr_jointOf 13 = .ok (.iload_n 3, 1) := by decide +kernel
theorem d_Cr_jointOf_14 : decode c_Cr_jointOf 14 = .ok (.ishr, 1) := by decide +kernel
theorem d_Cr_jointOf_15 : decode c_Cr_jointOf 15 = .ok (.iconst 1, 1) := by decide +kernel
theorem d_Cr_jointOf_16 : decode c_Cr_jointOf 16 = .ok (.iand, 1) := by decide +kernel
theorem d_Cr_jointOf_17 : decode c_Cr_jointOf 17 = .ok (.ifCond .ne 6, 3) := by decide +kernel
theorem d_Cr_jointOf_20 : decode c_Cr_jointOf 20 = .ok (.goto 60, 3) := by decide +kernel
theorem d_Cr_jointOf_23 : decode c_Cr_jointOf 23 = .ok (.aload_n 0, 1) := by decide +kernel
theorem d_Cr_jointOf_24 : decode c_Cr_jointOf 24 = .ok (.getfield 20, 3) := by decide +kernel
theorem d_Cr_jointOf_27 : decode c_Cr_jointOf 27 = .ok (.iload_n 3, 1) := by decide +kernel
theorem d_Cr_jointOf_28 : decode c_Cr_jointOf 28 = .ok (.aaload, 1) := by decide +kernel
theorem d_Cr_jointOf_29 : decode c_Cr_jointOf 29 = .ok (.getfield 69, 3) := by decide +kernel
theorem d_Cr_jointOf_32 : decode c_Cr_jointOf 32 = .ok (.istore 4, 2) := by decide +kernel
theorem d_Cr_jointOf_34 : decode c_Cr_jointOf 34 = .ok (.iload_n 2, 1) := by decide +kernel
theorem d_Cr_jointOf_35 : decode c_Cr_jointOf 35 = .ok (.i2l, 1) := by decide +kernel
theorem d_Cr_jointOf_36 : decode c_Cr_jointOf 36 = .ok (.iload 4, 2) := by decide +kernel
theorem d_Cr_jointOf_38 : decode c_Cr_jointOf 38 = .ok (.i2l, 1) := by decide +kernel
theorem d_Cr_jointOf_39 : decode c_Cr_jointOf 39 = .ok (.invokestatic 72, 3) := by decide +kernel
theorem d_Cr_jointOf_42 : decode c_Cr_jointOf 42 = .ok (.l2i, 1) := by decide +kernel
theorem d_Cr_jointOf_43 : decode c_Cr_jointOf 43 = .ok (.istore 5, 2) := by decide +kernel
theorem d_Cr_jointOf_45 : decode c_Cr_jointOf 45 = .ok (.iload 5, 2) := by decide +kernel
theorem d_Cr_jointOf_47 : decode c_Cr_jointOf 47 = .ok (.iconst 1, 1) := by decide +kernel
theorem d_Cr_jointOf_48 : decode c_Cr_jointOf 48 = .ok (.if_icmp .lt 11, 3) := by decide +kernel
theorem d_Cr_jointOf_51 : decode c_Cr_jointOf 51 = .ok (.iload 4, 2) := by decide +kernel
theorem d_Cr_jointOf_53 : decode c_Cr_jointOf 53 = .ok (.sipush 14400, 3) := by decide +kernel
theorem d_Cr_jointOf_56 : decode c_Cr_jointOf 56 = .ok (.if_icmp .le 6, 3) := by decide +kernel
theorem d_Cr_jointOf_59 : decode c_Cr_jointOf 59 = .ok (.bipush (-6), 2) := by decide +kernel
theorem d_Cr_jointOf_61 : decode c_Cr_jointOf 61 = .ok (.ireturn, 1) := by decide +kernel
theorem d_Cr_jointOf_62 : decode c_Cr_jointOf 62 = .ok (.iload_n 2, 1) := by decide +kernel
theorem d_Cr_jointOf_63 : decode c_Cr_jointOf 63 = .ok (.iload 5, 2) := by decide +kernel
theorem d_Cr_jointOf_65 : decode c_Cr_jointOf 65 = .ok (.idiv, 1) := by decide +kernel
theorem d_Cr_jointOf_66 : decode c_Cr_jointOf 66 = .ok (.iload 4, 2) := by decide +kernel
theorem d_Cr_jointOf_68 : decode c_Cr_jointOf 68 = .ok (.imul, 1) := by decide +kernel
theorem d_Cr_jointOf_69 : decode c_Cr_jointOf 69 = .ok (.istore_n 2, 1) := by decide +kernel
theorem d_Cr_jointOf_70 : decode c_Cr_jointOf 70 = .ok (.iload_n 2, 1) := by decide +kernel
theorem d_Cr_jointOf_71 : decode c_Cr_jointOf 71 = .ok (.sipush 14400, 3) := by decide +kernel
theorem d_Cr_jointOf_74 : decode c_Cr_jointOf 74 = .ok (.if_icmp .le 6, 3) := by decide +kernel
theorem d_Cr_jointOf_77 : decode c_Cr_jointOf 77 = .ok (.bipush (-6), 2) := by decide +kernel
theorem d_Cr_jointOf_79 : decode c_Cr_jointOf 79 = .ok (.ireturn, 1) := by decide +kernel
theorem d_Cr_jointOf_80 : decode c_Cr_jointOf 80 = .ok (.iinc 3 1, 3) := by decide +kernel
theorem d_Cr_jointOf_83 : decode c_Cr_jointOf 83 = .ok (.goto (-79), 3) := by decide +kernel
theorem d_Cr_jointOf_86 : decode c_Cr_jointOf 86 = .ok (.iload_n 2, 1) := by decide +kernel
theorem d_Cr_jointOf_87 : decode c_Cr_jointOf 87 = .ok (.ireturn, 1) := by decide +kernel
theorem d_Cr_isAnyPairSpent_0 : decode c_Cr_isAnyPairSpent 0 = .ok (.iconst 0, 1) := by decide +kernel
theorem d_Cr_isAnyPairSpent_1 : decode c_Cr_isAnyPairSpent 1 = .ok (.istore_n 1, 1) := by decide +kernel
theorem d_Cr_isAnyPairSpent_2 : decode c_Cr_isAnyPairSpent 2 = .ok (.iload_n 1, 1) := by decide +kernel
theorem d_Cr_isAnyPairSpent_3 : decode c_Cr_isAnyPairSpent 3 = .ok (.aload_n 0, 1) := by decide +kernel
theorem d_Cr_isAnyPairSpent_4 : decode c_Cr_isAnyPairSpent 4 = .ok (.getfield 9, 3) := by decide +kernel
theorem d_Cr_isAnyPairSpent_7 : decode c_Cr_isAnyPairSpent 7 = .ok (.if_icmp .ge 56, 3) := by decide +kernel
theorem d_Cr_isAnyPairSpent_10 : decode c_Cr_isAnyPairSpent 10 = .ok (.iload_n 1, 1) := by decide +kernel
theorem d_Cr_isAnyPairSpent_11 : decode c_Cr_isAnyPairSpent 11 = .ok (.iconst 1, 1) := by decide +kernel
theorem d_Cr_isAnyPairSpent_12 : decode c_Cr_isAnyPairSpent 12 = .ok (.iadd, 1) := by decide +kernel
theorem d_Cr_isAnyPairSpent_13 : decode c_Cr_isAnyPairSpent 13 = .ok (.istore_n 2, 1) := by decide +kernel
theorem d_Cr_isAnyPairSpent_14 : decode c_Cr_isAnyPairSpent 14 = .ok (.iload_n 2, 1) := by decide +kernel
theorem d_Cr_isAnyPairSpent_15 : decode c_Cr_isAnyPairSpent 15 = .ok (.aload_n 0, 1) := by decide +kernel
theorem d_Cr_isAnyPairSpent_16 : decode c_Cr_isAnyPairSpent 16 = .ok (.getfield 9, 3) := by decide +kernel
theorem d_Cr_isAnyPairSpent_19 : decode c_Cr_isAnyPairSpent 19 = .ok (.if_icmp .ge 38, 3) := by decide +kernel
theorem d_Cr_isAnyPairSpent_22 : decode c_Cr_isAnyPairSpent 22 = .ok (.iconst 1, 1) := by decide +kernel
theorem d_Cr_isAnyPairSpent_23 : decode c_Cr_isAnyPairSpent 23 = .ok (.iload_n 1, 1) := by decide +kernel
theorem d_Cr_isAnyPairSpent_24 : decode c_Cr_isAnyPairSpent 24 = .ok (.ishl, 1) := by decide +kernel
theorem d_Cr_isAnyPairSpent_25 : decode c_Cr_isAnyPairSpent 25 = .ok (.iconst 1, 1) := by decide +kernel
theorem d_Cr_isAnyPairSpent_26 : decode c_Cr_isAnyPairSpent 26 = .ok (.iload_n 2, 1) := by decide +kernel
theorem d_Cr_isAnyPairSpent_27 : decode c_Cr_isAnyPairSpent 27 = .ok (.ishl, 1) := by decide +kernel
theorem d_Cr_isAnyPairSpent_28 : decode c_Cr_isAnyPairSpent 28 = .ok (.ior, 1) := by decide +kernel
theorem d_Cr_isAnyPairSpent_29 : decode c_Cr_isAnyPairSpent 29 = .ok (.istore_n 3, 1) := by decide +kernel
theorem d_Cr_isAnyPairSpent_30 : decode c_Cr_isAnyPairSpent 30 = .ok (.aload_n 0, 1) := by decide +kernel
theorem d_Cr_isAnyPairSpent_31 : decode c_Cr_isAnyPairSpent 31 = .ok (.getfield 15, 3) := by decide +kernel
theorem d_Cr_isAnyPairSpent_34 : decode c_Cr_isAnyPairSpent 34 = .ok (.iload_n 3, 1) := by decide +kernel
theorem d_Cr_isAnyPairSpent_35 : decode c_Cr_isAnyPairSpent 35 = .ok (.iand, 1) := by decide +kernel
theorem d_Cr_isAnyPairSpent_36 : decode c_Cr_isAnyPairSpent 36 = .ok (.iload_n 3, 1) := by decide +kernel
theorem d_Cr_isAnyPairSpent_37 : decode c_Cr_isAnyPairSpent 37 = .ok (.if_icmp .ne 14, 3) := by decide +kernel
theorem d_Cr_isAnyPairSpent_40 : decode c_Cr_isAnyPairSpent 40 = .ok (.aload_n 0, 1) := by decide +kernel
theorem d_Cr_isAnyPairSpent_41 : decode c_Cr_isAnyPairSpent 41 = .ok (.iload_n 3, 1) := by decide +kernel
theorem d_Cr_isAnyPairSpent_42 : decode c_Cr_isAnyPairSpent 42 = .ok (.invokevirtual 76, 3) := by decide +kernel
theorem d_Cr_isAnyPairSpent_45 : decode c_Cr_isAnyPairSpent 45 = .ok (.iconst 1, 1) := by decide +kernel
theorem d_Cr_isAnyPairSpent_46 : decode c_Cr_isAnyPairSpent 46 = .ok (.if_icmp .ge 5, 3) := by decide +kernel
theorem d_Cr_isAnyPairSpent_49 : decode c_Cr_isAnyPairSpent 49 = .ok (.iconst 1, 1) := by decide +kernel
theorem d_Cr_isAnyPairSpent_50 : decode c_Cr_isAnyPairSpent 50 = .ok (.ireturn, 1) := by decide +kernel
theorem d_Cr_isAnyPairSpent_51 : decode c_Cr_isAnyPairSpent 51 = .ok (.iinc 2 1, 3) := by decide +kernel
theorem d_Cr_isAnyPairSpent_54 : decode c_Cr_isAnyPairSpent 54 = .ok (.goto (-40), 3) := by decide +kernel
theorem d_Cr_isAnyPairSpent_57 : decode c_Cr_isAnyPairSpent 57 = .ok (.iinc 1 1, 3) := by decide +kernel
theorem d_Cr_isAnyPairSpent_60 : decode c_Cr_isAnyPairSpent 60 = .ok (.goto (-58), 3) := by decide +kernel
theorem d_Cr_isAnyPairSpent_63 : decode c_Cr_isAnyPairSpent 63 = .ok (.iconst 0, 1) := by decide +kernel
theorem d_Cr_isAnyPairSpent_64 : decode c_Cr_isAnyPairSpent 64 = .ok (.ireturn, 1) := by decide +kernel
theorem d_Cr_everSeen_0 : decode c_Cr_everSeen 0 = .ok (.iconst 0, 1) := by decide +kernel
theorem d_Cr_everSeen_1 : decode c_Cr_everSeen 1 = .ok (.istore_n 2, 1) := by decide +kernel
theorem d_Cr_everSeen_2 : decode c_Cr_everSeen 2 = .ok (.iconst 0, 1) := by decide +kernel
theorem d_Cr_everSeen_3 : decode c_Cr_everSeen 3 = .ok (.istore_n 3, 1) := by decide +kernel
theorem d_Cr_everSeen_4 : decode c_Cr_everSeen 4 = .ok (.iload_n 3, 1) := by decide +kernel
theorem d_Cr_everSeen_5 : decode c_Cr_everSeen 5 = .ok (.aload_n 0, 1) := by decide +kernel
theorem d_Cr_everSeen_6 : decode c_Cr_everSeen 6 = .ok (.getfield 9, 3) := by decide +kernel
theorem d_Cr_everSeen_9 : decode c_Cr_everSeen 9 = .ok (.if_icmp .ge 33, 3) := by decide +kernel
theorem d_Cr_everSeen_12 : decode c_Cr_everSeen 12 = .ok (.iload_n 2, 1) := by decide +kernel
theorem d_Cr_everSeen_13 : decode c_Cr_everSeen 13 = .ok (.iload_n 1, 1) := by decide +kernel
theorem d_Cr_everSeen_14 : decode c_Cr_everSeen 14 = .ok (.iload_n 3, 1) := by decide +kernel
theorem d_Cr_everSeen_15 : decode c_Cr_everSeen 15 = .ok (.ishr, 1) := by decide +kernel
theorem d_Cr_everSeen_16 : decode c_Cr_everSeen 16 = .ok (.iconst 1, 1) := by decide +kernel
theorem d_Cr_everSeen_17 : decode c_Cr_everSeen 17 = .ok (.iand, 1) := by decide +kernel
theorem d_Cr_everSeen_18 : decode c_Cr_everSeen 18 = .ok (.ifCond .eq 15, 3) := by decide +kernel
theorem d_Cr_everSeen_21 : decode c_Cr_everSeen 21 = .ok (.aload_n 0, 1) := by decide +kernel
theorem d_Cr_everSeen_22 : decode c_Cr_everSeen 22 = .ok (.getfield 20, 3) := by decide +kernel
theorem d_Cr_everSeen_25 : decode c_Cr_everSeen 25 = .ok (.iload_n 3, 1) := by decide +kernel
theorem d_Cr_everSeen_26 : decode c_Cr_everSeen 26 = .ok (.aaload, 1) := by decide +kernel
theorem d_Cr_everSeen_27 : decode c_Cr_everSeen 27 = .ok (.getfield 80, 3) := by decide +kernel
theorem d_Cr_everSeen_30 : decode c_Cr_everSeen 30 = .ok (.goto 4, 3) := by decide +kernel
theorem d_Cr_everSeen_33 : decode c_Cr_everSeen 33 = .ok (.iconst 0, 1) := by decide +kernel
theorem d_Cr_everSeen_34 : decode c_Cr_everSeen 34 = .ok (.ior, 1) := by decide +kernel
theorem d_Cr_everSeen_35 : decode c_Cr_everSeen 35 = .ok (.istore_n 2, 1) := by decide +kernel
theorem d_Cr_everSeen_36 : decode c_Cr_everSeen 36 = .ok (.iinc 3 1, 3) := by decide +kernel
theorem d_Cr_everSeen_39 : decode c_Cr_everSeen 39 = .ok (.goto (-35), 3) := by decide +kernel
theorem d_Cr_everSeen_42 : decode c_Cr_everSeen 42 = .ok (.iload_n 2, 1) := by decide +kernel
theorem d_Cr_everSeen_43 : decode c_Cr_everSeen 43 = .ok (.ireturn, 1) := by decide +kernel
theorem d_Cr_seenAt_0 : decode c_Cr_seenAt 0 = .ok (.iconst 0, 1) := by decide +kernel
theorem d_Cr_seenAt_1 : decode c_Cr_seenAt 1 = .ok (.istore_n 2, 1) := by decide +kernel
theorem d_Cr_seenAt_2 : decode c_Cr_seenAt 2 = .ok (.iconst 0, 1) := by decide +kernel
theorem d_Cr_seenAt_3 : decode c_Cr_seenAt 3 = .ok (.istore_n 3, 1) := by decide +kernel
theorem d_Cr_seenAt_4 : decode c_Cr_seenAt 4 = .ok (.iload_n 3, 1) := by decide +kernel
theorem d_Cr_seenAt_5 : decode c_Cr_seenAt 5 = .ok (.aload_n 0, 1) := by decide +kernel
theorem d_Cr_seenAt_6 : decode c_Cr_seenAt 6 = .ok (.getfield 9, 3) := by decide +kernel
theorem d_Cr_seenAt_9 : decode c_Cr_seenAt 9 = .ok (.if_icmp .ge 34, 3) := by decide +kernel
theorem d_Cr_seenAt_12 : decode c_Cr_seenAt 12 = .ok (.iload_n 2, 1) := by decide +kernel
theorem d_Cr_seenAt_13 : decode c_Cr_seenAt 13 = .ok (.aload_n 0, 1) := by decide +kernel
theorem d_Cr_seenAt_14 : decode c_Cr_seenAt 14 = .ok (.iload_n 3, 1) := by decide +kernel
theorem d_Cr_seenAt_15 : decode c_Cr_seenAt 15 = .ok (.invokevirtual 83, 3) := by decide +kernel
theorem d_Cr_seenAt_18 : decode c_Cr_seenAt 18 = .ok (.ifCond .eq 16, 3) := by decide +kernel
theorem d_Cr_seenAt_21 : decode c_Cr_seenAt 21 = .ok (.aload_n 0, 1) := by decide +kernel
theorem d_Cr_seenAt_22 : decode c_Cr_seenAt 22 = .ok (.getfield 20, 3) := by decide +kernel
theorem d_Cr_seenAt_25 : decode c_Cr_seenAt 25 = .ok (.iload_n 3, 1) := by decide +kernel
theorem d_Cr_seenAt_26 : decode c_Cr_seenAt 26 = .ok (.aaload, 1) := by decide +kernel
theorem d_Cr_seenAt_27 : decode c_Cr_seenAt 27 = .ok (.iload_n 1, 1) := by decide +kernel
theorem d_Cr_seenAt_28 : decode c_Cr_seenAt 28 = .ok (.invokevirtual 87, 3) := by decide +kernel
theorem d_Cr_seenAt_31 : decode c_Cr_seenAt 31 = .ok (.goto 4, 3) := by decide +kernel
theorem d_Cr_seenAt_34 : decode c_Cr_seenAt 34 = .ok (.iconst 0, 1) := by decide +kernel
theorem d_Cr_seenAt_35 : decode c_Cr_seenAt 35 = .ok (.ior, 1) := by decide +kernel
theorem d_Cr_seenAt_36 : decode c_Cr_seenAt 36 = .ok (.istore_n 2, 1) := by decide +kernel
theorem d_Cr_seenAt_37 : decode c_Cr_seenAt 37 = .ok (.iinc 3 1, 3) := by decide +kernel
theorem d_Cr_seenAt_40 : decode c_Cr_seenAt 40 = .ok (.goto (-36), 3) := by decide +kernel
theorem d_Cr_seenAt_43 : decode c_Cr_seenAt 43 = .ok (.iload_n 2, 1) := by decide +kernel
theorem d_Cr_seenAt_44 : decode c_Cr_seenAt 44 = .ok (.ireturn, 1) := by decide +kernel
theorem d_Cr_tell_0 : decode c_Cr_tell 0 = .ok (.aload_n 0, 1) := by decide +kernel
theorem d_Cr_tell_1 : decode c_Cr_tell 1 = .ok (.getfield 20, 3) := by decide +kernel
theorem d_Cr_tell_4 : decode c_Cr_tell 4 = .ok (.iload_n 1, 1) := by decide +kernel
theorem d_Cr_tell_5 : decode c_Cr_tell 5 = .ok (.aaload, 1) := by decide +kernel
theorem d_Cr_tell_6 : decode c_Cr_tell 6 = .ok (.astore_n 3, 1) := by decide +kernel
theorem d_Cr_tell_7 : decode c_Cr_tell 7 = .ok (.iload_n 2, 1) := by decide +kernel
theorem d_Cr_tell_8 : decode c_Cr_tell 8 = .ok (.tableswitch 87 0 5 #[40, 45, 50, 55, 68, 73], 40) := by decide +kernel
theorem d_Cr_tell_48 : decode c_Cr_tell 48 = .ok (.aload_n 3, 1) := by decide +kernel
theorem d_Cr_tell_49 : decode c_Cr_tell 49 = .ok (.getfield 43, 3) := by decide +kernel
theorem d_Cr_tell_52 : decode c_Cr_tell 52 = .ok (.ireturn, 1) := by decide +kernel
theorem d_Cr_tell_53 : decode c_Cr_tell 53 = .ok (.aload_n 3, 1) := by decide +kernel
theorem d_Cr_tell_54 : decode c_Cr_tell 54 = .ok (.invokevirtual 90, 3) := by decide +kernel
theorem d_Cr_tell_57 : decode c_Cr_tell 57 = .ok (.ireturn, 1) := by decide +kernel
theorem d_Cr_tell_58 : decode c_Cr_tell 58 = .ok (.aload_n 3, 1) := by decide +kernel
theorem d_Cr_tell_59 : decode c_Cr_tell 59 = .ok (.getfield 94, 3) := by decide +kernel
theorem d_Cr_tell_62 : decode c_Cr_tell 62 = .ok (.ireturn, 1) := by decide +kernel
theorem d_Cr_tell_63 : decode c_Cr_tell 63 = .ok (.aload_n 3, 1) := by decide +kernel
theorem d_Cr_tell_64 : decode c_Cr_tell 64 = .ok (.getfield 97, 3) := by decide +kernel
theorem d_Cr_tell_67 : decode c_Cr_tell 67 = .ok (.ifCond .eq 7, 3) := by decide +kernel
theorem d_Cr_tell_70 : decode c_Cr_tell 70 = .ok (.iconst 1, 1) := by decide +kernel
theorem d_Cr_tell_71 : decode c_Cr_tell 71 = .ok (.goto 4, 3) := by decide +kernel
theorem d_Cr_tell_74 : decode c_Cr_tell 74 = .ok (.iconst 0, 1) := by decide +kernel
theorem d_Cr_tell_75 : decode c_Cr_tell 75 = .ok (.ireturn, 1) := by decide +kernel
theorem d_Cr_tell_76 : decode c_Cr_tell 76 = .ok (.aload_n 3, 1) := by decide +kernel
theorem d_Cr_tell_77 : decode c_Cr_tell 77 = .ok (.getfield 100, 3) := by decide +kernel
theorem d_Cr_tell_80 : decode c_Cr_tell 80 = .ok (.ireturn, 1) := by decide +kernel
theorem d_Cr_tell_81 : decode c_Cr_tell 81 = .ok (.aload_n 0, 1) := by decide +kernel
theorem d_Cr_tell_82 : decode c_Cr_tell 82 = .ok (.iload_n 1, 1) := by decide +kernel
theorem d_Cr_tell_83 : decode c_Cr_tell 83 = .ok (.invokevirtual 83, 3) := by decide +kernel
theorem d_Cr_tell_86 : decode c_Cr_tell 86 = .ok (.ifCond .eq 7, 3) := by decide +kernel
theorem d_Cr_tell_89 : decode c_Cr_tell 89 = .ok (.iconst 1, 1) := by decide +kernel
theorem d_Cr_tell_90 : decode c_Cr_tell 90 = .ok (.goto 4, 3) := by decide +kernel
theorem d_Cr_tell_93 : decode c_Cr_tell 93 = .ok (.iconst 0, 1) := by decide +kernel
theorem d_Cr_tell_94 : decode c_Cr_tell 94 = .ok (.ireturn, 1) := by decide +kernel
theorem d_Cr_tell_95 : decode c_Cr_tell 95 = .ok (.aload_n 0, 1) := by decide +kernel
theorem d_Cr_tell_96 : decode c_Cr_tell 96 = .ok (.iload_n 1, 1) := by decide +kernel
theorem d_Cr_tell_97 : decode c_Cr_tell 97 = .ok (.invokevirtual 83, 3) := by decide +kernel
theorem d_Cr_tell_100 : decode c_Cr_tell 100 = .ok (.ifCond .eq 10, 3) := by decide +kernel
theorem d_Cr_tell_103 : decode c_Cr_tell 103 = .ok (.aload_n 3, 1) := by decide +kernel
theorem d_Cr_tell_104 : decode c_Cr_tell 104 = .ok (.getfield 69, 3) := by decide +kernel
theorem d_Cr_tell_107 : decode c_Cr_tell 107 = .ok (.goto 5, 3) := by decide +kernel
theorem d_Cr_tell_110 : decode c_Cr_tell 110 = .ok (.bipush (-9), 2) := by decide +kernel
theorem d_Cr_tell_112 : decode c_Cr_tell 112 = .ok (.ireturn, 1) := by decide +kernel
theorem d_Cr_mixInto_0 : decode c_Cr_mixInto 0 = .ok (.lload_n 1, 1) := by decide +kernel
theorem d_Cr_mixInto_1 : decode c_Cr_mixInto 1 = .ok (.lstore_n 3, 1) := by decide +kernel
theorem d_Cr_mixInto_2 : decode c_Cr_mixInto 2 = .ok (.iconst 0, 1) := by decide +kernel
theorem d_Cr_mixInto_3 : decode c_Cr_mixInto 3 = .ok (.istore 5, 2) := by decide +kernel
theorem d_Cr_mixInto_5 : decode c_Cr_mixInto 5 = .ok (.iload 5, 2) := by decide +kernel
theorem d_Cr_mixInto_7 : decode c_Cr_mixInto 7 = .ok (.aload_n 0, 1) := by decide +kernel
theorem d_Cr_mixInto_8 : decode c_Cr_mixInto 8 = .ok (.getfield 9, 3) := by decide +kernel
theorem d_Cr_mixInto_11 : decode c_Cr_mixInto 11 = .ok (.if_icmp .ge 73, 3) := by decide +kernel
theorem d_Cr_mixInto_14 : decode c_Cr_mixInto 14 = .ok (.aload_n 0, 1) := by decide +kernel
theorem d_Cr_mixInto_15 : decode c_Cr_mixInto 15 = .ok (.iload 5, 2) := by decide +kernel
theorem d_Cr_mixInto_17 : decode c_Cr_mixInto 17 = .ok (.invokevirtual 103, 3) := by decide +kernel
theorem d_Cr_mixInto_20 : decode c_Cr_mixInto 20 = .ok (.ifCond .eq 14, 3) := by decide +kernel
theorem d_Cr_mixInto_23 : decode c_Cr_mixInto 23 = .ok (.ldc2_w 106, 3) := by decide +kernel
theorem d_Cr_mixInto_26 : decode c_Cr_mixInto 26 = .ok (.lload_n 3, 1) := by decide +kernel
theorem d_Cr_mixInto_27 : decode c_Cr_mixInto 27 = .ok (.lmul, 1) := by decide +kernel
theorem d_Cr_mixInto_28 : decode c_Cr_mixInto 28 = .ok (.lconst 1, 1) := by decide +kernel
theorem d_Cr_mixInto_29 : decode c_Cr_mixInto 29 = .ok (.lsub, 1) := by decide +kernel
theorem d_Cr_mixInto_30 : decode c_Cr_mixInto 30 = .ok (.lstore_n 3, 1) := by decide +kernel
theorem d_Cr_mixInto_31 : decode c_Cr_mixInto 31 = .ok (.goto 47, 3) := by decide +kernel
theorem d_Cr_mixInto_34 : decode c_Cr_mixInto 34 = .ok (.iconst 0, 1) := by decide +kernel
theorem d_Cr_mixInto_35 : decode c_Cr_mixInto 35 = .ok (.istore 6, 2) := by decide +kernel
theorem d_Cr_mixInto_37 : decode c_Cr_mixInto 37 = .ok (.iload 6, 2) := by decide +kernel
theorem d_Cr_mixInto_39 : decode c_Cr_mixInto 39 = .ok (.bipush 6, 2) := by decide +kernel
theorem d_Cr_mixInto_41 : decode c_Cr_mixInto 41 = .ok (.if_icmp .gt 25, 3) := by decide +kernel
theorem d_Cr_mixInto_44 : decode c_Cr_mixInto 44 = .ok (.ldc2_w 106, 3) := by decide +kernel
theorem d_Cr_mixInto_47 : decode c_Cr_mixInto 47 = .ok (.lload_n 3, 1) := by decide +kernel
theorem d_Cr_mixInto_48 : decode c_Cr_mixInto 48 = .ok (.lmul, 1) := by decide +kernel
theorem d_Cr_mixInto_49 : decode c_Cr_mixInto 49 = .ok (.aload_n 0, 1) := by decide +kernel
theorem d_Cr_mixInto_50 : decode c_Cr_mixInto 50 = .ok (.iload 5, 2) := by decide +kernel
theorem d_Cr_mixInto_52 : decode c_Cr_mixInto 52 = .ok (.iload 6, 2) := by decide +kernel
theorem d_Cr_mixInto_54 : decode c_Cr_mixInto 54 = .ok (.invokevirtual 108, 3) := by decide +kernel
theorem d_Cr_mixInto_57 : decode c_Cr_mixInto 57 = .ok (.i2l, 1) := by decide +kernel
theorem d_Cr_mixInto_58 : decode c_Cr_mixInto 58 = .ok (.ladd, 1) := by decide +kernel
theorem d_Cr_mixInto_59 : decode c_Cr_mixInto 59 = .ok (.lstore_n 3, 1) := by decide +kernel
theorem d_Cr_mixInto_60 : decode c_Cr_mixInto 60 = .ok (.iinc 6 1, 3) := by decide +kernel
theorem d_Cr_mixInto_63 : decode c_Cr_mixInto 63 = .ok (.goto (-26), 3) := by decide +kernel
theorem d_Cr_mixInto_66 : decode c_Cr_mixInto 66 = .ok (.aload_n 0, 1) := by decide +kernel
theorem d_Cr_mixInto_67 : decode c_Cr_mixInto 67 = .ok (.getfield 20, 3) := by decide +kernel
theorem d_Cr_mixInto_70 : decode c_Cr_mixInto 70 = .ok (.iload 5, 2) := by decide +kernel
theorem d_Cr_mixInto_72 : decode c_Cr_mixInto 72 = .ok (.aaload, 1) := by decide +kernel
theorem d_Cr_mixInto_73 : decode c_Cr_mixInto 73 = .ok (.lload_n 3, 1) := by decide +kernel
theorem d_Cr_mixInto_74 : decode c_Cr_mixInto 74 = .ok (.invokevirtual 112, 3) := by decide +kernel
theorem d_Cr_mixInto_77 : decode c_Cr_mixInto 77 = .ok (.lstore_n 3, 1) := by decide +kernel
theorem d_Cr_mixInto_78 : decode c_Cr_mixInto 78 = .ok (.iinc 5 1, 3) := by decide +kernel
theorem d_Cr_mixInto_81 : decode c_Cr_mixInto 81 = .ok (.goto (-76), 3) := by decide +kernel
theorem d_Cr_mixInto_84 : decode c_Cr_mixInto 84 = .ok (.lload_n 3, 1) := by decide +kernel
theorem d_Cr_mixInto_85 : decode c_Cr_mixInto 85 = .ok (.lreturn, 1) := by decide +kernel
