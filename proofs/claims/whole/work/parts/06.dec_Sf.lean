/-! decode rows (by program) -/
theorem d_Sf_init_0 : decode c_Sf_init 0 = .ok (.aload_n 0, 1) := by decide +kernel
theorem d_Sf_init_1 : decode c_Sf_init 1 = .ok (.invokespecial 3, 3) := by decide +kernel
theorem d_Sf_init_4 : decode c_Sf_init 4 = .ok (.aload_n 0, 1) := by decide +kernel
theorem d_Sf_init_5 : decode c_Sf_init 5 = .ok (.sipush 320, 3) := by decide +kernel
theorem d_Sf_init_8 : decode c_Sf_init 8 = .ok (.newarray .byte, 2) := by decide +kernel
theorem d_Sf_init_10 : decode c_Sf_init 10 = .ok (.putfield 9, 3) := by decide +kernel
theorem d_Sf_init_13 : decode c_Sf_init 13 = .ok (.aload_n 0, 1) := by decide +kernel
theorem d_Sf_init_14 : decode c_Sf_init 14 = .ok (.bipush 8, 2) := by decide +kernel
theorem d_Sf_init_16 : decode c_Sf_init 16 = .ok (.newarray .int, 2) := by decide +kernel
theorem d_Sf_init_18 : decode c_Sf_init 18 = .ok (.putfield 15, 3) := by decide +kernel
theorem d_Sf_init_21 : decode c_Sf_init 21 = .ok (.iconst 0, 1) := by decide +kernel
theorem d_Sf_init_22 : decode c_Sf_init 22 = .ok (.istore_n 1, 1) := by decide +kernel
theorem d_Sf_init_23 : decode c_Sf_init 23 = .ok (.iload_n 1, 1) := by decide +kernel
theorem d_Sf_init_24 : decode c_Sf_init 24 = .ok (.bipush 8, 2) := by decide +kernel
theorem d_Sf_init_26 : decode c_Sf_init 26 = .ok (.if_icmp .ge 16, 3) := by decide +kernel
theorem d_Sf_init_29 : decode c_Sf_init 29 = .ok (.aload_n 0, 1) := by decide +kernel
theorem d_Sf_init_30 : decode c_Sf_init 30 = .ok (.getfield 15, 3) := by decide +kernel
theorem d_Sf_init_33 : decode c_Sf_init 33 = .ok (.iload_n 1, 1) := by decide +kernel
theorem d_Sf_init_34 : decode c_Sf_init 34 = .ok (.iconst (-1), 1) := by decide +kernel
theorem d_Sf_init_35 : decode c_Sf_init 35 = .ok (.iastore, 1) := by decide +kernel
theorem d_Sf_init_36 : decode c_Sf_init 36 = .ok (.iinc 1 1, 3) := by decide +kernel
theorem d_Sf_init_39 : decode c_Sf_init 39 = .ok (.goto (-16), 3) := by decide +kernel
theorem d_Sf_init_42 : decode c_Sf_init 42 = .ok (.return_, 1) := by decide +kernel
theorem d_Sf_lacks_0 : decode c_Sf_lacks 0 = .ok (.aload_n 0, 1) := by decide +kernel
theorem d_Sf_lacks_1 : decode c_Sf_lacks 1 = .ok (.getfield 15, 3) := by decide +kernel
theorem d_Sf_lacks_4 : decode c_Sf_lacks 4 = .ok (.iload_n 1, 1) := by decide +kernel
theorem d_Sf_lacks_5 : decode c_Sf_lacks 5 = .ok (.iaload, 1) := by decide +kernel
theorem d_Sf_lacks_6 : decode c_Sf_lacks 6 = .ok (.iconst (-1), 1) := by decide +kernel
theorem d_Sf_lacks_7 : decode c_Sf_lacks 7 = .ok (.if_icmp .ne 7, 3) := by decide +kernel
theorem d_Sf_lacks_10 : decode c_Sf_lacks 10 = .ok (.iconst 1, 1) := by decide +kernel
theorem d_Sf_lacks_11 : decode c_Sf_lacks 11 = .ok (.goto 4, 3) := by decide +kernel
theorem d_Sf_lacks_14 : decode c_Sf_lacks 14 = .ok (.iconst 0, 1) := by decide +kernel
theorem d_Sf_lacks_15 : decode c_Sf_lacks 15 = .ok (.ireturn, 1) := by decide +kernel
theorem d_Sf_sizeOf_0 : decode c_Sf_sizeOf 0 = .ok (.aload_n 0, 1) := by decide +kernel
theorem d_Sf_sizeOf_1 : decode c_Sf_sizeOf 1 = .ok (.getfield 15, 3) := by decide +kernel
theorem d_Sf_sizeOf_4 : decode c_Sf_sizeOf 4 = .ok (.iload_n 1, 1) := by decide +kernel
theorem d_Sf_sizeOf_5 : decode c_Sf_sizeOf 5 = .ok (.iaload, 1) := by decide +kernel
theorem d_Sf_sizeOf_6 : decode c_Sf_sizeOf 6 = .ok (.ireturn, 1) := by decide +kernel
theorem d_Sf_byteAt_0 : decode c_Sf_byteAt 0 = .ok (.aload_n 0, 1) := by decide +kernel
theorem d_Sf_byteAt_1 : decode c_Sf_byteAt 1 = .ok (.getfield 9, 3) := by decide +kernel
theorem d_Sf_byteAt_4 : decode c_Sf_byteAt 4 = .ok (.iload_n 1, 1) := by decide +kernel
theorem d_Sf_byteAt_5 : decode c_Sf_byteAt 5 = .ok (.bipush 40, 2) := by decide +kernel
theorem d_Sf_byteAt_7 : decode c_Sf_byteAt 7 = .ok (.imul, 1) := by decide +kernel
theorem d_Sf_byteAt_8 : decode c_Sf_byteAt 8 = .ok (.iload_n 2, 1) := by decide +kernel
theorem d_Sf_byteAt_9 : decode c_Sf_byteAt 9 = .ok (.iadd, 1) := by decide +kernel
theorem d_Sf_byteAt_10 : decode c_Sf_byteAt 10 = .ok (.baload, 1) := by decide +kernel
theorem d_Sf_byteAt_11 : decode c_Sf_byteAt 11 = .ok (.ireturn, 1) := by decide +kernel
theorem d_Sf_write_0 : decode c_Sf_write 0 = .ok (.aload_n 0, 1) := by decide +kernel
theorem d_Sf_write_1 : decode c_Sf_write 1 = .ok (.getfield 9, 3) := by decide +kernel
theorem d_Sf_write_4 : decode c_Sf_write 4 = .ok (.iload_n 1, 1) := by decide +kernel
theorem d_Sf_write_5 : decode c_Sf_write 5 = .ok (.bipush 40, 2) := by decide +kernel
theorem d_Sf_write_7 : decode c_Sf_write 7 = .ok (.imul, 1) := by decide +kernel
theorem d_Sf_write_8 : decode c_Sf_write 8 = .ok (.iload_n 2, 1) := by decide +kernel
theorem d_Sf_write_9 : decode c_Sf_write 9 = .ok (.iadd, 1) := by decide +kernel
theorem d_Sf_write_10 : decode c_Sf_write 10 = .ok (.iload_n 3, 1) := by decide +kernel
theorem d_Sf_write_11 : decode c_Sf_write 11 = .ok (.i2b, 1) := by decide +kernel
theorem d_Sf_write_12 : decode c_Sf_write 12 = .ok (.bastore, 1) := by decide +kernel
theorem d_Sf_write_13 : decode c_Sf_write 13 = .ok (.return_, 1) := by decide +kernel
theorem d_Sf_put_0 : decode c_Sf_put 0 = .ok (.aload_n 0, 1) := by decide +kernel
theorem d_Sf_put_1 : decode c_Sf_put 1 = .ok (.getfield 15, 3) := by decide +kernel
theorem d_Sf_put_4 : decode c_Sf_put 4 = .ok (.iload_n 1, 1) := by decide +kernel
theorem d_Sf_put_5 : decode c_Sf_put 5 = .ok (.iload_n 2, 1) := by decide +kernel
theorem d_Sf_put_6 : decode c_Sf_put 6 = .ok (.iastore, 1) := by decide +kernel
theorem d_Sf_put_7 : decode c_Sf_put 7 = .ok (.iconst 0, 1) := by decide +kernel
theorem d_Sf_put_8 : decode c_Sf_put 8 = .ok (.istore_n 3, 1) := by decide +kernel
theorem d_Sf_put_9 : decode c_Sf_put 9 = .ok (.iload_n 3, 1) := by decide +kernel
theorem d_Sf_put_10 : decode c_Sf_put 10 = .ok (.iload_n 2, 1) := by decide +kernel
theorem d_Sf_put_11 : decode c_Sf_put 11 = .ok (.if_icmp .ge 16, 3) := by decide +kernel
theorem d_Sf_put_14 : decode c_Sf_put 14 = .ok (.aload_n 0, 1) := by decide +kernel
theorem d_Sf_put_15 : decode c_Sf_put 15 = .ok (.iload_n 1, 1) := by decide +kernel
theorem d_Sf_put_16 : decode c_Sf_put 16 = .ok (.iload_n 3, 1) := by decide +kernel
theorem d_Sf_put_17 : decode c_Sf_put 17 = .ok (.iconst 0, 1) := by decide +kernel
theorem d_Sf_put_18 : decode c_Sf_put 18 = .ok (.invokevirtual 19, 3) := by decide +kernel
theorem d_Sf_put_21 : decode c_Sf_put 21 = .ok (.iinc 3 1, 3) := by decide +kernel
theorem d_Sf_put_24 : decode c_Sf_put 24 = .ok (.goto (-15), 3) := by decide +kernel
theorem d_Sf_put_27 : decode c_Sf_put 27 = .ok (.return_, 1) := by decide +kernel
theorem d_Sf_remove_0 : decode c_Sf_remove 0 = .ok (.aload_n 0, 1) := by decide +kernel
theorem d_Sf_remove_1 : decode c_Sf_remove 1 = .ok (.getfield 15, 3) := by decide +kernel
theorem d_Sf_remove_4 : decode c_Sf_remove 4 = .ok (.iload_n 1, 1) := by decide +kernel
theorem d_Sf_remove_5 : decode c_Sf_remove 5 = .ok (.iconst (-1), 1) := by decide +kernel
theorem d_Sf_remove_6 : decode c_Sf_remove 6 = .ok (.iastore, 1) := by decide +kernel
theorem d_Sf_remove_7 : decode c_Sf_remove 7 = .ok (.return_, 1) := by decide +kernel
theorem d_Sf_holds_0 : decode c_Sf_holds 0 = .ok (.iload_n 2, 1) := by decide +kernel
theorem d_Sf_holds_1 : decode c_Sf_holds 1 = .ok (.ifCond .lt 33, 3) := by decide +kernel
theorem d_Sf_holds_4 : decode c_Sf_holds 4 = .ok (.iload_n 3, 1) := by decide +kernel
theorem d_Sf_holds_5 : decode c_Sf_holds 5 = .ok (.ifCond .lt 29, 3) := by decide +kernel
theorem d_Sf_holds_8 : decode c_Sf_holds 8 = .ok (.iload_n 2, 1) := by decide +kernel
theorem d_Sf_holds_9 : decode c_Sf_holds 9 = .ok (.aload_n 0, 1) := by decide +kernel
theorem d_Sf_holds_10 : decode c_Sf_holds 10 = .ok (.getfield 15, 3) := by decide +kernel
theorem d_Sf_holds_13 : decode c_Sf_holds 13 = .ok (.iload_n 1, 1) := by decide +kernel
theorem d_Sf_holds_14 : decode c_Sf_holds 14 = .ok (.iaload, 1) := by decide +kernel
theorem d_Sf_holds_15 : decode c_Sf_holds 15 = .ok (.if_icmp .gt 19, 3) := by decide +kernel
theorem d_Sf_holds_18 : decode c_Sf_holds 18 = .ok (.iload_n 3, 1) := by decide +kernel
theorem d_Sf_holds_19 : decode c_Sf_holds 19 = .ok (.aload_n 0, 1) := by decide +kernel
theorem d_Sf_holds_20 : decode c_Sf_holds 20 = .ok (.getfield 15, 3) := by decide +kernel
theorem d_Sf_holds_23 : decode c_Sf_holds 23 = .ok (.iload_n 1, 1) := by decide +kernel
theorem d_Sf_holds_24 : decode c_Sf_holds 24 = .ok (.iaload, 1) := by decide +kernel
theorem d_Sf_holds_25 : decode c_Sf_holds 25 = .ok (.iload_n 2, 1) := by decide +kernel
theorem d_Sf_holds_26 : decode c_Sf_holds 26 = .ok (.isub, 1) := by decide +kernel
theorem d_Sf_holds_27 : decode c_Sf_holds 27 = .ok (.if_icmp .gt 7, 3) := by decide +kernel
theorem d_Sf_holds_30 : decode c_Sf_holds 30 = .ok (.iconst 1, 1) := by decide +kernel
theorem d_Sf_holds_31 : decode c_Sf_holds 31 = .ok (.goto 4, 3) := by decide +kernel
theorem d_Sf_holds_34 : decode c_Sf_holds 34 = .ok (.iconst 0, 1) := by decide +kernel
theorem d_Sf_holds_35 : decode c_Sf_holds 35 = .ok (.ireturn, 1) := by decide +kernel
theorem d_Sf_move_0 : decode c_Sf_move 0 = .ok (.aload_n 0, 1) := by decide +kernel
theorem d_Sf_move_1 : decode c_Sf_move 1 = .ok (.getfield 9, 3) := by decide +kernel
theorem d_Sf_move_4 : decode c_Sf_move 4 = .ok (.iload_n 1, 1) := by decide +kernel
theorem d_Sf_move_5 : decode c_Sf_move 5 = .ok (.bipush 40, 2) := by decide +kernel
theorem d_Sf_move_7 : decode c_Sf_move 7 = .ok (.imul, 1) := by decide +kernel
theorem d_Sf_move_8 : decode c_Sf_move 8 = .ok (.iload_n 2, 1) := by decide +kernel
theorem d_Sf_move_9 : decode c_Sf_move 9 = .ok (.iadd, 1) := by decide +kernel
theorem d_Sf_move_10 : decode c_Sf_move 10 = .ok (.aload_n 0, 1) := by decide +kernel
theorem d_Sf_move_11 : decode c_Sf_move 11 = .ok (.getfield 9, 3) := by decide +kernel
theorem d_Sf_move_14 : decode c_Sf_move 14 = .ok (.iload_n 3, 1) := by decide +kernel
theorem d_Sf_move_15 : decode c_Sf_move 15 = .ok (.bipush 40, 2) := by decide +kernel
theorem d_Sf_move_17 : decode c_Sf_move 17 = .ok (.imul, 1) := by decide +kernel
theorem d_Sf_move_18 : decode c_Sf_move 18 = .ok (.iload 4, 2) := by decide +kernel
theorem d_Sf_move_20 : decode c_Sf_move 20 = .ok (.iadd, 1) := by decide +kernel
theorem d_Sf_move_21 : decode c_Sf_move 21 = .ok (.iload 5, 2) := by decide +kernel
theorem d_Sf_move_23 : decode c_Sf_move 23 = .ok (.invokestatic 23, 3) := by decide +kernel
theorem d_Sf_move_26 : decode c_Sf_move 26 = .ok (.return_, 1) := by decide +kernel
theorem d_Sf_sumOf_0 : decode c_Sf_sumOf 0 = .ok (.iconst 0, 1) := by decide +kernel
theorem d_Sf_sumOf_1 : decode c_Sf_sumOf 1 = .ok (.istore_n 2, 1) := by decide +kernel
theorem d_Sf_sumOf_2 : decode c_Sf_sumOf 2 = .ok (.iconst 0, 1) := by decide +kernel
theorem d_Sf_sumOf_3 : decode c_Sf_sumOf 3 = .ok (.istore_n 3, 1) := by decide +kernel
theorem d_Sf_sumOf_4 : decode c_Sf_sumOf 4 = .ok (.iload_n 3, 1) := by decide +kernel
theorem d_Sf_sumOf_5 : decode c_Sf_sumOf 5 = .ok (.aload_n 0, 1) := by decide +kernel
theorem d_Sf_sumOf_6 : decode c_Sf_sumOf 6 = .ok (.getfield 15, 3) := by decide +kernel
theorem d_Sf_sumOf_9 : decode c_Sf_sumOf 9 = .ok (.iload_n 1, 1) := by decide +kernel
theorem d_Sf_sumOf_10 : decode c_Sf_sumOf 10 = .ok (.iaload, 1) := by decide +kernel
theorem d_Sf_sumOf_11 : decode c_Sf_sumOf 11 = .ok (.if_icmp .ge 18, 3) := by decide +kernel
theorem d_Sf_sumOf_14 : decode c_Sf_sumOf 14 = .ok (.iload_n 2, 1) := by decide +kernel
theorem d_Sf_sumOf_15 : decode c_Sf_sumOf 15 = .ok (.aload_n 0, 1) := by decide +kernel
theorem d_Sf_sumOf_16 : decode c_Sf_sumOf 16 = .ok (.iload_n 1, 1) := by decide +kernel
theorem d_Sf_sumOf_17 : decode c_Sf_sumOf 17 = .ok (.iload_n 3, 1) := by decide +kernel
theorem d_Sf_sumOf_18 : decode c_Sf_sumOf 18 = .ok (.invokevirtual 29, 3) := by decide +kernel
theorem d_Sf_sumOf_21 : decode c_Sf_sumOf 21 = .ok (.iadd, 1) := by decide +kernel
theorem d_Sf_sumOf_22 : decode c_Sf_sumOf 22 = .ok (.istore_n 2, 1) := by decide +kernel
theorem d_Sf_sumOf_23 : decode c_Sf_sumOf 23 = .ok (.iinc 3 1, 3) := by decide +kernel
theorem d_Sf_sumOf_26 : decode c_Sf_sumOf 26 = .ok (.goto (-22), 3) := by decide +kernel
theorem d_Sf_sumOf_29 : decode c_Sf_sumOf 29 = .ok (.iload_n 2, 1) := by decide +kernel
theorem d_Sf_sumOf_30 : decode c_Sf_sumOf 30 = .ok (.ireturn, 1) := by decide +kernel
theorem d_Sf_allWithin_0 : decode c_Sf_allWithin 0 = .ok (.iconst 0, 1) := by decide +kernel
theorem d_Sf_allWithin_1 : decode c_Sf_allWithin 1 = .ok (.istore 4, 2) := by decide +kernel
theorem d_Sf_allWithin_3 : decode c_Sf_allWithin 3 = .ok (.iload 4, 2) := by decide +kernel
theorem d_Sf_allWithin_5 : decode c_Sf_allWithin 5 = .ok (.aload_n 0, 1) := by decide +kernel
theorem d_Sf_allWithin_6 : decode c_Sf_allWithin 6 = .ok (.getfield 15, 3) := by decide +kernel
theorem d_Sf_allWithin_9 : decode c_Sf_allWithin 9 = .ok (.iload_n 1, 1) := by decide +kernel
theorem d_Sf_allWithin_10 : decode c_Sf_allWithin 10 = .ok (.iaload, 1) := by decide +kernel
theorem d_Sf_allWithin_11 : decode c_Sf_allWithin 11 = .ok (.if_icmp .ge 33, 3) := by decide +kernel
theorem d_Sf_allWithin_14 : decode c_Sf_allWithin 14 = .ok (.aload_n 0, 1) := by decide +kernel
theorem d_Sf_allWithin_15 : decode c_Sf_allWithin 15 = .ok (.iload_n 1, 1) := by decide +kernel
theorem d_Sf_allWithin_16 : decode c_Sf_allWithin 16 = .ok (.iload 4, 2) := by decide +kernel
theorem d_Sf_allWithin_18 : decode c_Sf_allWithin 18 = .ok (.invokevirtual 29, 3) := by decide +kernel
theorem d_Sf_allWithin_21 : decode c_Sf_allWithin 21 = .ok (.iload_n 2, 1) := by decide +kernel
theorem d_Sf_allWithin_22 : decode c_Sf_allWithin 22 = .ok (.if_icmp .lt 14, 3) := by decide +kernel
theorem d_Sf_allWithin_25 : decode c_Sf_allWithin 25 = .ok (.aload_n 0, 1) := by decide +kernel
theorem d_Sf_allWithin_26 : decode c_Sf_allWithin 26 = .ok (.iload_n 1, 1) := by decide +kernel
theorem d_Sf_allWithin_27 : decode c_Sf_allWithin 27 = .ok (.iload 4, 2) := by decide +kernel
theorem d_Sf_allWithin_29 : decode c_Sf_allWithin 29 = .ok (.invokevirtual 29, 3) := by decide +kernel
theorem d_Sf_allWithin_32 : decode c_Sf_allWithin 32 = .ok (.iload_n 3, 1) := by decide +kernel
theorem d_Sf_allWithin_33 : decode c_Sf_allWithin 33 = .ok (.if_icmp .le 5, 3) := by decide +kernel
theorem d_Sf_allWithin_36 : decode c_Sf_allWithin 36 = .ok (.iconst 0, 1) := by decide +kernel
theorem d_Sf_allWithin_37 : decode c_Sf_allWithin 37 = .ok (.ireturn, 1) := by decide +kernel
theorem d_Sf_allWithin_38 : decode c_Sf_allWithin 38 = .ok (.iinc 4 1, 3) := by decide +kernel
theorem d_Sf_allWithin_41 : decode c_Sf_allWithin 41 = .ok (.goto (-38), 3) := by decide +kernel
theorem d_Sf_allWithin_44 : decode c_Sf_allWithin 44 = .ok (.iconst 1, 1) := by decide +kernel
theorem d_Sf_allWithin_45 : decode c_Sf_allWithin 45 = .ok (.ireturn, 1) := by decide +kernel
theorem d_Sf_hasTwins_0 : decode c_Sf_hasTwins 0 = .ok (.iconst 0, 1) := by decide +kernel
theorem d_Sf_hasTwins_1 : decode c_Sf_hasTwins 1 = .ok (.istore_n 2, 1) := by decide +kernel
theorem d_Sf_hasTwins_2 : decode c_Sf_hasTwins 2 = .ok (.iload_n 2, 1) := by decide +kernel
theorem d_Sf_hasTwins_3 : decode c_Sf_hasTwins 3 = .ok (.aload_n 0, 1) := by decide +kernel
theorem d_Sf_hasTwins_4 : decode c_Sf_hasTwins 4 = .ok (.getfield 15, 3) := by decide +kernel
theorem d_Sf_hasTwins_7 : decode c_Sf_hasTwins 7 = .ok (.iload_n 1, 1) := by decide +kernel
theorem d_Sf_hasTwins_8 : decode c_Sf_hasTwins 8 = .ok (.iaload, 1) := by decide +kernel
theorem d_Sf_hasTwins_9 : decode c_Sf_hasTwins 9 = .ok (.if_icmp .ge 46, 3) := by decide +kernel
theorem d_Sf_hasTwins_12 : decode c_Sf_hasTwins 12 = .ok (.iload_n 2, 1) := by decide +kernel
theorem d_Sf_hasTwins_13 : decode c_Sf_hasTwins 13 = .ok (.iconst 1, 1) := by decide +kernel
theorem d_Sf_hasTwins_14 : decode c_Sf_hasTwins 14 = .ok (.iadd, 1) := by decide +kernel
theorem d_Sf_hasTwins_15 : decode c_Sf_hasTwins 15 = .ok (.aload_n 0, 1) := by decide +kernel
theorem d_Sf_hasTwins_16 : decode c_Sf_hasTwins 16 = .ok (.getfield 15, 3) := by decide +kernel
theorem d_Sf_hasTwins_19 : decode c_Sf_hasTwins 19 = .ok (.iload_n 1, 1) := by decide +kernel
theorem d_Sf_hasTwins_20 : decode c_Sf_hasTwins 20 = .ok (.iaload, 1) := by decide +kernel
theorem d_Sf_hasTwins_21 : decode c_Sf_hasTwins 21 = .ok (.if_icmp .ge 9, 3) := by decide +kernel
theorem d_Sf_hasTwins_24 : decode c_Sf_hasTwins 24 = .ok (.iload_n 2, 1) := by decide +kernel
theorem d_Sf_hasTwins_25 : decode c_Sf_hasTwins 25 = .ok (.iconst 1, 1) := by decide +kernel
theorem d_Sf_hasTwins_26 : decode c_Sf_hasTwins 26 = .ok (.iadd, 1) := by decide +kernel
theorem d_Sf_hasTwins_27 : decode c_Sf_hasTwins 27 = .ok (.goto 4, 3) := by decide +kernel
theorem d_Sf_hasTwins_30 : decode c_Sf_hasTwins 30 = .ok (.iconst 0, 1) := by decide +kernel
theorem d_Sf_hasTwins_31 : decode c_Sf_hasTwins 31 = .ok (.istore_n 3, 1) := by decide +kernel
theorem d_Sf_hasTwins_32 : decode c_Sf_hasTwins 32 = .ok (.aload_n 0, 1) := by decide +kernel
theorem d_Sf_hasTwins_33 : decode c_Sf_hasTwins 33 = .ok (.iload_n 1, 1) := by decide +kernel
theorem d_Sf_hasTwins_34 : decode c_Sf_hasTwins 34 = .ok (.iload_n 2, 1) := by decide +kernel
theorem d_Sf_hasTwins_35 : decode c_Sf_hasTwins 35 = .ok (.invokevirtual 29, 3) := by decide +kernel
theorem d_Sf_hasTwins_38 : decode c_Sf_hasTwins 38 = .ok (.aload_n 0, 1) := by decide +kernel
theorem d_Sf_hasTwins_39 : decode c_Sf_hasTwins 39 = .ok (.iload_n 1, 1) := by decide +kernel
theorem d_Sf_hasTwins_40 : decode c_Sf_hasTwins 40 = .ok (.iload_n 3, 1) := by decide +kernel
theorem d_Sf_hasTwins_41 : decode c_Sf_hasTwins 41 = .ok (.invokevirtual 29, 3) := by decide +kernel
theorem d_Sf_hasTwins_44 : decode c_Sf_hasTwins 44 = .ok (.if_icmp .ne 5, 3) := by decide +kernel
theorem d_Sf_hasTwins_47 : decode c_Sf_hasTwins 47 = .ok (.iconst 1, 1) := by decide +kernel
theorem d_Sf_hasTwins_48 : decode c_Sf_hasTwins 48 = .ok (.ireturn, 1) := by decide +kernel
theorem d_Sf_hasTwins_49 : decode c_Sf_hasTwins 49 = .ok (.iinc 2 1, 3) := by decide +kernel
theorem d_Sf_hasTwins_52 : decode c_Sf_hasTwins 52 = .ok (.goto (-50), 3) := by decide +kernel
theorem d_Sf_hasTwins_55 : decode c_Sf_hasTwins 55 = .ok (.iconst 0, 1) := by decide +kernel
theorem d_Sf_hasTwins_56 : decode c_Sf_hasTwins 56 = .ok (.ireturn, 1) := by decide +kernel
theorem d_Sf_present_0 : decode c_Sf_present 0 = .ok (.iconst 0, 1) := by decide +kernel
theorem d_Sf_present_1 : decode c_Sf_present 1 = .ok (.istore_n 1, 1) := by decide +kernel
theorem d_Sf_present_2 : decode c_Sf_present 2 = .ok (.iconst 0, 1) := by decide +kernel
theorem d_Sf_present_3 : decode c_Sf_present 3 = .ok (.istore_n 2, 1) := by decide +kernel
theorem d_Sf_present_4 : decode c_Sf_present 4 = .ok (.iload_n 2, 1) := by decide +kernel
theorem d_Sf_present_5 : decode c_Sf_present 5 = .ok (.bipush 8, 2) := by decide +kernel
theorem d_Sf_present_7 : decode c_Sf_present 7 = .ok (.if_icmp .ge 25, 3) := by decide +kernel
theorem d_Sf_present_10 : decode c_Sf_present 10 = .ok (.iload_n 1, 1) := by decide +kernel
theorem d_Sf_present_11 : decode c_Sf_present 11 = .ok (.aload_n 0, 1) := by decide +kernel
theorem d_Sf_present_12 : decode c_Sf_present 12 = .ok (.iload_n 2, 1) := by decide +kernel
theorem d_Sf_present_13 : decode c_Sf_present 13 = .ok (.invokevirtual 33, 3) := by decide +kernel
theorem d_Sf_present_16 : decode c_Sf_present 16 = .ok (.ifCond .eq 7, 3) := by decide +kernel
theorem d_Sf_present_19 : decode c_Sf_present 19 = .ok (.iconst 0, 1) := by decide +kernel
theorem d_Sf_present_20 : decode c_Sf_present 20 = .ok (.goto 4, 3) := by decide +kernel
theorem d_Sf_present_23 : decode c_Sf_present 23 = .ok (.iconst 1, 1) := by decide +kernel
theorem d_Sf_present_24 : decode c_Sf_present 24 = .ok (.iadd, 1) := by decide +kernel
theorem d_Sf_present_25 : decode c_Sf_present 25 = .ok (.istore_n 1, 1) := by decide +kernel
theorem d_Sf_present_26 : decode c_Sf_present 26 = .ok (.iinc 2 1, 3) := by decide +kernel
theorem d_Sf_present_29 : decode c_Sf_present 29 = .ok (.goto (-25), 3) := by decide +kernel
theorem d_Sf_present_32 : decode c_Sf_present 32 = .ok (.iload_n 1, 1) := by decide +kernel
theorem d_Sf_present_33 : decode c_Sf_present 33 = .ok (.ireturn, 1) := by decide +kernel
theorem d_Sf_mixInto_0 : decode c_Sf_mixInto 0 = .ok (.lload_n 1, 1) := by decide +kernel
theorem d_Sf_mixInto_1 : decode c_Sf_mixInto 1 = .ok (.lstore_n 3, 1) := by decide +kernel
theorem d_Sf_mixInto_2 : decode c_Sf_mixInto 2 = .ok (.iconst 0, 1) := by decide +kernel
theorem d_Sf_mixInto_3 : decode c_Sf_mixInto 3 = .ok (.istore 5, 2) := by decide +kernel
theorem d_Sf_mixInto_5 : decode c_Sf_mixInto 5 = .ok (.iload 5, 2) := by decide +kernel
theorem d_Sf_mixInto_7 : decode c_Sf_mixInto 7 = .ok (.bipush 8, 2) := by decide +kernel
theorem d_Sf_mixInto_9 : decode c_Sf_mixInto 9 = .ok (.if_icmp .ge 61, 3) := by decide +kernel
theorem d_Sf_mixInto_12 : decode c_Sf_mixInto 12 = .ok (.ldc2_w 37, 3) := by decide +kernel
theorem d_Sf_mixInto_15 : decode c_Sf_mixInto 15 = .ok (.lload_n 3, 1) := by decide +kernel
theorem d_Sf_mixInto_16 : decode c_Sf_mixInto 16 = .ok (.lmul, 1) := by decide +kernel
theorem d_Sf_mixInto_17 : decode c_Sf_mixInto 17 = .ok (.aload_n 0, 1) := by decide +kernel
theorem d_Sf_mixInto_18 : decode c_Sf_mixInto 18 = .ok (.getfield 15, 3) := by decide +kernel
theorem d_Sf_mixInto_21 : decode c_Sf_mixInto 21 = .ok (.iload 5, 2) := by decide +kernel
theorem d_Sf_mixInto_23 : decode c_Sf_mixInto 23 = .ok (.iaload, 1) := by decide +kernel
theorem d_Sf_mixInto_24 : decode c_Sf_mixInto 24 = .ok (.i2l, 1) := by decide +kernel
theorem d_Sf_mixInto_25 : decode c_Sf_mixInto 25 = .ok (.ladd, 1) := by decide +kernel
theorem d_Sf_mixInto_26 : decode c_Sf_mixInto 26 = .ok (.lstore_n 3, 1) := by decide +kernel
theorem d_Sf_mixInto_27 : decode c_Sf_mixInto 27 = .ok (.iconst 0, 1) := by decide +kernel
theorem d_Sf_mixInto_28 : decode c_Sf_mixInto 28 = .ok (.istore 6, 2) := by decide +kernel
theorem d_Sf_mixInto_30 : decode c_Sf_mixInto 30 = .ok (.iload 6, 2) := by decide +kernel
theorem d_Sf_mixInto_32 : decode c_Sf_mixInto 32 = .ok (.aload_n 0, 1) := by decide +kernel
theorem d_Sf_mixInto_33 : decode c_Sf_mixInto 33 = .ok (.getfield 15, 3) := by decide +kernel
theorem d_Sf_mixInto_36 : decode c_Sf_mixInto 36 = .ok (.iload 5, 2) := by decide +kernel
theorem d_Sf_mixInto_38 : decode c_Sf_mixInto 38 = .ok (.iaload, 1) := by decide +kernel
theorem d_Sf_mixInto_39 : decode c_Sf_mixInto 39 = .ok (.if_icmp .ge 25, 3) := by decide +kernel
theorem d_Sf_mixInto_42 : decode c_Sf_mixInto 42 = .ok (.ldc2_w 37, 3) := by decide +kernel
theorem d_Sf_mixInto_45 : decode c_Sf_mixInto 45 = .ok (.lload_n 3, 1) := by decide +kernel
theorem d_Sf_mixInto_46 : decode c_Sf_mixInto 46 = .ok (.lmul, 1) := by decide +kernel
theorem d_Sf_mixInto_47 : decode c_Sf_mixInto 47 = .ok (.aload_n 0, 1) := by decide +kernel
theorem d_Sf_mixInto_48 : decode c_Sf_mixInto 48 = .ok (.iload 5, 2) := by decide +kernel
theorem d_Sf_mixInto_50 : decode c_Sf_mixInto 50 = .ok (.iload 6, 2) := by decide +kernel
theorem d_Sf_mixInto_52 : decode c_Sf_mixInto 52 = .ok (.invokevirtual 29, 3) := by decide +kernel
theorem d_Sf_mixInto_55 : decode c_Sf_mixInto 55 = .ok (.i2l, 1) := by decide +kernel
theorem d_Sf_mixInto_56 : decode c_Sf_mixInto 56 = .ok (.ladd, 1) := by decide +kernel
theorem d_Sf_mixInto_57 : decode c_Sf_mixInto 57 = .ok (.lstore_n 3, 1) := by decide +kernel
theorem d_Sf_mixInto_58 : decode c_Sf_mixInto 58 = .ok (.iinc 6 1, 3) := by decide +kernel
theorem d_Sf_mixInto_61 : decode c_Sf_mixInto 61 = .ok (.goto (-31), 3) := by decide +kernel
theorem d_Sf_mixInto_64 : decode c_Sf_mixInto 64 = .ok (.iinc 5 1, 3) := by decide +kernel
theorem d_Sf_mixInto_67 : decode c_Sf_mixInto 67 = .ok (.goto (-62), 3) := by decide +kernel
theorem d_Sf_mixInto_70 : decode c_Sf_mixInto 70 = .ok (.lload_n 3, 1) := by decide +kernel
theorem d_Sf_mixInto_71 : decode c_Sf_mixInto 71 = .ok (.lreturn, 1) := by decide +kernel
