/-! decode rows (by program) -/
theorem d_Ta_init_0 : decode c_Ta_init 0 = .ok (.aload_n 0, 1) := by decide +kernel
theorem d_Ta_init_1 : decode c_Ta_init 1 = .ok (.invokespecial 3, 3) := by decide +kernel
theorem d_Ta_init_4 : decode c_Ta_init 4 = .ok (.aload_n 0, 1) := by decide +kernel
theorem d_Ta_init_5 : decode c_Ta_init 5 = .ok (.bipush 6, 2) := by decide +kernel
theorem d_Ta_init_7 : decode c_Ta_init 7 = .ok (.newarray .int, 2) := by decide +kernel
theorem d_Ta_init_9 : decode c_Ta_init 9 = .ok (.putfield 9, 3) := by decide +kernel
theorem d_Ta_init_12 : decode c_Ta_init 12 = .ok (.aload_n 0, 1) := by decide +kernel
theorem d_Ta_init_13 : decode c_Ta_init 13 = .ok (.iconst 0, 1) := by decide +kernel
theorem d_Ta_init_14 : decode c_Ta_init 14 = .ok (.putfield 15, 3) := by decide +kernel
theorem d_Ta_init_17 : decode c_Ta_init 17 = .ok (.aload_n 0, 1) := by decide +kernel
theorem d_Ta_init_18 : decode c_Ta_init 18 = .ok (.iconst 0, 1) := by decide +kernel
theorem d_Ta_init_19 : decode c_Ta_init 19 = .ok (.putfield 19, 3) := by decide +kernel
theorem d_Ta_init_22 : decode c_Ta_init 22 = .ok (.aload_n 0, 1) := by decide +kernel
theorem d_Ta_init_23 : decode c_Ta_init 23 = .ok (.lconst 0, 1) := by decide +kernel
theorem d_Ta_init_24 : decode c_Ta_init 24 = .ok (.putfield 22, 3) := by decide +kernel
theorem d_Ta_init_27 : decode c_Ta_init 27 = .ok (.aload_n 0, 1) := by decide +kernel
theorem d_Ta_init_28 : decode c_Ta_init 28 = .ok (.lconst 1, 1) := by decide +kernel
theorem d_Ta_init_29 : decode c_Ta_init 29 = .ok (.putfield 26, 3) := by decide +kernel
theorem d_Ta_init_32 : decode c_Ta_init 32 = .ok (.return_, 1) := by decide +kernel
theorem d_Ta_found_0 : decode c_Ta_found 0 = .ok (.aload_n 0, 1) := by decide +kernel
theorem d_Ta_found_1 : decode c_Ta_found 1 = .ok (.iload_n 1, 1) := by decide +kernel
theorem d_Ta_found_2 : decode c_Ta_found 2 = .ok (.putfield 15, 3) := by decide +kernel
theorem d_Ta_found_5 : decode c_Ta_found 5 = .ok (.aload_n 0, 1) := by decide +kernel
theorem d_Ta_found_6 : decode c_Ta_found 6 = .ok (.getfield 9, 3) := by decide +kernel
theorem d_Ta_found_9 : decode c_Ta_found 9 = .ok (.iload_n 1, 1) := by decide +kernel
theorem d_Ta_found_10 : decode c_Ta_found 10 = .ok (.dup2, 1) := by decide +kernel
theorem d_Ta_found_11 : decode c_Ta_found 11 = .ok (.iaload, 1) := by decide +kernel
theorem d_Ta_found_12 : decode c_Ta_found 12 = .ok (.iconst 1, 1) := by decide +kernel
theorem d_Ta_found_13 : decode c_Ta_found 13 = .ok (.iadd, 1) := by decide +kernel
theorem d_Ta_found_14 : decode c_Ta_found 14 = .ok (.iastore, 1) := by decide +kernel
theorem d_Ta_found_15 : decode c_Ta_found 15 = .ok (.bipush (-3), 2) := by decide +kernel
theorem d_Ta_found_17 : decode c_Ta_found 17 = .ok (.ireturn, 1) := by decide +kernel
theorem d_Ta_tellFraction_0 : decode c_Ta_tellFraction 0 = .ok (.lload_n 1, 1) := by decide +kernel
theorem d_Ta_tellFraction_1 : decode c_Ta_tellFraction 1 = .ok (.lload_n 3, 1) := by decide +kernel
theorem d_Ta_tellFraction_2 : decode c_Ta_tellFraction 2 = .ok (.invokestatic 29, 3) := by decide +kernel
theorem d_Ta_tellFraction_5 : decode c_Ta_tellFraction 5 = .ok (.lstore 5, 2) := by decide +kernel
theorem d_Ta_tellFraction_7 : decode c_Ta_tellFraction 7 = .ok (.lload 5, 2) := by decide +kernel
theorem d_Ta_tellFraction_9 : decode c_Ta_tellFraction 9 = .ok (.lconst 0, 1) := by decide +kernel
theorem d_Ta_tellFraction_10 : decode c_Ta_tellFraction 10 = .ok (.lcmp, 1) := by decide +kernel
theorem d_Ta_tellFraction_11 : decode c_Ta_tellFraction 11 = .ok (.ifCond .le 19, 3) := by decide +kernel
theorem d_Ta_tellFraction_14 : decode c_Ta_tellFraction 14 = .ok (.aload_n 0, 1) := by decide +kernel
theorem d_Ta_tellFraction_15 : decode c_Ta_tellFraction 15 = .ok (.lload_n 1, 1) := by decide +kernel
theorem d_Ta_tellFraction_16 : decode c_Ta_tellFraction 16 = .ok (.lload 5, 2) := by decide +kernel
theorem d_Ta_tellFraction_18 : decode c_Ta_tellFraction 18 = .ok (.ldiv, 1) := by decide +kernel
theorem d_Ta_tellFraction_19 : decode c_Ta_tellFraction 19 = .ok (.putfield 22, 3) := by decide +kernel
theorem d_Ta_tellFraction_22 : decode c_Ta_tellFraction 22 = .ok (.aload_n 0, 1) := by decide +kernel
theorem d_Ta_tellFraction_23 : decode c_Ta_tellFraction 23 = .ok (.lload_n 3, 1) := by decide +kernel
theorem d_Ta_tellFraction_24 : decode c_Ta_tellFraction 24 = .ok (.lload 5, 2) := by decide +kernel
theorem d_Ta_tellFraction_26 : decode c_Ta_tellFraction 26 = .ok (.ldiv, 1) := by decide +kernel
theorem d_Ta_tellFraction_27 : decode c_Ta_tellFraction 27 = .ok (.putfield 26, 3) := by decide +kernel
theorem d_Ta_tellFraction_30 : decode c_Ta_tellFraction 30 = .ok (.return_, 1) := by decide +kernel
