/-! decode rows (by program) -/
theorem d_Me_init_0 : decode c_Me_init 0 = .ok (.aload_n 0, 1) := by decide +kernel
theorem d_Me_init_1 : decode c_Me_init 1 = .ok (.invokespecial 3, 3) := by decide +kernel
theorem d_Me_init_4 : decode c_Me_init 4 = .ok (.aload_n 0, 1) := by decide +kernel
theorem d_Me_init_5 : decode c_Me_init 5 = .ok (.bipush 8, 2) := by decide +kernel
theorem d_Me_init_7 : decode c_Me_init 7 = .ok (.newarray .long, 2) := by decide +kernel
theorem d_Me_init_9 : decode c_Me_init 9 = .ok (.putfield 9, 3) := by decide +kernel
theorem d_Me_init_12 : decode c_Me_init 12 = .ok (.aload_n 0, 1) := by decide +kernel
theorem d_Me_init_13 : decode c_Me_init 13 = .ok (.aload_n 1, 1) := by decide +kernel
theorem d_Me_init_14 : decode c_Me_init 14 = .ok (.putfield 15, 3) := by decide +kernel
theorem d_Me_init_17 : decode c_Me_init 17 = .ok (.aload_n 0, 1) := by decide +kernel
theorem d_Me_init_18 : decode c_Me_init 18 = .ok (.new 19, 3) := by decide +kernel
theorem d_Me_init_21 : decode c_Me_init 21 = .ok (.dup, 1) := by decide +kernel
theorem d_Me_init_22 : decode c_Me_init 22 = .ok (.aload_n 1, 1) := by decide +kernel
theorem d_Me_init_23 : decode c_Me_init 23 = .ok (.iconst 0, 1) := by decide +kernel
theorem d_Me_init_24 : decode c_Me_init 24 = .ok (.invokevirtual 21, 3) := by decide +kernel
theorem d_Me_init_27 : decode c_Me_init 27 = .ok (.invokespecial 27, 3) := by decide +kernel
theorem d_Me_init_30 : decode c_Me_init 30 = .ok (.putfield 30, 3) := by decide +kernel
theorem d_Me_init_33 : decode c_Me_init 33 = .ok (.aload_n 0, 1) := by decide +kernel
theorem d_Me_init_34 : decode c_Me_init 34 = .ok (.new 19, 3) := by decide +kernel
theorem d_Me_init_37 : decode c_Me_init 37 = .ok (.dup, 1) := by decide +kernel
theorem d_Me_init_38 : decode c_Me_init 38 = .ok (.aload_n 1, 1) := by decide +kernel
theorem d_Me_init_39 : decode c_Me_init 39 = .ok (.iconst 0, 1) := by decide +kernel
theorem d_Me_init_40 : decode c_Me_init 40 = .ok (.invokevirtual 21, 3) := by decide +kernel
theorem d_Me_init_43 : decode c_Me_init 43 = .ok (.invokespecial 27, 3) := by decide +kernel
theorem d_Me_init_46 : decode c_Me_init 46 = .ok (.putfield 34, 3) := by decide +kernel
theorem d_Me_init_49 : decode c_Me_init 49 = .ok (.return_, 1) := by decide +kernel
theorem d_Me_firstOf_0 : decode c_Me_firstOf 0 = .ok (.aload_n 0, 1) := by decide +kernel
theorem d_Me_firstOf_1 : decode c_Me_firstOf 1 = .ok (.getfield 15, 3) := by decide +kernel
theorem d_Me_firstOf_4 : decode c_Me_firstOf 4 = .ok (.iconst 1, 1) := by decide +kernel
theorem d_Me_firstOf_5 : decode c_Me_firstOf 5 = .ok (.iload_n 1, 1) := by decide +kernel
theorem d_Me_firstOf_6 : decode c_Me_firstOf 6 = .ok (.ishl, 1) := by decide +kernel
theorem d_Me_firstOf_7 : decode c_Me_firstOf 7 = .ok (.iconst 1, 1) := by decide +kernel
theorem d_Me_firstOf_8 : decode c_Me_firstOf 8 = .ok (.iload_n 2, 1) := by decide +kernel
theorem d_Me_firstOf_9 : decode c_Me_firstOf 9 = .ok (.ishl, 1) := by decide +kernel
theorem d_Me_firstOf_10 : decode c_Me_firstOf 10 = .ok (.ior, 1) := by decide +kernel
theorem d_Me_firstOf_11 : decode c_Me_firstOf 11 = .ok (.invokevirtual 37, 3) := by decide +kernel
theorem d_Me_firstOf_14 : decode c_Me_firstOf 14 = .ok (.istore 5, 2) := by decide +kernel
theorem d_Me_firstOf_16 : decode c_Me_firstOf 16 = .ok (.lload_n 3, 1) := by decide +kernel
theorem d_Me_firstOf_17 : decode c_Me_firstOf 17 = .ok (.iload 5, 2) := by decide +kernel
theorem d_Me_firstOf_19 : decode c_Me_firstOf 19 = .ok (.i2l, 1) := by decide +kernel
theorem d_Me_firstOf_20 : decode c_Me_firstOf 20 = .ok (.ldc2_w 41, 3) := by decide +kernel
theorem d_Me_firstOf_23 : decode c_Me_firstOf 23 = .ok (.lmul, 1) := by decide +kernel
theorem d_Me_firstOf_24 : decode c_Me_firstOf 24 = .ok (.ladd, 1) := by decide +kernel
theorem d_Me_firstOf_25 : decode c_Me_firstOf 25 = .ok (.lstore 6, 2) := by decide +kernel
theorem d_Me_firstOf_27 : decode c_Me_firstOf 27 = .ok (.aload_n 0, 1) := by decide +kernel
theorem d_Me_firstOf_28 : decode c_Me_firstOf 28 = .ok (.getfield 30, 3) := by decide +kernel
theorem d_Me_firstOf_31 : decode c_Me_firstOf 31 = .ok (.aload_n 0, 1) := by decide +kernel
theorem d_Me_firstOf_32 : decode c_Me_firstOf 32 = .ok (.getfield 15, 3) := by decide +kernel
theorem d_Me_firstOf_35 : decode c_Me_firstOf 35 = .ok (.iload_n 1, 1) := by decide +kernel
theorem d_Me_firstOf_36 : decode c_Me_firstOf 36 = .ok (.invokevirtual 21, 3) := by decide +kernel
theorem d_Me_firstOf_39 : decode c_Me_firstOf 39 = .ok (.lload_n 3, 1) := by decide +kernel
theorem d_Me_firstOf_40 : decode c_Me_firstOf 40 = .ok (.invokevirtual 43, 3) := by decide +kernel
theorem d_Me_firstOf_43 : decode c_Me_firstOf 43 = .ok (.aload_n 0, 1) := by decide +kernel
theorem d_Me_firstOf_44 : decode c_Me_firstOf 44 = .ok (.getfield 34, 3) := by decide +kernel
theorem d_Me_firstOf_47 : decode c_Me_firstOf 47 = .ok (.aload_n 0, 1) := by decide +kernel
theorem d_Me_firstOf_48 : decode c_Me_firstOf 48 = .ok (.getfield 15, 3) := by decide +kernel
theorem d_Me_firstOf_51 : decode c_Me_firstOf 51 = .ok (.iload_n 2, 1) := by decide +kernel
theorem d_Me_firstOf_52 : decode c_Me_firstOf 52 = .ok (.invokevirtual 21, 3) := by decide +kernel
theorem d_Me_firstOf_55 : decode c_Me_firstOf 55 = .ok (.lload_n 3, 1) := by decide +kernel
theorem d_Me_firstOf_56 : decode c_Me_firstOf 56 = .ok (.invokevirtual 43, 3) := by decide +kernel
theorem d_Me_firstOf_59 : decode c_Me_firstOf 59 = .ok (.iconst 0, 1) := by decide +kernel
theorem d_Me_firstOf_60 : decode c_Me_firstOf 60 = .ok (.istore 8, 2) := by decide +kernel
theorem d_Me_firstOf_62 : decode c_Me_firstOf 62 = .ok (.iload 8, 2) := by decide +kernel
theorem d_Me_firstOf_64 : decode c_Me_firstOf 64 = .ok (.sipush 2980, 3) := by decide +kernel
theorem d_Me_firstOf_67 : decode c_Me_firstOf 67 = .ok (.if_icmp .ge 140, 3) := by decide +kernel
theorem d_Me_firstOf_70 : decode c_Me_firstOf 70 = .ok (.lload_n 3, 1) := by decide +kernel
theorem d_Me_firstOf_71 : decode c_Me_firstOf 71 = .ok (.aload_n 0, 1) := by decide +kernel
theorem d_Me_firstOf_72 : decode c_Me_firstOf 72 = .ok (.getfield 30, 3) := by decide +kernel
theorem d_Me_firstOf_75 : decode c_Me_firstOf 75 = .ok (.getfield 47, 3) := by decide +kernel
theorem d_Me_firstOf_78 : decode c_Me_firstOf 78 = .ok (.aload_n 0, 1) := by decide +kernel
theorem d_Me_firstOf_79 : decode c_Me_firstOf 79 = .ok (.getfield 34, 3) := by decide +kernel
theorem d_Me_firstOf_82 : decode c_Me_firstOf 82 = .ok (.getfield 47, 3) := by decide +kernel
theorem d_Me_firstOf_85 : decode c_Me_firstOf 85 = .ok (.invokestatic 51, 3) := by decide +kernel
theorem d_Me_firstOf_88 : decode c_Me_firstOf 88 = .ok (.ldc2_w 41, 3) := by decide +kernel
theorem d_Me_firstOf_91 : decode c_Me_firstOf 91 = .ok (.lmul, 1) := by decide +kernel
theorem d_Me_firstOf_92 : decode c_Me_firstOf 92 = .ok (.invokestatic 51, 3) := by decide +kernel
theorem d_Me_firstOf_95 : decode c_Me_firstOf 95 = .ok (.lstore 9, 2) := by decide +kernel
theorem d_Me_firstOf_97 : decode c_Me_firstOf 97 = .ok (.lload 9, 2) := by decide +kernel
theorem d_Me_firstOf_99 : decode c_Me_firstOf 99 = .ok (.lload 6, 2) := by decide +kernel
theorem d_Me_firstOf_101 : decode c_Me_firstOf 101 = .ok (.lcmp, 1) := by decide +kernel
theorem d_Me_firstOf_102 : decode c_Me_firstOf 102 = .ok (.ifCond .le 7, 3) := by decide +kernel
theorem d_Me_firstOf_105 : decode c_Me_firstOf 105 = .ok (.ldc2_w 57, 3) := by decide +kernel
theorem d_Me_firstOf_108 : decode c_Me_firstOf 108 = .ok (.lreturn, 1) := by decide +kernel
theorem d_Me_firstOf_109 : decode c_Me_firstOf 109 = .ok (.aload_n 0, 1) := by decide +kernel
theorem d_Me_firstOf_110 : decode c_Me_firstOf 110 = .ok (.lload 9, 2) := by decide +kernel
theorem d_Me_firstOf_112 : decode c_Me_firstOf 112 = .ok (.invokevirtual 59, 3) := by decide +kernel
theorem d_Me_firstOf_115 : decode c_Me_firstOf 115 = .ok (.lstore 11, 2) := by decide +kernel
theorem d_Me_firstOf_117 : decode c_Me_firstOf 117 = .ok (.lload 11, 2) := by decide +kernel
theorem d_Me_firstOf_119 : decode c_Me_firstOf 119 = .ok (.ldc2_w 57, 3) := by decide +kernel
theorem d_Me_firstOf_122 : decode c_Me_firstOf 122 = .ok (.lcmp, 1) := by decide +kernel
theorem d_Me_firstOf_123 : decode c_Me_firstOf 123 = .ok (.ifCond .eq 6, 3) := by decide +kernel
theorem d_Me_firstOf_126 : decode c_Me_firstOf 126 = .ok (.lload 11, 2) := by decide +kernel
theorem d_Me_firstOf_128 : decode c_Me_firstOf 128 = .ok (.lreturn, 1) := by decide +kernel
theorem d_Me_firstOf_129 : decode c_Me_firstOf 129 = .ok (.aload_n 0, 1) := by decide +kernel
theorem d_Me_firstOf_130 : decode c_Me_firstOf 130 = .ok (.getfield 30, 3) := by decide +kernel
theorem d_Me_firstOf_133 : decode c_Me_firstOf 133 = .ok (.getfield 63, 3) := by decide +kernel
theorem d_Me_firstOf_136 : decode c_Me_firstOf 136 = .ok (.aload_n 0, 1) := by decide +kernel
theorem d_Me_firstOf_137 : decode c_Me_firstOf 137 = .ok (.getfield 34, 3) := by decide +kernel
theorem d_Me_firstOf_140 : decode c_Me_firstOf 140 = .ok (.getfield 63, 3) := by decide +kernel
theorem d_Me_firstOf_143 : decode c_Me_firstOf 143 = .ok (.invokestatic 66, 3) := by decide +kernel
theorem d_Me_firstOf_146 : decode c_Me_firstOf 146 = .ok (.lstore 13, 2) := by decide +kernel
theorem d_Me_firstOf_148 : decode c_Me_firstOf 148 = .ok (.lload 13, 2) := by decide +kernel
theorem d_Me_firstOf_150 : decode c_Me_firstOf 150 = .ok (.ldc2_w 69, 3) := by decide +kernel
theorem d_Me_firstOf_153 : decode c_Me_firstOf 153 = .ok (.lcmp, 1) := by decide +kernel
theorem d_Me_firstOf_154 : decode c_Me_firstOf 154 = .ok (.ifCond .lt 7, 3) := by decide +kernel
theorem d_Me_firstOf_157 : decode c_Me_firstOf 157 = .ok (.ldc2_w 57, 3) := by decide +kernel
theorem d_Me_firstOf_160 : decode c_Me_firstOf 160 = .ok (.lreturn, 1) := by decide +kernel
theorem d_Me_firstOf_161 : decode c_Me_firstOf 161 = .ok (.aload_n 0, 1) := by decide +kernel
theorem d_Me_firstOf_162 : decode c_Me_firstOf 162 = .ok (.getfield 30, 3) := by decide +kernel
theorem d_Me_firstOf_165 : decode c_Me_firstOf 165 = .ok (.getfield 63, 3) := by decide +kernel
theorem d_Me_firstOf_168 : decode c_Me_firstOf 168 = .ok (.lload 13, 2) := by decide +kernel
theorem d_Me_firstOf_170 : decode c_Me_firstOf 170 = .ok (.lcmp, 1) := by decide +kernel
theorem d_Me_firstOf_171 : decode c_Me_firstOf 171 = .ok (.ifCond .gt 10, 3) := by decide +kernel
theorem d_Me_firstOf_174 : decode c_Me_firstOf 174 = .ok (.aload_n 0, 1) := by decide +kernel
theorem d_Me_firstOf_175 : decode c_Me_firstOf 175 = .ok (.getfield 30, 3) := by decide +kernel
theorem d_Me_firstOf_178 : decode c_Me_firstOf 178 = .ok (.invokevirtual 71, 3) := by decide +kernel
theorem d_Me_firstOf_181 : decode c_Me_firstOf 181 = .ok (.aload_n 0, 1) := by decide +kernel
theorem d_Me_firstOf_182 : decode c_Me_firstOf 182 = .ok (.getfield 34, 3) := by decide +kernel
theorem d_Me_firstOf_185 : decode c_Me_firstOf 185 = .ok (.getfield 63, 3) := by decide +kernel
theorem d_Me_firstOf_188 : decode c_Me_firstOf 188 = .ok (.lload 13, 2) := by decide +kernel
theorem d_Me_firstOf_190 : decode c_Me_firstOf 190 = .ok (.lcmp, 1) := by decide +kernel
theorem d_Me_firstOf_191 : decode c_Me_firstOf 191 = .ok (.ifCond .gt 10, 3) := by decide +kernel
theorem d_Me_firstOf_194 : decode c_Me_firstOf 194 = .ok (.aload_n 0, 1) := by decide +kernel
theorem d_Me_firstOf_195 : decode c_Me_firstOf 195 = .ok (.getfield 34, 3) := by decide +kernel
theorem d_Me_firstOf_198 : decode c_Me_firstOf 198 = .ok (.invokevirtual 71, 3) := by decide +kernel
theorem d_Me_firstOf_201 : decode c_Me_firstOf 201 = .ok (.iinc 8 1, 3) := by decide +kernel
theorem d_Me_firstOf_204 : decode c_Me_firstOf 204 = .ok (.goto (-142), 3) := by decide +kernel
theorem d_Me_firstOf_207 : decode c_Me_firstOf 207 = .ok (.ldc2_w 57, 3) := by decide +kernel
theorem d_Me_firstOf_210 : decode c_Me_firstOf 210 = .ok (.lreturn, 1) := by decide +kernel
theorem d_Me_together_0 : decode c_Me_together 0 = .ok (.aload_n 0, 1) := by decide +kernel
theorem d_Me_together_1 : decode c_Me_together 1 = .ok (.getfield 30, 3) := by decide +kernel
theorem d_Me_together_4 : decode c_Me_together 4 = .ok (.getfield 74, 3) := by decide +kernel
theorem d_Me_together_7 : decode c_Me_together 7 = .ok (.aload_n 0, 1) := by decide +kernel
theorem d_Me_together_8 : decode c_Me_together 8 = .ok (.getfield 34, 3) := by decide +kernel
theorem d_Me_together_11 : decode c_Me_together 11 = .ok (.getfield 74, 3) := by decide +kernel
theorem d_Me_together_14 : decode c_Me_together 14 = .ok (.if_icmp .ne 31, 3) := by decide +kernel
theorem d_Me_together_17 : decode c_Me_together 17 = .ok (.lload_n 1, 1) := by decide +kernel
theorem d_Me_together_18 : decode c_Me_together 18 = .ok (.aload_n 0, 1) := by decide +kernel
theorem d_Me_together_19 : decode c_Me_together 19 = .ok (.getfield 30, 3) := by decide +kernel
theorem d_Me_together_22 : decode c_Me_together 22 = .ok (.getfield 78, 3) := by decide +kernel
theorem d_Me_together_25 : decode c_Me_together 25 = .ok (.aload_n 0, 1) := by decide +kernel
theorem d_Me_together_26 : decode c_Me_together 26 = .ok (.getfield 34, 3) := by decide +kernel
theorem d_Me_together_29 : decode c_Me_together 29 = .ok (.getfield 78, 3) := by decide +kernel
theorem d_Me_together_32 : decode c_Me_together 32 = .ok (.invokestatic 66, 3) := by decide +kernel
theorem d_Me_together_35 : decode c_Me_together 35 = .ok (.ldc2_w 41, 3) := by decide +kernel
theorem d_Me_together_38 : decode c_Me_together 38 = .ok (.lmul, 1) := by decide +kernel
theorem d_Me_together_39 : decode c_Me_together 39 = .ok (.lcmp, 1) := by decide +kernel
theorem d_Me_together_40 : decode c_Me_together 40 = .ok (.ifCond .gt 5, 3) := by decide +kernel
theorem d_Me_together_43 : decode c_Me_together 43 = .ok (.lload_n 1, 1) := by decide +kernel
theorem d_Me_together_44 : decode c_Me_together 44 = .ok (.lreturn, 1) := by decide +kernel
theorem d_Me_together_45 : decode c_Me_together 45 = .ok (.lload_n 1, 1) := by decide +kernel
theorem d_Me_together_46 : decode c_Me_together 46 = .ok (.aload_n 0, 1) := by decide +kernel
theorem d_Me_together_47 : decode c_Me_together 47 = .ok (.getfield 30, 3) := by decide +kernel
theorem d_Me_together_50 : decode c_Me_together 50 = .ok (.getfield 78, 3) := by decide +kernel
theorem d_Me_together_53 : decode c_Me_together 53 = .ok (.aload_n 0, 1) := by decide +kernel
theorem d_Me_together_54 : decode c_Me_together 54 = .ok (.getfield 34, 3) := by decide +kernel
theorem d_Me_together_57 : decode c_Me_together 57 = .ok (.getfield 78, 3) := by decide +kernel
theorem d_Me_together_60 : decode c_Me_together 60 = .ok (.invokestatic 51, 3) := by decide +kernel
theorem d_Me_together_63 : decode c_Me_together 63 = .ok (.ldc2_w 41, 3) := by decide +kernel
theorem d_Me_together_66 : decode c_Me_together 66 = .ok (.lmul, 1) := by decide +kernel
theorem d_Me_together_67 : decode c_Me_together 67 = .ok (.invokestatic 51, 3) := by decide +kernel
theorem d_Me_together_70 : decode c_Me_together 70 = .ok (.lstore_n 3, 1) := by decide +kernel
theorem d_Me_together_71 : decode c_Me_together 71 = .ok (.aload_n 0, 1) := by decide +kernel
theorem d_Me_together_72 : decode c_Me_together 72 = .ok (.getfield 30, 3) := by decide +kernel
theorem d_Me_together_75 : decode c_Me_together 75 = .ok (.getfield 63, 3) := by decide +kernel
theorem d_Me_together_78 : decode c_Me_together 78 = .ok (.aload_n 0, 1) := by decide +kernel
theorem d_Me_together_79 : decode c_Me_together 79 = .ok (.getfield 34, 3) := by decide +kernel
theorem d_Me_together_82 : decode c_Me_together 82 = .ok (.getfield 63, 3) := by decide +kernel
theorem d_Me_together_85 : decode c_Me_together 85 = .ok (.invokestatic 66, 3) := by decide +kernel
theorem d_Me_together_88 : decode c_Me_together 88 = .ok (.ldc2_w 41, 3) := by decide +kernel
theorem d_Me_together_91 : decode c_Me_together 91 = .ok (.lmul, 1) := by decide +kernel
theorem d_Me_together_92 : decode c_Me_together 92 = .ok (.lstore 5, 2) := by decide +kernel
theorem d_Me_together_94 : decode c_Me_together 94 = .ok (.lload_n 3, 1) := by decide +kernel
theorem d_Me_together_95 : decode c_Me_together 95 = .ok (.lload 5, 2) := by decide +kernel
theorem d_Me_together_97 : decode c_Me_together 97 = .ok (.lcmp, 1) := by decide +kernel
theorem d_Me_together_98 : decode c_Me_together 98 = .ok (.ifCond .lt 7, 3) := by decide +kernel
theorem d_Me_together_101 : decode c_Me_together 101 = .ok (.ldc2_w 57, 3) := by decide +kernel
theorem d_Me_together_104 : decode c_Me_together 104 = .ok (.lreturn, 1) := by decide +kernel
theorem d_Me_together_105 : decode c_Me_together 105 = .ok (.aload_n 0, 1) := by decide +kernel
theorem d_Me_together_106 : decode c_Me_together 106 = .ok (.getfield 30, 3) := by decide +kernel
theorem d_Me_together_109 : decode c_Me_together 109 = .ok (.getfield 74, 3) := by decide +kernel
theorem d_Me_together_112 : decode c_Me_together 112 = .ok (.aload_n 0, 1) := by decide +kernel
theorem d_Me_together_113 : decode c_Me_together 113 = .ok (.getfield 34, 3) := by decide +kernel
theorem d_Me_together_116 : decode c_Me_together 116 = .ok (.getfield 74, 3) := by decide +kernel
theorem d_Me_together_119 : decode c_Me_together 119 = .ok (.if_icmp .ne 28, 3) := by decide +kernel
theorem d_Me_together_122 : decode c_Me_together 122 = .ok (.aload_n 0, 1) := by decide +kernel
theorem d_Me_together_123 : decode c_Me_together 123 = .ok (.getfield 30, 3) := by decide +kernel
theorem d_Me_together_126 : decode c_Me_together 126 = .ok (.getfield 81, 3) := by decide +kernel
theorem d_Me_together_129 : decode c_Me_together 129 = .ok (.aload_n 0, 1) := by decide +kernel
theorem d_Me_together_130 : decode c_Me_together 130 = .ok (.getfield 34, 3) := by decide +kernel
theorem d_Me_together_133 : decode c_Me_together 133 = .ok (.getfield 81, 3) := by decide +kernel
theorem d_Me_together_136 : decode c_Me_together 136 = .ok (.if_icmp .ne 11, 3) := by decide +kernel
theorem d_Me_together_139 : decode c_Me_together 139 = .ok (.aload_n 0, 1) := by decide +kernel
theorem d_Me_together_140 : decode c_Me_together 140 = .ok (.lload_n 3, 1) := by decide +kernel
theorem d_Me_together_141 : decode c_Me_together 141 = .ok (.lload 5, 2) := by decide +kernel
theorem d_Me_together_143 : decode c_Me_together 143 = .ok (.invokevirtual 84, 3) := by decide +kernel
theorem d_Me_together_146 : decode c_Me_together 146 = .ok (.lreturn, 1) := by decide +kernel
theorem d_Me_together_147 : decode c_Me_together 147 = .ok (.aload_n 0, 1) := by decide +kernel
theorem d_Me_together_148 : decode c_Me_together 148 = .ok (.getfield 30, 3) := by decide +kernel
theorem d_Me_together_151 : decode c_Me_together 151 = .ok (.getfield 74, 3) := by decide +kernel
theorem d_Me_together_154 : decode c_Me_together 154 = .ok (.aload_n 0, 1) := by decide +kernel
theorem d_Me_together_155 : decode c_Me_together 155 = .ok (.getfield 34, 3) := by decide +kernel
theorem d_Me_together_158 : decode c_Me_together 158 = .ok (.getfield 81, 3) := by decide +kernel
theorem d_Me_together_161 : decode c_Me_together 161 = .ok (.if_icmp .ne 28, 3) := by decide +kernel
theorem d_Me_together_164 : decode c_Me_together 164 = .ok (.aload_n 0, 1) := by decide +kernel
theorem d_Me_together_165 : decode c_Me_together 165 = .ok (.getfield 30, 3) := by decide +kernel
theorem d_Me_together_168 : decode c_Me_together 168 = .ok (.getfield 81, 3) := by decide +kernel
theorem d_Me_together_171 : decode c_Me_together 171 = .ok (.aload_n 0, 1) := by decide +kernel
theorem d_Me_together_172 : decode c_Me_together 172 = .ok (.getfield 34, 3) := by decide +kernel
theorem d_Me_together_175 : decode c_Me_together 175 = .ok (.getfield 74, 3) := by decide +kernel
theorem d_Me_together_178 : decode c_Me_together 178 = .ok (.if_icmp .ne 11, 3) := by decide +kernel
theorem d_Me_together_181 : decode c_Me_together 181 = .ok (.aload_n 0, 1) := by decide +kernel
theorem d_Me_together_182 : decode c_Me_together 182 = .ok (.lload_n 3, 1) := by decide +kernel
theorem d_Me_together_183 : decode c_Me_together 183 = .ok (.lload 5, 2) := by decide +kernel
theorem d_Me_together_185 : decode c_Me_together 185 = .ok (.invokevirtual 87, 3) := by decide +kernel
theorem d_Me_together_188 : decode c_Me_together 188 = .ok (.lreturn, 1) := by decide +kernel
theorem d_Me_together_189 : decode c_Me_together 189 = .ok (.ldc2_w 57, 3) := by decide +kernel
theorem d_Me_together_192 : decode c_Me_together 192 = .ok (.lreturn, 1) := by decide +kernel
theorem d_Me_sameWay_0 : decode c_Me_sameWay 0 = .ok (.aload_n 0, 1) := by decide +kernel
theorem d_Me_sameWay_1 : decode c_Me_sameWay 1 = .ok (.getfield 30, 3) := by decide +kernel
theorem d_Me_sameWay_4 : decode c_Me_sameWay 4 = .ok (.getfield 90, 3) := by decide +kernel
theorem d_Me_sameWay_7 : decode c_Me_sameWay 7 = .ok (.aload_n 0, 1) := by decide +kernel
theorem d_Me_sameWay_8 : decode c_Me_sameWay 8 = .ok (.getfield 34, 3) := by decide +kernel
theorem d_Me_sameWay_11 : decode c_Me_sameWay 11 = .ok (.getfield 90, 3) := by decide +kernel
theorem d_Me_sameWay_14 : decode c_Me_sameWay 14 = .ok (.isub, 1) := by decide +kernel
theorem d_Me_sameWay_15 : decode c_Me_sameWay 15 = .ok (.i2l, 1) := by decide +kernel
theorem d_Me_sameWay_16 : decode c_Me_sameWay 16 = .ok (.lstore 5, 2) := by decide +kernel
theorem d_Me_sameWay_18 : decode c_Me_sameWay 18 = .ok (.lload 5, 2) := by decide +kernel
theorem d_Me_sameWay_20 : decode c_Me_sameWay 20 = .ok (.lconst 0, 1) := by decide +kernel
theorem d_Me_sameWay_21 : decode c_Me_sameWay 21 = .ok (.lcmp, 1) := by decide +kernel
theorem d_Me_sameWay_22 : decode c_Me_sameWay 22 = .ok (.ifCond .ne 29, 3) := by decide +kernel
theorem d_Me_sameWay_25 : decode c_Me_sameWay 25 = .ok (.aload_n 0, 1) := by decide +kernel
theorem d_Me_sameWay_26 : decode c_Me_sameWay 26 = .ok (.getfield 30, 3) := by decide +kernel
theorem d_Me_sameWay_29 : decode c_Me_sameWay 29 = .ok (.getfield 78, 3) := by decide +kernel
theorem d_Me_sameWay_32 : decode c_Me_sameWay 32 = .ok (.aload_n 0, 1) := by decide +kernel
theorem d_Me_sameWay_33 : decode c_Me_sameWay 33 = .ok (.getfield 34, 3) := by decide +kernel
theorem d_Me_sameWay_36 : decode c_Me_sameWay 36 = .ok (.getfield 78, 3) := by decide +kernel
theorem d_Me_sameWay_39 : decode c_Me_sameWay 39 = .ok (.lcmp, 1) := by decide +kernel
theorem d_Me_sameWay_40 : decode c_Me_sameWay 40 = .ok (.ifCond .ne 7, 3) := by decide +kernel
theorem d_Me_sameWay_43 : decode c_Me_sameWay 43 = .ok (.lload_n 1, 1) := by decide +kernel
theorem d_Me_sameWay_44 : decode c_Me_sameWay 44 = .ok (.goto 6, 3) := by decide +kernel
theorem d_Me_sameWay_47 : decode c_Me_sameWay 47 = .ok (.ldc2_w 57, 3) := by decide +kernel
theorem d_Me_sameWay_50 : decode c_Me_sameWay 50 = .ok (.lreturn, 1) := by decide +kernel
theorem d_Me_sameWay_51 : decode c_Me_sameWay 51 = .ok (.aload_n 0, 1) := by decide +kernel
theorem d_Me_sameWay_52 : decode c_Me_sameWay 52 = .ok (.getfield 30, 3) := by decide +kernel
theorem d_Me_sameWay_55 : decode c_Me_sameWay 55 = .ok (.getfield 90, 3) := by decide +kernel
theorem d_Me_sameWay_58 : decode c_Me_sameWay 58 = .ok (.i2l, 1) := by decide +kernel
theorem d_Me_sameWay_59 : decode c_Me_sameWay 59 = .ok (.aload_n 0, 1) := by decide +kernel
theorem d_Me_sameWay_60 : decode c_Me_sameWay 60 = .ok (.getfield 30, 3) := by decide +kernel
theorem d_Me_sameWay_63 : decode c_Me_sameWay 63 = .ok (.getfield 78, 3) := by decide +kernel
theorem d_Me_sameWay_66 : decode c_Me_sameWay 66 = .ok (.lmul, 1) := by decide +kernel
theorem d_Me_sameWay_67 : decode c_Me_sameWay 67 = .ok (.aload_n 0, 1) := by decide +kernel
theorem d_Me_sameWay_68 : decode c_Me_sameWay 68 = .ok (.getfield 34, 3) := by decide +kernel
theorem d_Me_sameWay_71 : decode c_Me_sameWay 71 = .ok (.getfield 90, 3) := by decide +kernel
theorem d_Me_sameWay_74 : decode c_Me_sameWay 74 = .ok (.i2l, 1) := by decide +kernel
theorem d_Me_sameWay_75 : decode c_Me_sameWay 75 = .ok (.aload_n 0, 1) := by decide +kernel
theorem d_Me_sameWay_76 : decode c_Me_sameWay 76 = .ok (.getfield 34, 3) := by decide +kernel
theorem d_Me_sameWay_79 : decode c_Me_sameWay 79 = .ok (.getfield 78, 3) := by decide +kernel
theorem d_Me_sameWay_82 : decode c_Me_sameWay 82 = .ok (.lmul, 1) := by decide +kernel
theorem d_Me_sameWay_83 : decode c_Me_sameWay 83 = .ok (.lsub, 1) := by decide +kernel
theorem d_Me_sameWay_84 : decode c_Me_sameWay 84 = .ok (.ldc2_w 41, 3) := by decide +kernel
theorem d_Me_sameWay_87 : decode c_Me_sameWay 87 = .ok (.lload 5, 2) := by decide +kernel
theorem d_Me_sameWay_89 : decode c_Me_sameWay 89 = .ok (.ldiv, 1) := by decide +kernel
theorem d_Me_sameWay_90 : decode c_Me_sameWay 90 = .ok (.lmul, 1) := by decide +kernel
theorem d_Me_sameWay_91 : decode c_Me_sameWay 91 = .ok (.lstore 7, 2) := by decide +kernel
theorem d_Me_sameWay_93 : decode c_Me_sameWay 93 = .ok (.lload 7, 2) := by decide +kernel
theorem d_Me_sameWay_95 : decode c_Me_sameWay 95 = .ok (.lload_n 1, 1) := by decide +kernel
theorem d_Me_sameWay_96 : decode c_Me_sameWay 96 = .ok (.lcmp, 1) := by decide +kernel
theorem d_Me_sameWay_97 : decode c_Me_sameWay 97 = .ok (.ifCond .lt 15, 3) := by decide +kernel
theorem d_Me_sameWay_100 : decode c_Me_sameWay 100 = .ok (.lload 7, 2) := by decide +kernel
theorem d_Me_sameWay_102 : decode c_Me_sameWay 102 = .ok (.lload_n 3, 1) := by decide +kernel
theorem d_Me_sameWay_103 : decode c_Me_sameWay 103 = .ok (.lcmp, 1) := by decide +kernel
theorem d_Me_sameWay_104 : decode c_Me_sameWay 104 = .ok (.ifCond .ge 8, 3) := by decide +kernel
theorem d_Me_sameWay_107 : decode c_Me_sameWay 107 = .ok (.lload 7, 2) := by decide +kernel
theorem d_Me_sameWay_109 : decode c_Me_sameWay 109 = .ok (.goto 6, 3) := by decide +kernel
theorem d_Me_sameWay_112 : decode c_Me_sameWay 112 = .ok (.ldc2_w 57, 3) := by decide +kernel
theorem d_Me_sameWay_115 : decode c_Me_sameWay 115 = .ok (.lreturn, 1) := by decide +kernel
theorem d_Me_towards_0 : decode c_Me_towards 0 = .ok (.aload_n 0, 1) := by decide +kernel
theorem d_Me_towards_1 : decode c_Me_towards 1 = .ok (.getfield 30, 3) := by decide +kernel
theorem d_Me_towards_4 : decode c_Me_towards 4 = .ok (.getfield 90, 3) := by decide +kernel
theorem d_Me_towards_7 : decode c_Me_towards 7 = .ok (.aload_n 0, 1) := by decide +kernel
theorem d_Me_towards_8 : decode c_Me_towards 8 = .ok (.getfield 34, 3) := by decide +kernel
theorem d_Me_towards_11 : decode c_Me_towards 11 = .ok (.getfield 90, 3) := by decide +kernel
theorem d_Me_towards_14 : decode c_Me_towards 14 = .ok (.iadd, 1) := by decide +kernel
theorem d_Me_towards_15 : decode c_Me_towards 15 = .ok (.i2l, 1) := by decide +kernel
theorem d_Me_towards_16 : decode c_Me_towards 16 = .ok (.lstore 5, 2) := by decide +kernel
theorem d_Me_towards_18 : decode c_Me_towards 18 = .ok (.lload 5, 2) := by decide +kernel
theorem d_Me_towards_20 : decode c_Me_towards 20 = .ok (.lconst 1, 1) := by decide +kernel
theorem d_Me_towards_21 : decode c_Me_towards 21 = .ok (.lcmp, 1) := by decide +kernel
theorem d_Me_towards_22 : decode c_Me_towards 22 = .ok (.ifCond .ge 7, 3) := by decide +kernel
theorem d_Me_towards_25 : decode c_Me_towards 25 = .ok (.ldc2_w 57, 3) := by decide +kernel
theorem d_Me_towards_28 : decode c_Me_towards 28 = .ok (.lreturn, 1) := by decide +kernel
theorem d_Me_towards_29 : decode c_Me_towards 29 = .ok (.aload_n 0, 1) := by decide +kernel
theorem d_Me_towards_30 : decode c_Me_towards 30 = .ok (.getfield 30, 3) := by decide +kernel
theorem d_Me_towards_33 : decode c_Me_towards 33 = .ok (.getfield 90, 3) := by decide +kernel
theorem d_Me_towards_36 : decode c_Me_towards 36 = .ok (.i2l, 1) := by decide +kernel
theorem d_Me_towards_37 : decode c_Me_towards 37 = .ok (.aload_n 0, 1) := by decide +kernel
theorem d_Me_towards_38 : decode c_Me_towards 38 = .ok (.getfield 30, 3) := by decide +kernel
theorem d_Me_towards_41 : decode c_Me_towards 41 = .ok (.getfield 63, 3) := by decide +kernel
theorem d_Me_towards_44 : decode c_Me_towards 44 = .ok (.aload_n 0, 1) := by decide +kernel
theorem d_Me_towards_45 : decode c_Me_towards 45 = .ok (.getfield 30, 3) := by decide +kernel
theorem d_Me_towards_48 : decode c_Me_towards 48 = .ok (.getfield 78, 3) := by decide +kernel
theorem d_Me_towards_51 : decode c_Me_towards 51 = .ok (.lsub, 1) := by decide +kernel
theorem d_Me_towards_52 : decode c_Me_towards 52 = .ok (.lmul, 1) := by decide +kernel
theorem d_Me_towards_53 : decode c_Me_towards 53 = .ok (.lstore 7, 2) := by decide +kernel
theorem d_Me_towards_55 : decode c_Me_towards 55 = .ok (.lload 7, 2) := by decide +kernel
theorem d_Me_towards_57 : decode c_Me_towards 57 = .ok (.aload_n 0, 1) := by decide +kernel
theorem d_Me_towards_58 : decode c_Me_towards 58 = .ok (.getfield 30, 3) := by decide +kernel
theorem d_Me_towards_61 : decode c_Me_towards 61 = .ok (.getfield 90, 3) := by decide +kernel
theorem d_Me_towards_64 : decode c_Me_towards 64 = .ok (.i2l, 1) := by decide +kernel
theorem d_Me_towards_65 : decode c_Me_towards 65 = .ok (.aload_n 0, 1) := by decide +kernel
theorem d_Me_towards_66 : decode c_Me_towards 66 = .ok (.getfield 30, 3) := by decide +kernel
theorem d_Me_towards_69 : decode c_Me_towards 69 = .ok (.getfield 78, 3) := by decide +kernel
theorem d_Me_towards_72 : decode c_Me_towards 72 = .ok (.lmul, 1) := by decide +kernel
theorem d_Me_towards_73 : decode c_Me_towards 73 = .ok (.ladd, 1) := by decide +kernel
theorem d_Me_towards_74 : decode c_Me_towards 74 = .ok (.aload_n 0, 1) := by decide +kernel
theorem d_Me_towards_75 : decode c_Me_towards 75 = .ok (.getfield 34, 3) := by decide +kernel
theorem d_Me_towards_78 : decode c_Me_towards 78 = .ok (.getfield 90, 3) := by decide +kernel
theorem d_Me_towards_81 : decode c_Me_towards 81 = .ok (.i2l, 1) := by decide +kernel
theorem d_Me_towards_82 : decode c_Me_towards 82 = .ok (.aload_n 0, 1) := by decide +kernel
theorem d_Me_towards_83 : decode c_Me_towards 83 = .ok (.getfield 34, 3) := by decide +kernel
theorem d_Me_towards_86 : decode c_Me_towards 86 = .ok (.getfield 78, 3) := by decide +kernel
theorem d_Me_towards_89 : decode c_Me_towards 89 = .ok (.lmul, 1) := by decide +kernel
theorem d_Me_towards_90 : decode c_Me_towards 90 = .ok (.ladd, 1) := by decide +kernel
theorem d_Me_towards_91 : decode c_Me_towards 91 = .ok (.ldc2_w 41, 3) := by decide +kernel
theorem d_Me_towards_94 : decode c_Me_towards 94 = .ok (.lload 5, 2) := by decide +kernel
theorem d_Me_towards_96 : decode c_Me_towards 96 = .ok (.ldiv, 1) := by decide +kernel
theorem d_Me_towards_97 : decode c_Me_towards 97 = .ok (.lmul, 1) := by decide +kernel
theorem d_Me_towards_98 : decode c_Me_towards 98 = .ok (.lstore 9, 2) := by decide +kernel
theorem d_Me_towards_100 : decode c_Me_towards 100 = .ok (.lload 9, 2) := by decide +kernel
theorem d_Me_towards_102 : decode c_Me_towards 102 = .ok (.lload_n 1, 1) := by decide +kernel
theorem d_Me_towards_103 : decode c_Me_towards 103 = .ok (.lcmp, 1) := by decide +kernel
theorem d_Me_towards_104 : decode c_Me_towards 104 = .ok (.ifCond .lt 15, 3) := by decide +kernel
theorem d_Me_towards_107 : decode c_Me_towards 107 = .ok (.lload 9, 2) := by decide +kernel
theorem d_Me_towards_109 : decode c_Me_towards 109 = .ok (.lload_n 3, 1) := by decide +kernel
theorem d_Me_towards_110 : decode c_Me_towards 110 = .ok (.lcmp, 1) := by decide +kernel
theorem d_Me_towards_111 : decode c_Me_towards 111 = .ok (.ifCond .ge 8, 3) := by decide +kernel
theorem d_Me_towards_114 : decode c_Me_towards 114 = .ok (.lload 9, 2) := by decide +kernel
theorem d_Me_towards_116 : decode c_Me_towards 116 = .ok (.goto 6, 3) := by decide +kernel
theorem d_Me_towards_119 : decode c_Me_towards 119 = .ok (.ldc2_w 57, 3) := by decide +kernel
theorem d_Me_towards_122 : decode c_Me_towards 122 = .ok (.lreturn, 1) := by decide +kernel
theorem d_Me_pass_0 : decode c_Me_pass 0 = .ok (.iconst 0, 1) := by decide +kernel
theorem d_Me_pass_1 : decode c_Me_pass 1 = .ok (.istore 5, 2) := by decide +kernel
theorem d_Me_pass_3 : decode c_Me_pass 3 = .ok (.iload 5, 2) := by decide +kernel
theorem d_Me_pass_5 : decode c_Me_pass 5 = .ok (.bipush 8, 2) := by decide +kernel
theorem d_Me_pass_7 : decode c_Me_pass 7 = .ok (.if_icmp .ge 19, 3) := by decide +kernel
theorem d_Me_pass_10 : decode c_Me_pass 10 = .ok (.aload_n 0, 1) := by decide +kernel
theorem d_Me_pass_11 : decode c_Me_pass 11 = .ok (.getfield 9, 3) := by decide +kernel
theorem d_Me_pass_14 : decode c_Me_pass 14 = .ok (.iload 5, 2) := by decide +kernel
theorem d_Me_pass_16 : decode c_Me_pass 16 = .ok (.ldc2_w 57, 3) := by decide +kernel
theorem d_Me_pass_19 : decode c_Me_pass 19 = .ok (.lastore, 1) := by decide +kernel
theorem d_Me_pass_20 : decode c_Me_pass 20 = .ok (.iinc 5 1, 3) := by decide +kernel
theorem d_Me_pass_23 : decode c_Me_pass 23 = .ok (.goto (-20), 3) := by decide +kernel
theorem d_Me_pass_26 : decode c_Me_pass 26 = .ok (.aload_n 0, 1) := by decide +kernel
theorem d_Me_pass_27 : decode c_Me_pass 27 = .ok (.getfield 9, 3) := by decide +kernel
theorem d_Me_pass_30 : decode c_Me_pass 30 = .ok (.iload_n 1, 1) := by decide +kernel
theorem d_Me_pass_31 : decode c_Me_pass 31 = .ok (.lload_n 2, 1) := by decide +kernel
theorem d_Me_pass_32 : decode c_Me_pass 32 = .ok (.lastore, 1) := by decide +kernel
theorem d_Me_pass_33 : decode c_Me_pass 33 = .ok (.aload_n 0, 1) := by decide +kernel
theorem d_Me_pass_34 : decode c_Me_pass 34 = .ok (.getfield 15, 3) := by decide +kernel
theorem d_Me_pass_37 : decode c_Me_pass 37 = .ok (.getfield 93, 3) := by decide +kernel
theorem d_Me_pass_40 : decode c_Me_pass 40 = .ok (.istore 5, 2) := by decide +kernel
theorem d_Me_pass_42 : decode c_Me_pass 42 = .ok (.iconst 0, 1) := by decide +kernel
theorem d_Me_pass_43 : decode c_Me_pass 43 = .ok (.istore 6, 2) := by decide +kernel
theorem d_Me_pass_45 : decode c_Me_pass 45 = .ok (.iconst 0, 1) := by decide +kernel
theorem d_Me_pass_46 : decode c_Me_pass 46 = .ok (.istore 7, 2) := by decide +kernel
theorem d_Me_pass_48 : decode c_Me_pass 48 = .ok (.iload 7, 2) := by decide +kernel
theorem d_Me_pass_50 : decode c_Me_pass 50 = .ok (.bipush 8, 2) := by decide +kernel
theorem d_Me_pass_52 : decode c_Me_pass 52 = .ok (.if_icmp .ge 61, 3) := by decide +kernel
theorem d_Me_pass_55 : decode c_Me_pass 55 = .ok (.iload 6, 2) := by decide +kernel
theorem d_Me_pass_57 : decode c_Me_pass 57 = .ok (.iload 4, 2) := by decide +kernel
theorem d_Me_pass_59 : decode c_Me_pass 59 = .ok (.iand, 1) := by decide +kernel
theorem d_Me_pass_60 : decode c_Me_pass 60 = .ok (.ifCond .ne 53, 3) := by decide +kernel
theorem d_Me_pass_63 : decode c_Me_pass 63 = .ok (.aload_n 0, 1) := by decide +kernel
theorem d_Me_pass_64 : decode c_Me_pass 64 = .ok (.iload 5, 2) := by decide +kernel
theorem d_Me_pass_66 : decode c_Me_pass 66 = .ok (.invokevirtual 96, 3) := by decide +kernel
theorem d_Me_pass_69 : decode c_Me_pass 69 = .ok (.istore 8, 2) := by decide +kernel
theorem d_Me_pass_71 : decode c_Me_pass 71 = .ok (.iload 8, 2) := by decide +kernel
theorem d_Me_pass_73 : decode c_Me_pass 73 = .ok (.ifCond .ge 6, 3) := by decide +kernel
theorem d_Me_pass_76 : decode c_Me_pass 76 = .ok (.goto 37, 3) := by decide +kernel
theorem d_Me_pass_79 : decode c_Me_pass 79 = .ok (.iload 5, 2) := by decide +kernel
theorem d_Me_pass_81 : decode c_Me_pass 81 = .ok (.iconst 1, 1) := by decide +kernel
theorem d_Me_pass_82 : decode c_Me_pass 82 = .ok (.iload 8, 2) := by decide +kernel
theorem d_Me_pass_84 : decode c_Me_pass 84 = .ok (.ishl, 1) := by decide +kernel
theorem d_Me_pass_85 : decode c_Me_pass 85 = .ok (.iconst (-1), 1) := by decide +kernel
theorem d_Me_pass_86 : decode c_Me_pass 86 = .ok (.ixor, 1) := by decide +kernel
theorem d_Me_pass_87 : decode c_Me_pass 87 = .ok (.iand, 1) := by decide +kernel
theorem d_Me_pass_88 : decode c_Me_pass 88 = .ok (.istore 5, 2) := by decide +kernel
theorem d_Me_pass_90 : decode c_Me_pass 90 = .ok (.iload 6, 2) := by decide +kernel
theorem d_Me_pass_92 : decode c_Me_pass 92 = .ok (.iconst 1, 1) := by decide +kernel
theorem d_Me_pass_93 : decode c_Me_pass 93 = .ok (.iload 8, 2) := by decide +kernel
theorem d_Me_pass_95 : decode c_Me_pass 95 = .ok (.ishl, 1) := by decide +kernel
theorem d_Me_pass_96 : decode c_Me_pass 96 = .ok (.ior, 1) := by decide +kernel
theorem d_Me_pass_97 : decode c_Me_pass 97 = .ok (.istore 6, 2) := by decide +kernel
theorem d_Me_pass_99 : decode c_Me_pass 99 = .ok (.aload_n 0, 1) := by decide +kernel
theorem d_Me_pass_100 : decode c_Me_pass 100 = .ok (.iload 8, 2) := by decide +kernel
theorem d_Me_pass_102 : decode c_Me_pass 102 = .ok (.iload 5, 2) := by decide +kernel
theorem d_Me_pass_104 : decode c_Me_pass 104 = .ok (.invokevirtual 99, 3) := by decide +kernel
theorem d_Me_pass_107 : decode c_Me_pass 107 = .ok (.iinc 7 1, 3) := by decide +kernel
theorem d_Me_pass_110 : decode c_Me_pass 110 = .ok (.goto (-62), 3) := by decide +kernel
theorem d_Me_pass_113 : decode c_Me_pass 113 = .ok (.iload 6, 2) := by decide +kernel
theorem d_Me_pass_115 : decode c_Me_pass 115 = .ok (.ireturn, 1) := by decide +kernel
theorem d_Me_earliest_0 : decode c_Me_earliest 0 = .ok (.bipush (-9), 2) := by decide +kernel
theorem d_Me_earliest_2 : decode c_Me_earliest 2 = .ok (.istore_n 2, 1) := by decide +kernel
theorem d_Me_earliest_3 : decode c_Me_earliest 3 = .ok (.iconst 0, 1) := by decide +kernel
theorem d_Me_earliest_4 : decode c_Me_earliest 4 = .ok (.istore_n 3, 1) := by decide +kernel
theorem d_Me_earliest_5 : decode c_Me_earliest 5 = .ok (.iload_n 3, 1) := by decide +kernel
theorem d_Me_earliest_6 : decode c_Me_earliest 6 = .ok (.bipush 8, 2) := by decide +kernel
theorem d_Me_earliest_8 : decode c_Me_earliest 8 = .ok (.if_icmp .ge 52, 3) := by decide +kernel
theorem d_Me_earliest_11 : decode c_Me_earliest 11 = .ok (.iload_n 1, 1) := by decide +kernel
theorem d_Me_earliest_12 : decode c_Me_earliest 12 = .ok (.iload_n 3, 1) := by decide +kernel
theorem d_Me_earliest_13 : decode c_Me_earliest 13 = .ok (.ishr, 1) := by decide +kernel
theorem d_Me_earliest_14 : decode c_Me_earliest 14 = .ok (.iconst 1, 1) := by decide +kernel
theorem d_Me_earliest_15 : decode c_Me_earliest 15 = .ok (.iand, 1) := by decide +kernel
theorem d_Me_earliest_16 : decode c_Me_earliest 16 = .ok (.ifCond .eq 38, 3) := by decide +kernel
theorem d_Me_earliest_19 : decode c_Me_earliest 19 = .ok (.aload_n 0, 1) := by decide +kernel
theorem d_Me_earliest_20 : decode c_Me_earliest 20 = .ok (.getfield 9, 3) := by decide +kernel
theorem d_Me_earliest_23 : decode c_Me_earliest 23 = .ok (.iload_n 3, 1) := by decide +kernel
theorem d_Me_earliest_24 : decode c_Me_earliest 24 = .ok (.laload, 1) := by decide +kernel
theorem d_Me_earliest_25 : decode c_Me_earliest 25 = .ok (.ldc2_w 57, 3) := by decide +kernel
theorem d_Me_earliest_28 : decode c_Me_earliest 28 = .ok (.lcmp, 1) := by decide +kernel
theorem d_Me_earliest_29 : decode c_Me_earliest 29 = .ok (.ifCond .eq 25, 3) := by decide +kernel
theorem d_Me_earliest_32 : decode c_Me_earliest 32 = .ok (.iload_n 2, 1) := by decide +kernel
theorem d_Me_earliest_33 : decode c_Me_earliest 33 = .ok (.ifCond .lt 19, 3) := by decide +kernel
theorem d_Me_earliest_36 : decode c_Me_earliest 36 = .ok (.aload_n 0, 1) := by decide +kernel
theorem d_Me_earliest_37 : decode c_Me_earliest 37 = .ok (.getfield 9, 3) := by decide +kernel
theorem d_Me_earliest_40 : decode c_Me_earliest 40 = .ok (.iload_n 3, 1) := by decide +kernel
theorem d_Me_earliest_41 : decode c_Me_earliest 41 = .ok (.laload, 1) := by decide +kernel
theorem d_Me_earliest_42 : decode c_Me_earliest 42 = .ok (.aload_n 0, 1) := by decide +kernel
theorem d_Me_earliest_43 : decode c_Me_earliest 43 = .ok (.getfield 9, 3) := by decide +kernel
theorem d_Me_earliest_46 : decode c_Me_earliest 46 = .ok (.iload_n 2, 1) := by decide +kernel
theorem d_Me_earliest_47 : decode c_Me_earliest 47 = .ok (.laload, 1) := by decide +kernel
theorem d_Me_earliest_48 : decode c_Me_earliest 48 = .ok (.lcmp, 1) := by decide +kernel
theorem d_Me_earliest_49 : decode c_Me_earliest 49 = .ok (.ifCond .ge 5, 3) := by decide +kernel
theorem d_Me_earliest_52 : decode c_Me_earliest 52 = .ok (.iload_n 3, 1) := by decide +kernel
theorem d_Me_earliest_53 : decode c_Me_earliest 53 = .ok (.istore_n 2, 1) := by decide +kernel
theorem d_Me_earliest_54 : decode c_Me_earliest 54 = .ok (.iinc 3 1, 3) := by decide +kernel
theorem d_Me_earliest_57 : decode c_Me_earliest 57 = .ok (.goto (-52), 3) := by decide +kernel
theorem d_Me_earliest_60 : decode c_Me_earliest 60 = .ok (.iload_n 2, 1) := by decide +kernel
theorem d_Me_earliest_61 : decode c_Me_earliest 61 = .ok (.ireturn, 1) := by decide +kernel
theorem d_Me_tellOthers_0 : decode c_Me_tellOthers 0 = .ok (.iconst 0, 1) := by decide +kernel
theorem d_Me_tellOthers_1 : decode c_Me_tellOthers 1 = .ok (.istore_n 3, 1) := by decide +kernel
theorem d_Me_tellOthers_2 : decode c_Me_tellOthers 2 = .ok (.iload_n 3, 1) := by decide +kernel
theorem d_Me_tellOthers_3 : decode c_Me_tellOthers 3 = .ok (.bipush 8, 2) := by decide +kernel
theorem d_Me_tellOthers_5 : decode c_Me_tellOthers 5 = .ok (.if_icmp .ge 76, 3) := by decide +kernel
theorem d_Me_tellOthers_8 : decode c_Me_tellOthers 8 = .ok (.iload_n 2, 1) := by decide +kernel
theorem d_Me_tellOthers_9 : decode c_Me_tellOthers 9 = .ok (.iload_n 3, 1) := by decide +kernel
theorem d_Me_tellOthers_10 : decode c_Me_tellOthers 10 = .ok (.ishr, 1) := by decide +kernel
theorem d_Me_tellOthers_11 : decode c_Me_tellOthers 11 = .ok (.iconst 1, 1) := by decide +kernel
theorem d_Me_tellOthers_12 : decode c_Me_tellOthers 12 = .ok (.iand, 1) := by decide +kernel
theorem d_Me_tellOthers_13 : decode c_Me_tellOthers 13 = .ok (.ifCond .ne 6, 3) := by decide +kernel
theorem d_Me_tellOthers_16 : decode c_Me_tellOthers 16 = .ok (.goto 59, 3) := by decide +kernel
theorem d_Me_tellOthers_19 : decode c_Me_tellOthers 19 = .ok (.aload_n 0, 1) := by decide +kernel
theorem d_Me_tellOthers_20 : decode c_Me_tellOthers 20 = .ok (.iload_n 1, 1) := by decide +kernel
theorem d_Me_tellOthers_21 : decode c_Me_tellOthers 21 = .ok (.iload_n 3, 1) := by decide +kernel
theorem d_Me_tellOthers_22 : decode c_Me_tellOthers 22 = .ok (.aload_n 0, 1) := by decide +kernel
theorem d_Me_tellOthers_23 : decode c_Me_tellOthers 23 = .ok (.getfield 9, 3) := by decide +kernel
theorem d_Me_tellOthers_26 : decode c_Me_tellOthers 26 = .ok (.iload_n 1, 1) := by decide +kernel
theorem d_Me_tellOthers_27 : decode c_Me_tellOthers 27 = .ok (.laload, 1) := by decide +kernel
theorem d_Me_tellOthers_28 : decode c_Me_tellOthers 28 = .ok (.invokevirtual 103, 3) := by decide +kernel
theorem d_Me_tellOthers_31 : decode c_Me_tellOthers 31 = .ok (.lstore 4, 2) := by decide +kernel
theorem d_Me_tellOthers_33 : decode c_Me_tellOthers 33 = .ok (.lload 4, 2) := by decide +kernel
theorem d_Me_tellOthers_35 : decode c_Me_tellOthers 35 = .ok (.ldc2_w 57, 3) := by decide +kernel
theorem d_Me_tellOthers_38 : decode c_Me_tellOthers 38 = .ok (.lcmp, 1) := by decide +kernel
theorem d_Me_tellOthers_39 : decode c_Me_tellOthers 39 = .ok (.ifCond .eq 36, 3) := by decide +kernel
theorem d_Me_tellOthers_42 : decode c_Me_tellOthers 42 = .ok (.aload_n 0, 1) := by decide +kernel
theorem d_Me_tellOthers_43 : decode c_Me_tellOthers 43 = .ok (.getfield 9, 3) := by decide +kernel
theorem d_Me_tellOthers_46 : decode c_Me_tellOthers 46 = .ok (.iload_n 3, 1) := by decide +kernel
theorem d_Me_tellOthers_47 : decode c_Me_tellOthers 47 = .ok (.laload, 1) := by decide +kernel
theorem d_Me_tellOthers_48 : decode c_Me_tellOthers 48 = .ok (.ldc2_w 57, 3) := by decide +kernel
theorem d_Me_tellOthers_51 : decode c_Me_tellOthers 51 = .ok (.lcmp, 1) := by decide +kernel
theorem d_Me_tellOthers_52 : decode c_Me_tellOthers 52 = .ok (.ifCond .eq 15, 3) := by decide +kernel
theorem d_Me_tellOthers_55 : decode c_Me_tellOthers 55 = .ok (.lload 4, 2) := by decide +kernel
theorem d_Me_tellOthers_57 : decode c_Me_tellOthers 57 = .ok (.aload_n 0, 1) := by decide +kernel
theorem d_Me_tellOthers_58 : decode c_Me_tellOthers 58 = .ok (.getfield 9, 3) := by decide +kernel
theorem d_Me_tellOthers_61 : decode c_Me_tellOthers 61 = .ok (.iload_n 3, 1) := by decide +kernel
theorem d_Me_tellOthers_62 : decode c_Me_tellOthers 62 = .ok (.laload, 1) := by decide +kernel
theorem d_Me_tellOthers_63 : decode c_Me_tellOthers 63 = .ok (.lcmp, 1) := by decide +kernel
theorem d_Me_tellOthers_64 : decode c_Me_tellOthers 64 = .ok (.ifCond .ge 11, 3) := by decide +kernel
theorem d_Me_tellOthers_67 : decode c_Me_tellOthers 67 = .ok (.aload_n 0, 1) := by decide +kernel
theorem d_Me_tellOthers_68 : decode c_Me_tellOthers 68 = .ok (.getfield 9, 3) := by decide +kernel
theorem d_Me_tellOthers_71 : decode c_Me_tellOthers 71 = .ok (.iload_n 3, 1) := by decide +kernel
theorem d_Me_tellOthers_72 : decode c_Me_tellOthers 72 = .ok (.lload 4, 2) := by decide +kernel
theorem d_Me_tellOthers_74 : decode c_Me_tellOthers 74 = .ok (.lastore, 1) := by decide +kernel
theorem d_Me_tellOthers_75 : decode c_Me_tellOthers 75 = .ok (.iinc 3 1, 3) := by decide +kernel
theorem d_Me_tellOthers_78 : decode c_Me_tellOthers 78 = .ok (.goto (-76), 3) := by decide +kernel
theorem d_Me_tellOthers_81 : decode c_Me_tellOthers 81 = .ok (.return_, 1) := by decide +kernel
theorem d_Me_wordAt_0 : decode c_Me_wordAt 0 = .ok (.aload_n 0, 1) := by decide +kernel
theorem d_Me_wordAt_1 : decode c_Me_wordAt 1 = .ok (.getfield 9, 3) := by decide +kernel
theorem d_Me_wordAt_4 : decode c_Me_wordAt 4 = .ok (.iload_n 1, 1) := by decide +kernel
theorem d_Me_wordAt_5 : decode c_Me_wordAt 5 = .ok (.laload, 1) := by decide +kernel
theorem d_Me_wordAt_6 : decode c_Me_wordAt 6 = .ok (.lreturn, 1) := by decide +kernel
