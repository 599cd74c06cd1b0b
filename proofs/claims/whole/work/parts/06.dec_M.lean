/-! decode rows (by program) -/
theorem d_M_init_0 : decode c_M_init 0 = .ok (.aload_n 0, 1) := by decide +kernel
theorem d_M_init_1 : decode c_M_init 1 = .ok (.invokespecial 1, 3) := by decide +kernel
theorem d_M_init_4 : decode c_M_init 4 = .ok (.aload_n 0, 1) := by decide +kernel
theorem d_M_init_5 : decode c_M_init 5 = .ok (.bipush 6, 2) := by decide +kernel
theorem d_M_init_7 : decode c_M_init 7 = .ok (.newarray .int, 2) := by decide +kernel
theorem d_M_init_9 : decode c_M_init 9 = .ok (.putfield 7, 3) := by decide +kernel
theorem d_M_init_12 : decode c_M_init 12 = .ok (.aload_n 0, 1) := by decide +kernel
theorem d_M_init_13 : decode c_M_init 13 = .ok (.bipush 8, 2) := by decide +kernel
theorem d_M_init_15 : decode c_M_init 15 = .ok (.newarray .int, 2) := by decide +kernel
theorem d_M_init_17 : decode c_M_init 17 = .ok (.putfield 13, 3) := by decide +kernel
theorem d_M_init_20 : decode c_M_init 20 = .ok (.aload_n 0, 1) := by decide +kernel
theorem d_M_init_21 : decode c_M_init 21 = .ok (.sipush 320, 3) := by decide +kernel
theorem d_M_init_24 : decode c_M_init 24 = .ok (.newarray .byte, 2) := by decide +kernel
theorem d_M_init_26 : decode c_M_init 26 = .ok (.putfield 16, 3) := by decide +kernel
theorem d_M_init_29 : decode c_M_init 29 = .ok (.aload_n 0, 1) := by decide +kernel
theorem d_M_init_30 : decode c_M_init 30 = .ok (.bipush 40, 2) := by decide +kernel
theorem d_M_init_32 : decode c_M_init 32 = .ok (.newarray .byte, 2) := by decide +kernel
theorem d_M_init_34 : decode c_M_init 34 = .ok (.putfield 20, 3) := by decide +kernel
theorem d_M_init_37 : decode c_M_init 37 = .ok (.aload_n 0, 1) := by decide +kernel
theorem d_M_init_38 : decode c_M_init 38 = .ok (.sipush 256, 3) := by decide +kernel
theorem d_M_init_41 : decode c_M_init 41 = .ok (.newarray .int, 2) := by decide +kernel
theorem d_M_init_43 : decode c_M_init 43 = .ok (.putfield 23, 3) := by decide +kernel
theorem d_M_init_46 : decode c_M_init 46 = .ok (.aload_n 0, 1) := by decide +kernel
theorem d_M_init_47 : decode c_M_init 47 = .ok (.sipush 256, 3) := by decide +kernel
theorem d_M_init_50 : decode c_M_init 50 = .ok (.newarray .boolean, 2) := by decide +kernel
theorem d_M_init_52 : decode c_M_init 52 = .ok (.putfield 26, 3) := by decide +kernel
theorem d_M_init_55 : decode c_M_init 55 = .ok (.aload_n 0, 1) := by decide +kernel
theorem d_M_init_56 : decode c_M_init 56 = .ok (.bipush 16, 2) := by decide +kernel
theorem d_M_init_58 : decode c_M_init 58 = .ok (.newarray .int, 2) := by decide +kernel
theorem d_M_init_60 : decode c_M_init 60 = .ok (.putfield 30, 3) := by decide +kernel
theorem d_M_init_63 : decode c_M_init 63 = .ok (.aload_n 0, 1) := by decide +kernel
theorem d_M_init_64 : decode c_M_init 64 = .ok (.bipush 16, 2) := by decide +kernel
theorem d_M_init_66 : decode c_M_init 66 = .ok (.newarray .boolean, 2) := by decide +kernel
theorem d_M_init_68 : decode c_M_init 68 = .ok (.putfield 33, 3) := by decide +kernel
theorem d_M_init_71 : decode c_M_init 71 = .ok (.aload_n 0, 1) := by decide +kernel
theorem d_M_init_72 : decode c_M_init 72 = .ok (.sipush 256, 3) := by decide +kernel
theorem d_M_init_75 : decode c_M_init 75 = .ok (.newarray .int, 2) := by decide +kernel
theorem d_M_init_77 : decode c_M_init 77 = .ok (.putfield 36, 3) := by decide +kernel
theorem d_M_init_80 : decode c_M_init 80 = .ok (.aload_n 0, 1) := by decide +kernel
theorem d_M_init_81 : decode c_M_init 81 = .ok (.bipush 8, 2) := by decide +kernel
theorem d_M_init_83 : decode c_M_init 83 = .ok (.newarray .int, 2) := by decide +kernel
theorem d_M_init_85 : decode c_M_init 85 = .ok (.putfield 39, 3) := by decide +kernel
theorem d_M_init_88 : decode c_M_init 88 = .ok (.aload_n 0, 1) := by decide +kernel
theorem d_M_init_89 : decode c_M_init 89 = .ok (.bipush 8, 2) := by decide +kernel
theorem d_M_init_91 : decode c_M_init 91 = .ok (.newarray .int, 2) := by decide +kernel
theorem d_M_init_93 : decode c_M_init 93 = .ok (.putfield 42, 3) := by decide +kernel
theorem d_M_init_96 : decode c_M_init 96 = .ok (.aload_n 0, 1) := by decide +kernel
theorem d_M_init_97 : decode c_M_init 97 = .ok (.bipush 8, 2) := by decide +kernel
theorem d_M_init_99 : decode c_M_init 99 = .ok (.newarray .int, 2) := by decide +kernel
theorem d_M_init_101 : decode c_M_init 101 = .ok (.putfield 45, 3) := by decide +kernel
theorem d_M_init_104 : decode c_M_init 104 = .ok (.aload_n 0, 1) := by decide +kernel
theorem d_M_init_105 : decode c_M_init 105 = .ok (.bipush 8, 2) := by decide +kernel
theorem d_M_init_107 : decode c_M_init 107 = .ok (.newarray .int, 2) := by decide +kernel
theorem d_M_init_109 : decode c_M_init 109 = .ok (.putfield 48, 3) := by decide +kernel
theorem d_M_init_112 : decode c_M_init 112 = .ok (.aload_n 0, 1) := by decide +kernel
theorem d_M_init_113 : decode c_M_init 113 = .ok (.bipush 8, 2) := by decide +kernel
theorem d_M_init_115 : decode c_M_init 115 = .ok (.newarray .int, 2) := by decide +kernel
theorem d_M_init_117 : decode c_M_init 117 = .ok (.putfield 51, 3) := by decide +kernel
theorem d_M_init_120 : decode c_M_init 120 = .ok (.aload_n 0, 1) := by decide +kernel
theorem d_M_init_121 : decode c_M_init 121 = .ok (.bipush 8, 2) := by decide +kernel
theorem d_M_init_123 : decode c_M_init 123 = .ok (.newarray .boolean, 2) := by decide +kernel
theorem d_M_init_125 : decode c_M_init 125 = .ok (.putfield 54, 3) := by decide +kernel
theorem d_M_init_128 : decode c_M_init 128 = .ok (.aload_n 0, 1) := by decide +kernel
theorem d_M_init_129 : decode c_M_init 129 = .ok (.bipush 8, 2) := by decide +kernel
theorem d_M_init_131 : decode c_M_init 131 = .ok (.newarray .boolean, 2) := by decide +kernel
theorem d_M_init_133 : decode c_M_init 133 = .ok (.putfield 57, 3) := by decide +kernel
theorem d_M_init_136 : decode c_M_init 136 = .ok (.aload_n 0, 1) := by decide +kernel
theorem d_M_init_137 : decode c_M_init 137 = .ok (.bipush 8, 2) := by decide +kernel
theorem d_M_init_139 : decode c_M_init 139 = .ok (.newarray .int, 2) := by decide +kernel
theorem d_M_init_141 : decode c_M_init 141 = .ok (.putfield 60, 3) := by decide +kernel
theorem d_M_init_144 : decode c_M_init 144 = .ok (.aload_n 0, 1) := by decide +kernel
theorem d_M_init_145 : decode c_M_init 145 = .ok (.sipush 192, 3) := by decide +kernel
theorem d_M_init_148 : decode c_M_init 148 = .ok (.newarray .int, 2) := by decide +kernel
theorem d_M_init_150 : decode c_M_init 150 = .ok (.putfield 63, 3) := by decide +kernel
theorem d_M_init_153 : decode c_M_init 153 = .ok (.aload_n 0, 1) := by decide +kernel
theorem d_M_init_154 : decode c_M_init 154 = .ok (.sipush 192, 3) := by decide +kernel
theorem d_M_init_157 : decode c_M_init 157 = .ok (.newarray .int, 2) := by decide +kernel
theorem d_M_init_159 : decode c_M_init 159 = .ok (.putfield 66, 3) := by decide +kernel
theorem d_M_init_162 : decode c_M_init 162 = .ok (.aload_n 0, 1) := by decide +kernel
theorem d_M_init_163 : decode c_M_init 163 = .ok (.bipush 8, 2) := by decide +kernel
theorem d_M_init_165 : decode c_M_init 165 = .ok (.newarray .int, 2) := by decide +kernel
theorem d_M_init_167 : decode c_M_init 167 = .ok (.putfield 69, 3) := by decide +kernel
theorem d_M_init_170 : decode c_M_init 170 = .ok (.aload_n 0, 1) := by decide +kernel
theorem d_M_init_171 : decode c_M_init 171 = .ok (.sipush 14400, 3) := by decide +kernel
theorem d_M_init_174 : decode c_M_init 174 = .ok (.newarray .int, 2) := by decide +kernel
theorem d_M_init_176 : decode c_M_init 176 = .ok (.putfield 72, 3) := by decide +kernel
theorem d_M_init_179 : decode c_M_init 179 = .ok (.aload_n 0, 1) := by decide +kernel
theorem d_M_init_180 : decode c_M_init 180 = .ok (.bipush 8, 2) := by decide +kernel
theorem d_M_init_182 : decode c_M_init 182 = .ok (.newarray .long, 2) := by decide +kernel
theorem d_M_init_184 : decode c_M_init 184 = .ok (.putfield 75, 3) := by decide +kernel
theorem d_M_init_187 : decode c_M_init 187 = .ok (.aload_n 0, 1) := by decide +kernel
theorem d_M_init_188 : decode c_M_init 188 = .ok (.bipush 8, 2) := by decide +kernel
theorem d_M_init_190 : decode c_M_init 190 = .ok (.newarray .boolean, 2) := by decide +kernel
theorem d_M_init_192 : decode c_M_init 192 = .ok (.putfield 79, 3) := by decide +kernel
theorem d_M_init_195 : decode c_M_init 195 = .ok (.aload_n 0, 1) := by decide +kernel
theorem d_M_init_196 : decode c_M_init 196 = .ok (.bipush 10, 2) := by decide +kernel
theorem d_M_init_198 : decode c_M_init 198 = .ok (.newarray .int, 2) := by decide +kernel
theorem d_M_init_200 : decode c_M_init 200 = .ok (.putfield 82, 3) := by decide +kernel
theorem d_M_init_203 : decode c_M_init 203 = .ok (.aload_n 0, 1) := by decide +kernel
theorem d_M_init_204 : decode c_M_init 204 = .ok (.sipush 10240, 3) := by decide +kernel
theorem d_M_init_207 : decode c_M_init 207 = .ok (.newarray .int, 2) := by decide +kernel
theorem d_M_init_209 : decode c_M_init 209 = .ok (.putfield 85, 3) := by decide +kernel
theorem d_M_init_212 : decode c_M_init 212 = .ok (.aload_n 0, 1) := by decide +kernel
theorem d_M_init_213 : decode c_M_init 213 = .ok (.iconst 5, 1) := by decide +kernel
theorem d_M_init_214 : decode c_M_init 214 = .ok (.newarray .int, 2) := by decide +kernel
theorem d_M_init_216 : decode c_M_init 216 = .ok (.putfield 88, 3) := by decide +kernel
theorem d_M_init_219 : decode c_M_init 219 = .ok (.aload_n 0, 1) := by decide +kernel
theorem d_M_init_220 : decode c_M_init 220 = .ok (.bipush 16, 2) := by decide +kernel
theorem d_M_init_222 : decode c_M_init 222 = .ok (.newarray .int, 2) := by decide +kernel
theorem d_M_init_224 : decode c_M_init 224 = .ok (.putfield 91, 3) := by decide +kernel
theorem d_M_init_227 : decode c_M_init 227 = .ok (.aload_n 0, 1) := by decide +kernel
theorem d_M_init_228 : decode c_M_init 228 = .ok (.bipush 16, 2) := by decide +kernel
theorem d_M_init_230 : decode c_M_init 230 = .ok (.newarray .int, 2) := by decide +kernel
theorem d_M_init_232 : decode c_M_init 232 = .ok (.putfield 94, 3) := by decide +kernel
theorem d_M_init_235 : decode c_M_init 235 = .ok (.aload_n 0, 1) := by decide +kernel
theorem d_M_init_236 : decode c_M_init 236 = .ok (.bipush 8, 2) := by decide +kernel
theorem d_M_init_238 : decode c_M_init 238 = .ok (.newarray .int, 2) := by decide +kernel
theorem d_M_init_240 : decode c_M_init 240 = .ok (.putfield 97, 3) := by decide +kernel
theorem d_M_init_243 : decode c_M_init 243 = .ok (.aload_n 0, 1) := by decide +kernel
theorem d_M_init_244 : decode c_M_init 244 = .ok (.bipush 8, 2) := by decide +kernel
theorem d_M_init_246 : decode c_M_init 246 = .ok (.newarray .int, 2) := by decide +kernel
theorem d_M_init_248 : decode c_M_init 248 = .ok (.putfield 100, 3) := by decide +kernel
theorem d_M_init_251 : decode c_M_init 251 = .ok (.aload_n 0, 1) := by decide +kernel
theorem d_M_init_252 : decode c_M_init 252 = .ok (.lconst 1, 1) := by decide +kernel
theorem d_M_init_253 : decode c_M_init 253 = .ok (.putfield 103, 3) := by decide +kernel
theorem d_M_init_256 : decode c_M_init 256 = .ok (.aload_n 0, 1) := by decide +kernel
theorem d_M_init_257 : decode c_M_init 257 = .ok (.iconst 2, 1) := by decide +kernel
theorem d_M_init_258 : decode c_M_init 258 = .ok (.putfield 107, 3) := by decide +kernel
theorem d_M_init_261 : decode c_M_init 261 = .ok (.aload_n 0, 1) := by decide +kernel
theorem d_M_init_262 : decode c_M_init 262 = .ok (.iconst 1, 1) := by decide +kernel
theorem d_M_init_263 : decode c_M_init 263 = .ok (.putfield 111, 3) := by decide +kernel
theorem d_M_init_266 : decode c_M_init 266 = .ok (.aload_n 0, 1) := by decide +kernel
theorem d_M_init_267 : decode c_M_init 267 = .ok (.getfield 30, 3) := by decide +kernel
theorem d_M_init_270 : decode c_M_init 270 = .ok (.iconst 0, 1) := by decide +kernel
theorem d_M_init_271 : decode c_M_init 271 = .ok (.iconst 1, 1) := by decide +kernel
theorem d_M_init_272 : decode c_M_init 272 = .ok (.iastore, 1) := by decide +kernel
theorem d_M_init_273 : decode c_M_init 273 = .ok (.iconst 0, 1) := by decide +kernel
theorem d_M_init_274 : decode c_M_init 274 = .ok (.istore_n 1, 1) := by decide +kernel
theorem d_M_init_275 : decode c_M_init 275 = .ok (.iload_n 1, 1) := by decide +kernel
theorem d_M_init_276 : decode c_M_init 276 = .ok (.bipush 8, 2) := by decide +kernel
theorem d_M_init_278 : decode c_M_init 278 = .ok (.if_icmp .ge 16, 3) := by decide +kernel
theorem d_M_init_281 : decode c_M_init 281 = .ok (.aload_n 0, 1) := by decide +kernel
theorem d_M_init_282 : decode c_M_init 282 = .ok (.getfield 13, 3) := by decide +kernel
theorem d_M_init_285 : decode c_M_init 285 = .ok (.iload_n 1, 1) := by decide +kernel
theorem d_M_init_286 : decode c_M_init 286 = .ok (.iconst (-1), 1) := by decide +kernel
theorem d_M_init_287 : decode c_M_init 287 = .ok (.iastore, 1) := by decide +kernel
theorem d_M_init_288 : decode c_M_init 288 = .ok (.iinc 1 1, 3) := by decide +kernel
theorem d_M_init_291 : decode c_M_init 291 = .ok (.goto (-16), 3) := by decide +kernel
theorem d_M_init_294 : decode c_M_init 294 = .ok (.iconst 0, 1) := by decide +kernel
theorem d_M_init_295 : decode c_M_init 295 = .ok (.istore_n 1, 1) := by decide +kernel
theorem d_M_init_296 : decode c_M_init 296 = .ok (.iload_n 1, 1) := by decide +kernel
theorem d_M_init_297 : decode c_M_init 297 = .ok (.bipush 8, 2) := by decide +kernel
theorem d_M_init_299 : decode c_M_init 299 = .ok (.if_icmp .ge 25, 3) := by decide +kernel
theorem d_M_init_302 : decode c_M_init 302 = .ok (.aload_n 0, 1) := by decide +kernel
theorem d_M_init_303 : decode c_M_init 303 = .ok (.getfield 97, 3) := by decide +kernel
theorem d_M_init_306 : decode c_M_init 306 = .ok (.iload_n 1, 1) := by decide +kernel
theorem d_M_init_307 : decode c_M_init 307 = .ok (.bipush (-9), 2) := by decide +kernel
theorem d_M_init_309 : decode c_M_init 309 = .ok (.iastore, 1) := by decide +kernel
theorem d_M_init_310 : decode c_M_init 310 = .ok (.aload_n 0, 1) := by decide +kernel
theorem d_M_init_311 : decode c_M_init 311 = .ok (.getfield 100, 3) := by decide +kernel
theorem d_M_init_314 : decode c_M_init 314 = .ok (.iload_n 1, 1) := by decide +kernel
theorem d_M_init_315 : decode c_M_init 315 = .ok (.bipush (-9), 2) := by decide +kernel
theorem d_M_init_317 : decode c_M_init 317 = .ok (.iastore, 1) := by decide +kernel
theorem d_M_init_318 : decode c_M_init 318 = .ok (.iinc 1 1, 3) := by decide +kernel
theorem d_M_init_321 : decode c_M_init 321 = .ok (.goto (-25), 3) := by decide +kernel
theorem d_M_init_324 : decode c_M_init 324 = .ok (.return_, 1) := by decide +kernel
theorem d_M_in_0 : decode c_M_in 0 = .ok (.iload_n 0, 1) := by decide +kernel
theorem d_M_in_1 : decode c_M_in 1 = .ok (.iload_n 1, 1) := by decide +kernel
theorem d_M_in_2 : decode c_M_in 2 = .ok (.if_icmp .lt 12, 3) := by decide +kernel
theorem d_M_in_5 : decode c_M_in 5 = .ok (.iload_n 0, 1) := by decide +kernel
theorem d_M_in_6 : decode c_M_in 6 = .ok (.iload_n 2, 1) := by decide +kernel
theorem d_M_in_7 : decode c_M_in 7 = .ok (.if_icmp .gt 7, 3) := by decide +kernel
theorem d_M_in_10 : decode c_M_in 10 = .ok (.iconst 1, 1) := by decide +kernel
theorem d_M_in_11 : decode c_M_in 11 = .ok (.goto 4, 3) := by decide +kernel
theorem d_M_in_14 : decode c_M_in 14 = .ok (.iconst 0, 1) := by decide +kernel
theorem d_M_in_15 : decode c_M_in 15 = .ok (.ireturn, 1) := by decide +kernel
theorem d_M_meets_0 : decode c_M_meets 0 = .ok (.aload_n 0, 1) := by decide +kernel
theorem d_M_meets_1 : decode c_M_meets 1 = .ok (.iload_n 1, 1) := by decide +kernel
theorem d_M_meets_2 : decode c_M_meets 2 = .ok (.putfield 114, 3) := by decide +kernel
theorem d_M_meets_5 : decode c_M_meets 5 = .ok (.aload_n 0, 1) := by decide +kernel
theorem d_M_meets_6 : decode c_M_meets 6 = .ok (.getfield 7, 3) := by decide +kernel
theorem d_M_meets_9 : decode c_M_meets 9 = .ok (.iload_n 1, 1) := by decide +kernel
theorem d_M_meets_10 : decode c_M_meets 10 = .ok (.dup2, 1) := by decide +kernel
theorem d_M_meets_11 : decode c_M_meets 11 = .ok (.iaload, 1) := by decide +kernel
theorem d_M_meets_12 : decode c_M_meets 12 = .ok (.iconst 1, 1) := by decide +kernel
theorem d_M_meets_13 : decode c_M_meets 13 = .ok (.iadd, 1) := by decide +kernel
theorem d_M_meets_14 : decode c_M_meets 14 = .ok (.iastore, 1) := by decide +kernel
theorem d_M_meets_15 : decode c_M_meets 15 = .ok (.bipush (-3), 2) := by decide +kernel
theorem d_M_meets_17 : decode c_M_meets 17 = .ok (.ireturn, 1) := by decide +kernel
theorem d_M_finding_0 : decode c_M_finding 0 = .ok (.aload_n 0, 1) := by decide +kernel
theorem d_M_finding_1 : decode c_M_finding 1 = .ok (.getfield 114, 3) := by decide +kernel
theorem d_M_finding_4 : decode c_M_finding 4 = .ok (.ireturn, 1) := by decide +kernel
theorem d_M_findings_0 : decode c_M_findings 0 = .ok (.iload_n 1, 1) := by decide +kernel
theorem d_M_findings_1 : decode c_M_findings 1 = .ok (.iconst 1, 1) := by decide +kernel
theorem d_M_findings_2 : decode c_M_findings 2 = .ok (.iconst 5, 1) := by decide +kernel
theorem d_M_findings_3 : decode c_M_findings 3 = .ok (.invokestatic 117, 3) := by decide +kernel
theorem d_M_findings_6 : decode c_M_findings 6 = .ok (.ifCond .eq 12, 3) := by decide +kernel
theorem d_M_findings_9 : decode c_M_findings 9 = .ok (.aload_n 0, 1) := by decide +kernel
theorem d_M_findings_10 : decode c_M_findings 10 = .ok (.getfield 7, 3) := by decide +kernel
theorem d_M_findings_13 : decode c_M_findings 13 = .ok (.iload_n 1, 1) := by decide +kernel
theorem d_M_findings_14 : decode c_M_findings 14 = .ok (.iaload, 1) := by decide +kernel
theorem d_M_findings_15 : decode c_M_findings 15 = .ok (.goto 4, 3) := by decide +kernel
theorem d_M_findings_18 : decode c_M_findings 18 = .ok (.iconst (-1), 1) := by decide +kernel
theorem d_M_findings_19 : decode c_M_findings 19 = .ok (.ireturn, 1) := by decide +kernel
theorem d_M_tells_0 : decode c_M_tells 0 = .ok (.aload_n 0, 1) := by decide +kernel
theorem d_M_tells_1 : decode c_M_tells 1 = .ok (.iload_n 1, 1) := by decide +kernel
theorem d_M_tells_2 : decode c_M_tells 2 = .ok (.putfield 121, 3) := by decide +kernel
theorem d_M_tells_5 : decode c_M_tells 5 = .ok (.iload_n 2, 1) := by decide +kernel
theorem d_M_tells_6 : decode c_M_tells 6 = .ok (.ireturn, 1) := by decide +kernel
theorem d_M_asked_0 : decode c_M_asked 0 = .ok (.aload_n 0, 1) := by decide +kernel
theorem d_M_asked_1 : decode c_M_asked 1 = .ok (.getfield 121, 3) := by decide +kernel
theorem d_M_asked_4 : decode c_M_asked 4 = .ok (.ireturn, 1) := by decide +kernel
theorem d_M_gcd_0 : decode c_M_gcd 0 = .ok (.lload_n 0, 1) := by decide +kernel
theorem d_M_gcd_1 : decode c_M_gcd 1 = .ok (.lstore 4, 2) := by decide +kernel
theorem d_M_gcd_3 : decode c_M_gcd 3 = .ok (.lload_n 2, 1) := by decide +kernel
theorem d_M_gcd_4 : decode c_M_gcd 4 = .ok (.lstore 6, 2) := by decide +kernel
theorem d_M_gcd_6 : decode c_M_gcd 6 = .ok (.lload 6, 2) := by decide +kernel
theorem d_M_gcd_8 : decode c_M_gcd 8 = .ok (.lconst 0, 1) := by decide +kernel
theorem d_M_gcd_9 : decode c_M_gcd 9 = .ok (.lcmp, 1) := by decide +kernel
theorem d_M_gcd_10 : decode c_M_gcd 10 = .ok (.ifCond .eq 21, 3) := by decide +kernel
theorem d_M_gcd_13 : decode c_M_gcd 13 = .ok (.lload 4, 2) := by decide +kernel
theorem d_M_gcd_15 : decode c_M_gcd 15 = .ok (.lload 6, 2) := by decide +kernel
theorem d_M_gcd_17 : decode c_M_gcd 17 = .ok (.lrem, 1) := by decide +kernel
theorem d_M_gcd_18 : decode c_M_gcd 18 = .ok (.lstore 8, 2) := by decide +kernel
theorem d_M_gcd_20 : decode c_M_gcd 20 = .ok (.lload 6, 2) := by decide +kernel
theorem d_M_gcd_22 : decode c_M_gcd 22 = .ok (.lstore 4, 2) := by decide +kernel
theorem d_M_gcd_24 : decode c_M_gcd 24 = .ok (.lload 8, 2) := by decide +kernel
theorem d_M_gcd_26 : decode c_M_gcd 26 = .ok (.lstore 6, 2) := by decide +kernel
theorem d_M_gcd_28 : decode c_M_gcd 28 = .ok (.goto (-22), 3) := by decide +kernel
theorem d_M_gcd_31 : decode c_M_gcd 31 = .ok (.lload 4, 2) := by decide +kernel
theorem d_M_gcd_33 : decode c_M_gcd 33 = .ok (.lreturn, 1) := by decide +kernel
theorem d_M_fraction_0 : decode c_M_fraction 0 = .ok (.lload_n 1, 1) := by decide +kernel
theorem d_M_fraction_1 : decode c_M_fraction 1 = .ok (.lload_n 3, 1) := by decide +kernel
theorem d_M_fraction_2 : decode c_M_fraction 2 = .ok (.invokestatic 124, 3) := by decide +kernel
theorem d_M_fraction_5 : decode c_M_fraction 5 = .ok (.lstore 6, 2) := by decide +kernel
theorem d_M_fraction_7 : decode c_M_fraction 7 = .ok (.aload_n 0, 1) := by decide +kernel
theorem d_M_fraction_8 : decode c_M_fraction 8 = .ok (.lload_n 1, 1) := by decide +kernel
theorem d_M_fraction_9 : decode c_M_fraction 9 = .ok (.lload 6, 2) := by decide +kernel
theorem d_M_fraction_11 : decode c_M_fraction 11 = .ok (.ldiv, 1) := by decide +kernel
theorem d_M_fraction_12 : decode c_M_fraction 12 = .ok (.putfield 128, 3) := by decide +kernel
theorem d_M_fraction_15 : decode c_M_fraction 15 = .ok (.aload_n 0, 1) := by decide +kernel
theorem d_M_fraction_16 : decode c_M_fraction 16 = .ok (.lload_n 3, 1) := by decide +kernel
theorem d_M_fraction_17 : decode c_M_fraction 17 = .ok (.lload 6, 2) := by decide +kernel
theorem d_M_fraction_19 : decode c_M_fraction 19 = .ok (.ldiv, 1) := by decide +kernel
theorem d_M_fraction_20 : decode c_M_fraction 20 = .ok (.putfield 103, 3) := by decide +kernel
theorem d_M_fraction_23 : decode c_M_fraction 23 = .ok (.iload 5, 2) := by decide +kernel
theorem d_M_fraction_25 : decode c_M_fraction 25 = .ok (.ireturn, 1) := by decide +kernel
theorem d_M_upper_0 : decode c_M_upper 0 = .ok (.aload_n 0, 1) := by decide +kernel
theorem d_M_upper_1 : decode c_M_upper 1 = .ok (.getfield 128, 3) := by decide +kernel
theorem d_M_upper_4 : decode c_M_upper 4 = .ok (.lreturn, 1) := by decide +kernel
theorem d_M_lower_0 : decode c_M_lower 0 = .ok (.aload_n 0, 1) := by decide +kernel
theorem d_M_lower_1 : decode c_M_lower 1 = .ok (.getfield 103, 3) := by decide +kernel
theorem d_M_lower_4 : decode c_M_lower 4 = .ok (.lreturn, 1) := by decide +kernel
theorem d_M_isRow_0 : decode c_M_isRow 0 = .ok (.iload_n 0, 1) := by decide +kernel
theorem d_M_isRow_1 : decode c_M_isRow 1 = .ok (.iconst 0, 1) := by decide +kernel
theorem d_M_isRow_2 : decode c_M_isRow 2 = .ok (.bipush 7, 2) := by decide +kernel
theorem d_M_isRow_4 : decode c_M_isRow 4 = .ok (.invokestatic 117, 3) := by decide +kernel
theorem d_M_isRow_7 : decode c_M_isRow 7 = .ok (.ireturn, 1) := by decide +kernel
theorem d_M_at_0 : decode c_M_at 0 = .ok (.aload_n 0, 1) := by decide +kernel
theorem d_M_at_1 : decode c_M_at 1 = .ok (.getfield 16, 3) := by decide +kernel
theorem d_M_at_4 : decode c_M_at 4 = .ok (.bipush 40, 2) := by decide +kernel
theorem d_M_at_6 : decode c_M_at 6 = .ok (.iload_n 1, 1) := by decide +kernel
theorem d_M_at_7 : decode c_M_at 7 = .ok (.imul, 1) := by decide +kernel
theorem d_M_at_8 : decode c_M_at 8 = .ok (.iload_n 2, 1) := by decide +kernel
theorem d_M_at_9 : decode c_M_at 9 = .ok (.iadd, 1) := by decide +kernel
theorem d_M_at_10 : decode c_M_at 10 = .ok (.baload, 1) := by decide +kernel
theorem d_M_at_11 : decode c_M_at 11 = .ok (.ireturn, 1) := by decide +kernel
theorem d_M_row_0 : decode c_M_row 0 = .ok (.iload_n 1, 1) := by decide +kernel
theorem d_M_row_1 : decode c_M_row 1 = .ok (.invokestatic 131, 3) := by decide +kernel
theorem d_M_row_4 : decode c_M_row 4 = .ok (.ifCond .eq 9, 3) := by decide +kernel
theorem d_M_row_7 : decode c_M_row 7 = .ok (.iload_n 2, 1) := by decide +kernel
theorem d_M_row_8 : decode c_M_row 8 = .ok (.bipush 40, 2) := by decide +kernel
theorem d_M_row_10 : decode c_M_row 10 = .ok (.if_icmp .le 5, 3) := by decide +kernel
theorem d_M_row_13 : decode c_M_row 13 = .ok (.iconst (-1), 1) := by decide +kernel
theorem d_M_row_14 : decode c_M_row 14 = .ok (.ireturn, 1) := by decide +kernel
theorem d_M_row_15 : decode c_M_row 15 = .ok (.iload_n 2, 1) := by decide +kernel
theorem d_M_row_16 : decode c_M_row 16 = .ok (.ifCond .ge 9, 3) := by decide +kernel
theorem d_M_row_19 : decode c_M_row 19 = .ok (.aload_n 0, 1) := by decide +kernel
theorem d_M_row_20 : decode c_M_row 20 = .ok (.iconst 5, 1) := by decide +kernel
theorem d_M_row_21 : decode c_M_row 21 = .ok (.invokevirtual 135, 3) := by decide +kernel
theorem d_M_row_24 : decode c_M_row 24 = .ok (.ireturn, 1) := by decide +kernel
theorem d_M_row_25 : decode c_M_row 25 = .ok (.aload_n 0, 1) := by decide +kernel
theorem d_M_row_26 : decode c_M_row 26 = .ok (.getfield 13, 3) := by decide +kernel
theorem d_M_row_29 : decode c_M_row 29 = .ok (.iload_n 1, 1) := by decide +kernel
theorem d_M_row_30 : decode c_M_row 30 = .ok (.iload_n 2, 1) := by decide +kernel
theorem d_M_row_31 : decode c_M_row 31 = .ok (.iastore, 1) := by decide +kernel
theorem d_M_row_32 : decode c_M_row 32 = .ok (.iconst 0, 1) := by decide +kernel
theorem d_M_row_33 : decode c_M_row 33 = .ok (.istore_n 3, 1) := by decide +kernel
theorem d_M_row_34 : decode c_M_row 34 = .ok (.iload_n 3, 1) := by decide +kernel
theorem d_M_row_35 : decode c_M_row 35 = .ok (.bipush 40, 2) := by decide +kernel
theorem d_M_row_37 : decode c_M_row 37 = .ok (.if_icmp .ge 21, 3) := by decide +kernel
theorem d_M_row_40 : decode c_M_row 40 = .ok (.aload_n 0, 1) := by decide +kernel
theorem d_M_row_41 : decode c_M_row 41 = .ok (.getfield 16, 3) := by decide +kernel
theorem d_M_row_44 : decode c_M_row 44 = .ok (.bipush 40, 2) := by decide +kernel
theorem d_M_row_46 : decode c_M_row 46 = .ok (.iload_n 1, 1) := by decide +kernel
theorem d_M_row_47 : decode c_M_row 47 = .ok (.imul, 1) := by decide +kernel
theorem d_M_row_48 : decode c_M_row 48 = .ok (.iload_n 3, 1) := by decide +kernel
theorem d_M_row_49 : decode c_M_row 49 = .ok (.iadd, 1) := by decide +kernel
theorem d_M_row_50 : decode c_M_row 50 = .ok (.iconst 0, 1) := by decide +kernel
theorem d_M_row_51 : decode c_M_row 51 = .ok (.bastore, 1) := by decide +kernel
theorem d_M_row_52 : decode c_M_row 52 = .ok (.iinc 3 1, 3) := by decide +kernel
theorem d_M_row_55 : decode c_M_row 55 = .ok (.goto (-21), 3) := by decide +kernel
theorem d_M_row_58 : decode c_M_row 58 = .ok (.iload_n 2, 1) := by decide +kernel
theorem d_M_row_59 : decode c_M_row 59 = .ok (.ireturn, 1) := by decide +kernel
theorem d_M_lay_0 : decode c_M_lay 0 = .ok (.iload_n 1, 1) := by decide +kernel
theorem d_M_lay_1 : decode c_M_lay 1 = .ok (.invokestatic 131, 3) := by decide +kernel
theorem d_M_lay_4 : decode c_M_lay 4 = .ok (.ifCond .ne 5, 3) := by decide +kernel
theorem d_M_lay_7 : decode c_M_lay 7 = .ok (.iconst (-1), 1) := by decide +kernel
theorem d_M_lay_8 : decode c_M_lay 8 = .ok (.ireturn, 1) := by decide +kernel
theorem d_M_lay_9 : decode c_M_lay 9 = .ok (.aload_n 0, 1) := by decide +kernel
theorem d_M_lay_10 : decode c_M_lay 10 = .ok (.getfield 13, 3) := by decide +kernel
theorem d_M_lay_13 : decode c_M_lay 13 = .ok (.iload_n 1, 1) := by decide +kernel
theorem d_M_lay_14 : decode c_M_lay 14 = .ok (.iaload, 1) := by decide +kernel
theorem d_M_lay_15 : decode c_M_lay 15 = .ok (.ifCond .ge 9, 3) := by decide +kernel
theorem d_M_lay_18 : decode c_M_lay 18 = .ok (.aload_n 0, 1) := by decide +kernel
theorem d_M_lay_19 : decode c_M_lay 19 = .ok (.iconst 1, 1) := by decide +kernel
theorem d_M_lay_20 : decode c_M_lay 20 = .ok (.invokevirtual 135, 3) := by decide +kernel
theorem d_M_lay_23 : decode c_M_lay 23 = .ok (.ireturn, 1) := by decide +kernel
theorem d_M_lay_24 : decode c_M_lay 24 = .ok (.iload_n 2, 1) := by decide +kernel
theorem d_M_lay_25 : decode c_M_lay 25 = .ok (.iconst 0, 1) := by decide +kernel
theorem d_M_lay_26 : decode c_M_lay 26 = .ok (.aload_n 0, 1) := by decide +kernel
theorem d_M_lay_27 : decode c_M_lay 27 = .ok (.getfield 13, 3) := by decide +kernel
theorem d_M_lay_30 : decode c_M_lay 30 = .ok (.iload_n 1, 1) := by decide +kernel
theorem d_M_lay_31 : decode c_M_lay 31 = .ok (.iaload, 1) := by decide +kernel
theorem d_M_lay_32 : decode c_M_lay 32 = .ok (.iconst 1, 1) := by decide +kernel
theorem d_M_lay_33 : decode c_M_lay 33 = .ok (.isub, 1) := by decide +kernel
theorem d_M_lay_34 : decode c_M_lay 34 = .ok (.invokestatic 117, 3) := by decide +kernel
theorem d_M_lay_37 : decode c_M_lay 37 = .ok (.ifCond .ne 9, 3) := by decide +kernel
theorem d_M_lay_40 : decode c_M_lay 40 = .ok (.aload_n 0, 1) := by decide +kernel
theorem d_M_lay_41 : decode c_M_lay 41 = .ok (.iconst 2, 1) := by decide +kernel
theorem d_M_lay_42 : decode c_M_lay 42 = .ok (.invokevirtual 135, 3) := by decide +kernel
theorem d_M_lay_45 : decode c_M_lay 45 = .ok (.ireturn, 1) := by decide +kernel
theorem d_M_lay_46 : decode c_M_lay 46 = .ok (.aload_n 0, 1) := by decide +kernel
theorem d_M_lay_47 : decode c_M_lay 47 = .ok (.iload_n 1, 1) := by decide +kernel
theorem d_M_lay_48 : decode c_M_lay 48 = .ok (.iload_n 2, 1) := by decide +kernel
theorem d_M_lay_49 : decode c_M_lay 49 = .ok (.invokevirtual 139, 3) := by decide +kernel
theorem d_M_lay_52 : decode c_M_lay 52 = .ok (.istore 4, 2) := by decide +kernel
theorem d_M_lay_54 : decode c_M_lay 54 = .ok (.aload_n 0, 1) := by decide +kernel
theorem d_M_lay_55 : decode c_M_lay 55 = .ok (.getfield 16, 3) := by decide +kernel
theorem d_M_lay_58 : decode c_M_lay 58 = .ok (.bipush 40, 2) := by decide +kernel
theorem d_M_lay_60 : decode c_M_lay 60 = .ok (.iload_n 1, 1) := by decide +kernel
theorem d_M_lay_61 : decode c_M_lay 61 = .ok (.imul, 1) := by decide +kernel
theorem d_M_lay_62 : decode c_M_lay 62 = .ok (.iload_n 2, 1) := by decide +kernel
theorem d_M_lay_63 : decode c_M_lay 63 = .ok (.iadd, 1) := by decide +kernel
theorem d_M_lay_64 : decode c_M_lay 64 = .ok (.iload_n 3, 1) := by decide +kernel
theorem d_M_lay_65 : decode c_M_lay 65 = .ok (.i2b, 1) := by decide +kernel
theorem d_M_lay_66 : decode c_M_lay 66 = .ok (.bastore, 1) := by decide +kernel
theorem d_M_lay_67 : decode c_M_lay 67 = .ok (.sipush 1000, 3) := by decide +kernel
theorem d_M_lay_70 : decode c_M_lay 70 = .ok (.iload 4, 2) := by decide +kernel
theorem d_M_lay_72 : decode c_M_lay 72 = .ok (.iadd, 1) := by decide +kernel
theorem d_M_lay_73 : decode c_M_lay 73 = .ok (.ireturn, 1) := by decide +kernel
theorem d_M_tear_0 : decode c_M_tear 0 = .ok (.iload_n 1, 1) := by decide +kernel
theorem d_M_tear_1 : decode c_M_tear 1 = .ok (.invokestatic 131, 3) := by decide +kernel
theorem d_M_tear_4 : decode c_M_tear 4 = .ok (.ifCond .ne 5, 3) := by decide +kernel
theorem d_M_tear_7 : decode c_M_tear 7 = .ok (.iconst (-1), 1) := by decide +kernel
theorem d_M_tear_8 : decode c_M_tear 8 = .ok (.ireturn, 1) := by decide +kernel
theorem d_M_tear_9 : decode c_M_tear 9 = .ok (.aload_n 0, 1) := by decide +kernel
theorem d_M_tear_10 : decode c_M_tear 10 = .ok (.getfield 13, 3) := by decide +kernel
theorem d_M_tear_13 : decode c_M_tear 13 = .ok (.iload_n 1, 1) := by decide +kernel
theorem d_M_tear_14 : decode c_M_tear 14 = .ok (.iaload, 1) := by decide +kernel
theorem d_M_tear_15 : decode c_M_tear 15 = .ok (.ifCond .ge 9, 3) := by decide +kernel
theorem d_M_tear_18 : decode c_M_tear 18 = .ok (.aload_n 0, 1) := by decide +kernel
theorem d_M_tear_19 : decode c_M_tear 19 = .ok (.iconst 1, 1) := by decide +kernel
theorem d_M_tear_20 : decode c_M_tear 20 = .ok (.invokevirtual 135, 3) := by decide +kernel
theorem d_M_tear_23 : decode c_M_tear 23 = .ok (.ireturn, 1) := by decide +kernel
theorem d_M_tear_24 : decode c_M_tear 24 = .ok (.aload_n 0, 1) := by decide +kernel
theorem d_M_tear_25 : decode c_M_tear 25 = .ok (.getfield 13, 3) := by decide +kernel
theorem d_M_tear_28 : decode c_M_tear 28 = .ok (.iload_n 1, 1) := by decide +kernel
theorem d_M_tear_29 : decode c_M_tear 29 = .ok (.iconst (-1), 1) := by decide +kernel
theorem d_M_tear_30 : decode c_M_tear 30 = .ok (.iastore, 1) := by decide +kernel
theorem d_M_tear_31 : decode c_M_tear 31 = .ok (.iconst 1, 1) := by decide +kernel
theorem d_M_tear_32 : decode c_M_tear 32 = .ok (.ireturn, 1) := by decide +kernel
theorem d_M_copy_0 : decode c_M_copy 0 = .ok (.iload_n 1, 1) := by decide +kernel
theorem d_M_copy_1 : decode c_M_copy 1 = .ok (.invokestatic 131, 3) := by decide +kernel
theorem d_M_copy_4 : decode c_M_copy 4 = .ok (.ifCond .eq 10, 3) := by decide +kernel
theorem d_M_copy_7 : decode c_M_copy 7 = .ok (.iload_n 3, 1) := by decide +kernel
theorem d_M_copy_8 : decode c_M_copy 8 = .ok (.invokestatic 131, 3) := by decide +kernel
theorem d_M_copy_11 : decode c_M_copy 11 = .ok (.ifCond .ne 5, 3) := by decide +kernel
theorem d_M_copy_14 : decode c_M_copy 14 = .ok (.iconst (-1), 1) := by decide +kernel
theorem d_M_copy_15 : decode c_M_copy 15 = .ok (.ireturn, 1) := by decide +kernel
theorem d_M_copy_16 : decode c_M_copy 16 = .ok (.aload_n 0, 1) := by decide +kernel
theorem d_M_copy_17 : decode c_M_copy 17 = .ok (.getfield 13, 3) := by decide +kernel
theorem d_M_copy_20 : decode c_M_copy 20 = .ok (.iload_n 1, 1) := by decide +kernel
theorem d_M_copy_21 : decode c_M_copy 21 = .ok (.iaload, 1) := by decide +kernel
theorem d_M_copy_22 : decode c_M_copy 22 = .ok (.ifCond .lt 12, 3) := by decide +kernel
theorem d_M_copy_25 : decode c_M_copy 25 = .ok (.aload_n 0, 1) := by decide +kernel
theorem d_M_copy_26 : decode c_M_copy 26 = .ok (.getfield 13, 3) := by decide +kernel
theorem d_M_copy_29 : decode c_M_copy 29 = .ok (.iload_n 3, 1) := by decide +kernel
theorem d_M_copy_30 : decode c_M_copy 30 = .ok (.iaload, 1) := by decide +kernel
theorem d_M_copy_31 : decode c_M_copy 31 = .ok (.ifCond .ge 9, 3) := by decide +kernel
theorem d_M_copy_34 : decode c_M_copy 34 = .ok (.aload_n 0, 1) := by decide +kernel
theorem d_M_copy_35 : decode c_M_copy 35 = .ok (.iconst 1, 1) := by decide +kernel
theorem d_M_copy_36 : decode c_M_copy 36 = .ok (.invokevirtual 135, 3) := by decide +kernel
theorem d_M_copy_39 : decode c_M_copy 39 = .ok (.ireturn, 1) := by decide +kernel
theorem d_M_copy_40 : decode c_M_copy 40 = .ok (.iload_n 2, 1) := by decide +kernel
theorem d_M_copy_41 : decode c_M_copy 41 = .ok (.ifCond .lt 48, 3) := by decide +kernel
theorem d_M_copy_44 : decode c_M_copy 44 = .ok (.iload 4, 2) := by decide +kernel
theorem d_M_copy_46 : decode c_M_copy 46 = .ok (.ifCond .lt 43, 3) := by decide +kernel
theorem d_M_copy_49 : decode c_M_copy 49 = .ok (.iload 5, 2) := by decide +kernel
theorem d_M_copy_51 : decode c_M_copy 51 = .ok (.ifCond .lt 38, 3) := by decide +kernel
theorem d_M_copy_54 : decode c_M_copy 54 = .ok (.iload_n 2, 1) := by decide +kernel
theorem d_M_copy_55 : decode c_M_copy 55 = .ok (.i2l, 1) := by decide +kernel
theorem d_M_copy_56 : decode c_M_copy 56 = .ok (.iload 5, 2) := by decide +kernel
theorem d_M_copy_58 : decode c_M_copy 58 = .ok (.i2l, 1) := by decide +kernel
theorem d_M_copy_59 : decode c_M_copy 59 = .ok (.ladd, 1) := by decide +kernel
theorem d_M_copy_60 : decode c_M_copy 60 = .ok (.aload_n 0, 1) := by decide +kernel
theorem d_M_copy_61 : decode c_M_copy 61 = .ok (.getfield 13, 3) := by decide +kernel
theorem d_M_copy_64 : decode c_M_copy 64 = .ok (.iload_n 1, 1) := by decide +kernel
theorem d_M_copy_65 : decode c_M_copy 65 = .ok (.iaload, 1) := by decide +kernel
theorem d_M_copy_66 : decode c_M_copy 66 = .ok (.i2l, 1) := by decide +kernel
theorem d_M_copy_67 : decode c_M_copy 67 = .ok (.lcmp, 1) := by decide +kernel
theorem d_M_copy_68 : decode c_M_copy 68 = .ok (.ifCond .gt 21, 3) := by decide +kernel
theorem d_M_copy_71 : decode c_M_copy 71 = .ok (.iload 4, 2) := by decide +kernel
theorem d_M_copy_73 : decode c_M_copy 73 = .ok (.i2l, 1) := by decide +kernel
theorem d_M_copy_74 : decode c_M_copy 74 = .ok (.iload 5, 2) := by decide +kernel
theorem d_M_copy_76 : decode c_M_copy 76 = .ok (.i2l, 1) := by decide +kernel
theorem d_M_copy_77 : decode c_M_copy 77 = .ok (.ladd, 1) := by decide +kernel
theorem d_M_copy_78 : decode c_M_copy 78 = .ok (.aload_n 0, 1) := by decide +kernel
theorem d_M_copy_79 : decode c_M_copy 79 = .ok (.getfield 13, 3) := by decide +kernel
theorem d_M_copy_82 : decode c_M_copy 82 = .ok (.iload_n 3, 1) := by decide +kernel
theorem d_M_copy_83 : decode c_M_copy 83 = .ok (.iaload, 1) := by decide +kernel
theorem d_M_copy_84 : decode c_M_copy 84 = .ok (.i2l, 1) := by decide +kernel
theorem d_M_copy_85 : decode c_M_copy 85 = .ok (.lcmp, 1) := by decide +kernel
theorem d_M_copy_86 : decode c_M_copy 86 = .ok (.ifCond .le 9, 3) := by decide +kernel
theorem d_M_copy_89 : decode c_M_copy 89 = .ok (.aload_n 0, 1) := by decide +kernel
theorem d_M_copy_90 : decode c_M_copy 90 = .ok (.iconst 2, 1) := by decide +kernel
theorem d_M_copy_91 : decode c_M_copy 91 = .ok (.invokevirtual 135, 3) := by decide +kernel
theorem d_M_copy_94 : decode c_M_copy 94 = .ok (.ireturn, 1) := by decide +kernel
theorem d_M_copy_95 : decode c_M_copy 95 = .ok (.iconst 0, 1) := by decide +kernel
theorem d_M_copy_96 : decode c_M_copy 96 = .ok (.istore 6, 2) := by decide +kernel
theorem d_M_copy_98 : decode c_M_copy 98 = .ok (.iload 6, 2) := by decide +kernel
theorem d_M_copy_100 : decode c_M_copy 100 = .ok (.iload 5, 2) := by decide +kernel
theorem d_M_copy_102 : decode c_M_copy 102 = .ok (.if_icmp .ge 30, 3) := by decide +kernel
theorem d_M_copy_105 : decode c_M_copy 105 = .ok (.aload_n 0, 1) := by decide +kernel
theorem d_M_copy_106 : decode c_M_copy 106 = .ok (.getfield 20, 3) := by decide +kernel
theorem d_M_copy_109 : decode c_M_copy 109 = .ok (.iload 6, 2) := by decide +kernel
theorem d_M_copy_111 : decode c_M_copy 111 = .ok (.aload_n 0, 1) := by decide +kernel
theorem d_M_copy_112 : decode c_M_copy 112 = .ok (.getfield 16, 3) := by decide +kernel
theorem d_M_copy_115 : decode c_M_copy 115 = .ok (.bipush 40, 2) := by decide +kernel
theorem d_M_copy_117 : decode c_M_copy 117 = .ok (.iload_n 1, 1) := by decide +kernel
theorem d_M_copy_118 : decode c_M_copy 118 = .ok (.imul, 1) := by decide +kernel
theorem d_M_copy_119 : decode c_M_copy 119 = .ok (.iload_n 2, 1) := by decide +kernel
theorem d_M_copy_120 : decode c_M_copy 120 = .ok (.iadd, 1) := by decide +kernel
theorem d_M_copy_121 : decode c_M_copy 121 = .ok (.iload 6, 2) := by decide +kernel
theorem d_M_copy_123 : decode c_M_copy 123 = .ok (.iadd, 1) := by decide +kernel
theorem d_M_copy_124 : decode c_M_copy 124 = .ok (.baload, 1) := by decide +kernel
theorem d_M_copy_125 : decode c_M_copy 125 = .ok (.bastore, 1) := by decide +kernel
theorem d_M_copy_126 : decode c_M_copy 126 = .ok (.iinc 6 1, 3) := by decide +kernel
theorem d_M_copy_129 : decode c_M_copy 129 = .ok (.goto (-31), 3) := by decide +kernel
theorem d_M_copy_132 : decode c_M_copy 132 = .ok (.iconst 0, 1) := by decide +kernel
theorem d_M_copy_133 : decode c_M_copy 133 = .ok (.istore 6, 2) := by decide +kernel
theorem d_M_copy_135 : decode c_M_copy 135 = .ok (.iload 6, 2) := by decide +kernel
theorem d_M_copy_137 : decode c_M_copy 137 = .ok (.iload 5, 2) := by decide +kernel
theorem d_M_copy_139 : decode c_M_copy 139 = .ok (.if_icmp .ge 31, 3) := by decide +kernel
theorem d_M_copy_142 : decode c_M_copy 142 = .ok (.aload_n 0, 1) := by decide +kernel
theorem d_M_copy_143 : decode c_M_copy 143 = .ok (.getfield 16, 3) := by decide +kernel
theorem d_M_copy_146 : decode c_M_copy 146 = .ok (.bipush 40, 2) := by decide +kernel
theorem d_M_copy_148 : decode c_M_copy 148 = .ok (.iload_n 3, 1) := by decide +kernel
theorem d_M_copy_149 : decode c_M_copy 149 = .ok (.imul, 1) := by decide +kernel
theorem d_M_copy_150 : decode c_M_copy 150 = .ok (.iload 4, 2) := by decide +kernel
theorem d_M_copy_152 : decode c_M_copy 152 = .ok (.iadd, 1) := by decide +kernel
theorem d_M_copy_153 : decode c_M_copy 153 = .ok (.iload 6, 2) := by decide +kernel
theorem d_M_copy_155 : decode c_M_copy 155 = .ok (.iadd, 1) := by decide +kernel
theorem d_M_copy_156 : decode c_M_copy 156 = .ok (.aload_n 0, 1) := by decide +kernel
theorem d_M_copy_157 : decode c_M_copy 157 = .ok (.getfield 20, 3) := by decide +kernel
theorem d_M_copy_160 : decode c_M_copy 160 = .ok (.iload 6, 2) := by decide +kernel
theorem d_M_copy_162 : decode c_M_copy 162 = .ok (.baload, 1) := by decide +kernel
theorem d_M_copy_163 : decode c_M_copy 163 = .ok (.bastore, 1) := by decide +kernel
theorem d_M_copy_164 : decode c_M_copy 164 = .ok (.iinc 6 1, 3) := by decide +kernel
theorem d_M_copy_167 : decode c_M_copy 167 = .ok (.goto (-32), 3) := by decide +kernel
theorem d_M_copy_170 : decode c_M_copy 170 = .ok (.iconst 1, 1) := by decide +kernel
theorem d_M_copy_171 : decode c_M_copy 171 = .ok (.ireturn, 1) := by decide +kernel
theorem d_M_mean_0 : decode c_M_mean 0 = .ok (.iload_n 1, 1) := by decide +kernel
theorem d_M_mean_1 : decode c_M_mean 1 = .ok (.invokestatic 131, 3) := by decide +kernel
theorem d_M_mean_4 : decode c_M_mean 4 = .ok (.ifCond .ne 5, 3) := by decide +kernel
theorem d_M_mean_7 : decode c_M_mean 7 = .ok (.iconst (-1), 1) := by decide +kernel
theorem d_M_mean_8 : decode c_M_mean 8 = .ok (.ireturn, 1) := by decide +kernel
theorem d_M_mean_9 : decode c_M_mean 9 = .ok (.aload_n 0, 1) := by decide +kernel
theorem d_M_mean_10 : decode c_M_mean 10 = .ok (.getfield 13, 3) := by decide +kernel
theorem d_M_mean_13 : decode c_M_mean 13 = .ok (.iload_n 1, 1) := by decide +kernel
theorem d_M_mean_14 : decode c_M_mean 14 = .ok (.iaload, 1) := by decide +kernel
theorem d_M_mean_15 : decode c_M_mean 15 = .ok (.ifCond .ge 9, 3) := by decide +kernel
theorem d_M_mean_18 : decode c_M_mean 18 = .ok (.aload_n 0, 1) := by decide +kernel
theorem d_M_mean_19 : decode c_M_mean 19 = .ok (.iconst 1, 1) := by decide +kernel
theorem d_M_mean_20 : decode c_M_mean 20 = .ok (.invokevirtual 135, 3) := by decide +kernel
theorem d_M_mean_23 : decode c_M_mean 23 = .ok (.ireturn, 1) := by decide +kernel
theorem d_M_mean_24 : decode c_M_mean 24 = .ok (.iconst 0, 1) := by decide +kernel
theorem d_M_mean_25 : decode c_M_mean 25 = .ok (.istore_n 2, 1) := by decide +kernel
theorem d_M_mean_26 : decode c_M_mean 26 = .ok (.iconst 0, 1) := by decide +kernel
theorem d_M_mean_27 : decode c_M_mean 27 = .ok (.istore_n 3, 1) := by decide +kernel
theorem d_M_mean_28 : decode c_M_mean 28 = .ok (.iload_n 3, 1) := by decide +kernel
theorem d_M_mean_29 : decode c_M_mean 29 = .ok (.aload_n 0, 1) := by decide +kernel
theorem d_M_mean_30 : decode c_M_mean 30 = .ok (.getfield 13, 3) := by decide +kernel
theorem d_M_mean_33 : decode c_M_mean 33 = .ok (.iload_n 1, 1) := by decide +kernel
theorem d_M_mean_34 : decode c_M_mean 34 = .ok (.iaload, 1) := by decide +kernel
theorem d_M_mean_35 : decode c_M_mean 35 = .ok (.if_icmp .ge 18, 3) := by decide +kernel
theorem d_M_mean_38 : decode c_M_mean 38 = .ok (.iload_n 2, 1) := by decide +kernel
theorem d_M_mean_39 : decode c_M_mean 39 = .ok (.aload_n 0, 1) := by decide +kernel
theorem d_M_mean_40 : decode c_M_mean 40 = .ok (.iload_n 1, 1) := by decide +kernel
theorem d_M_mean_41 : decode c_M_mean 41 = .ok (.iload_n 3, 1) := by decide +kernel
theorem d_M_mean_42 : decode c_M_mean 42 = .ok (.invokevirtual 139, 3) := by decide +kernel
theorem d_M_mean_45 : decode c_M_mean 45 = .ok (.iadd, 1) := by decide +kernel
theorem d_M_mean_46 : decode c_M_mean 46 = .ok (.istore_n 2, 1) := by decide +kernel
theorem d_M_mean_47 : decode c_M_mean 47 = .ok (.iinc 3 1, 3) := by decide +kernel
theorem d_M_mean_50 : decode c_M_mean 50 = .ok (.goto (-22), 3) := by decide +kernel
theorem d_M_mean_53 : decode c_M_mean 53 = .ok (.aload_n 0, 1) := by decide +kernel
theorem d_M_mean_54 : decode c_M_mean 54 = .ok (.getfield 13, 3) := by decide +kernel
theorem d_M_mean_57 : decode c_M_mean 57 = .ok (.iload_n 1, 1) := by decide +kernel
theorem d_M_mean_58 : decode c_M_mean 58 = .ok (.iaload, 1) := by decide +kernel
theorem d_M_mean_59 : decode c_M_mean 59 = .ok (.ifCond .ne 11, 3) := by decide +kernel
theorem d_M_mean_62 : decode c_M_mean 62 = .ok (.aload_n 0, 1) := by decide +kernel
theorem d_M_mean_63 : decode c_M_mean 63 = .ok (.iconst 4, 1) := by decide +kernel
theorem d_M_mean_64 : decode c_M_mean 64 = .ok (.invokevirtual 135, 3) := by decide +kernel
theorem d_M_mean_67 : decode c_M_mean 67 = .ok (.goto 11, 3) := by decide +kernel
theorem d_M_mean_70 : decode c_M_mean 70 = .ok (.iload_n 2, 1) := by decide +kernel
theorem d_M_mean_71 : decode c_M_mean 71 = .ok (.aload_n 0, 1) := by decide +kernel
theorem d_M_mean_72 : decode c_M_mean 72 = .ok (.getfield 13, 3) := by decide +kernel
theorem d_M_mean_75 : decode c_M_mean 75 = .ok (.iload_n 1, 1) := by decide +kernel
theorem d_M_mean_76 : decode c_M_mean 76 = .ok (.iaload, 1) := by decide +kernel
theorem d_M_mean_77 : decode c_M_mean 77 = .ok (.idiv, 1) := by decide +kernel
theorem d_M_mean_78 : decode c_M_mean 78 = .ok (.ireturn, 1) := by decide +kernel
theorem d_M_clear_0 : decode c_M_clear 0 = .ok (.aload_n 0, 1) := by decide +kernel
theorem d_M_clear_1 : decode c_M_clear 1 = .ok (.iload_n 1, 1) := by decide +kernel
theorem d_M_clear_2 : decode c_M_clear 2 = .ok (.putfield 107, 3) := by decide +kernel
theorem d_M_clear_5 : decode c_M_clear 5 = .ok (.aload_n 0, 1) := by decide +kernel
theorem d_M_clear_6 : decode c_M_clear 6 = .ok (.iload_n 2, 1) := by decide +kernel
theorem d_M_clear_7 : decode c_M_clear 7 = .ok (.putfield 111, 3) := by decide +kernel
theorem d_M_clear_10 : decode c_M_clear 10 = .ok (.iconst 0, 1) := by decide +kernel
theorem d_M_clear_11 : decode c_M_clear 11 = .ok (.istore_n 3, 1) := by decide +kernel
theorem d_M_clear_12 : decode c_M_clear 12 = .ok (.iload_n 3, 1) := by decide +kernel
theorem d_M_clear_13 : decode c_M_clear 13 = .ok (.sipush 256, 3) := by decide +kernel
theorem d_M_clear_16 : decode c_M_clear 16 = .ok (.if_icmp .ge 23, 3) := by decide +kernel
theorem d_M_clear_19 : decode c_M_clear 19 = .ok (.aload_n 0, 1) := by decide +kernel
theorem d_M_clear_20 : decode c_M_clear 20 = .ok (.getfield 23, 3) := by decide +kernel
theorem d_M_clear_23 : decode c_M_clear 23 = .ok (.iload_n 3, 1) := by decide +kernel
theorem d_M_clear_24 : decode c_M_clear 24 = .ok (.iconst 0, 1) := by decide +kernel
theorem d_M_clear_25 : decode c_M_clear 25 = .ok (.iastore, 1) := by decide +kernel
theorem d_M_clear_26 : decode c_M_clear 26 = .ok (.aload_n 0, 1) := by decide +kernel
theorem d_M_clear_27 : decode c_M_clear 27 = .ok (.getfield 26, 3) := by decide +kernel
theorem d_M_clear_30 : decode c_M_clear 30 = .ok (.iload_n 3, 1) := by decide +kernel
theorem d_M_clear_31 : decode c_M_clear 31 = .ok (.iconst 0, 1) := by decide +kernel
theorem d_M_clear_32 : decode c_M_clear 32 = .ok (.bastore, 1) := by decide +kernel
theorem d_M_clear_33 : decode c_M_clear 33 = .ok (.iinc 3 1, 3) := by decide +kernel
theorem d_M_clear_36 : decode c_M_clear 36 = .ok (.goto (-24), 3) := by decide +kernel
theorem d_M_clear_39 : decode c_M_clear 39 = .ok (.iconst 0, 1) := by decide +kernel
theorem d_M_clear_40 : decode c_M_clear 40 = .ok (.istore_n 3, 1) := by decide +kernel
theorem d_M_clear_41 : decode c_M_clear 41 = .ok (.iload_n 3, 1) := by decide +kernel
theorem d_M_clear_42 : decode c_M_clear 42 = .ok (.bipush 16, 2) := by decide +kernel
theorem d_M_clear_44 : decode c_M_clear 44 = .ok (.if_icmp .ge 32, 3) := by decide +kernel
theorem d_M_clear_47 : decode c_M_clear 47 = .ok (.aload_n 0, 1) := by decide +kernel
theorem d_M_clear_48 : decode c_M_clear 48 = .ok (.getfield 30, 3) := by decide +kernel
theorem d_M_clear_51 : decode c_M_clear 51 = .ok (.iload_n 3, 1) := by decide +kernel
theorem d_M_clear_52 : decode c_M_clear 52 = .ok (.iload_n 3, 1) := by decide +kernel
theorem d_M_clear_53 : decode c_M_clear 53 = .ok (.iload_n 2, 1) := by decide +kernel
theorem d_M_clear_54 : decode c_M_clear 54 = .ok (.if_icmp .ge 7, 3) := by decide +kernel
theorem d_M_clear_57 : decode c_M_clear 57 = .ok (.iconst 1, 1) := by decide +kernel
theorem d_M_clear_58 : decode c_M_clear 58 = .ok (.goto 4, 3) := by decide +kernel
theorem d_M_clear_61 : decode c_M_clear 61 = .ok (.iconst 0, 1) := by decide +kernel
theorem d_M_clear_62 : decode c_M_clear 62 = .ok (.iastore, 1) := by decide +kernel
theorem d_M_clear_63 : decode c_M_clear 63 = .ok (.aload_n 0, 1) := by decide +kernel
theorem d_M_clear_64 : decode c_M_clear 64 = .ok (.getfield 33, 3) := by decide +kernel
theorem d_M_clear_67 : decode c_M_clear 67 = .ok (.iload_n 3, 1) := by decide +kernel
theorem d_M_clear_68 : decode c_M_clear 68 = .ok (.iconst 0, 1) := by decide +kernel
theorem d_M_clear_69 : decode c_M_clear 69 = .ok (.bastore, 1) := by decide +kernel
theorem d_M_clear_70 : decode c_M_clear 70 = .ok (.iinc 3 1, 3) := by decide +kernel
theorem d_M_clear_73 : decode c_M_clear 73 = .ok (.goto (-32), 3) := by decide +kernel
theorem d_M_clear_76 : decode c_M_clear 76 = .ok (.return_, 1) := by decide +kernel
theorem d_M_join_0 : decode c_M_join 0 = .ok (.aload_n 0, 1) := by decide +kernel
theorem d_M_join_1 : decode c_M_join 1 = .ok (.getfield 23, 3) := by decide +kernel
theorem d_M_join_4 : decode c_M_join 4 = .ok (.bipush 16, 2) := by decide +kernel
theorem d_M_join_6 : decode c_M_join 6 = .ok (.iload_n 1, 1) := by decide +kernel
theorem d_M_join_7 : decode c_M_join 7 = .ok (.imul, 1) := by decide +kernel
theorem d_M_join_8 : decode c_M_join 8 = .ok (.iload_n 2, 1) := by decide +kernel
theorem d_M_join_9 : decode c_M_join 9 = .ok (.iadd, 1) := by decide +kernel
theorem d_M_join_10 : decode c_M_join 10 = .ok (.iload_n 3, 1) := by decide +kernel
theorem d_M_join_11 : decode c_M_join 11 = .ok (.iastore, 1) := by decide +kernel
theorem d_M_join_12 : decode c_M_join 12 = .ok (.aload_n 0, 1) := by decide +kernel
theorem d_M_join_13 : decode c_M_join 13 = .ok (.getfield 23, 3) := by decide +kernel
theorem d_M_join_16 : decode c_M_join 16 = .ok (.bipush 16, 2) := by decide +kernel
theorem d_M_join_18 : decode c_M_join 18 = .ok (.iload_n 2, 1) := by decide +kernel
theorem d_M_join_19 : decode c_M_join 19 = .ok (.imul, 1) := by decide +kernel
theorem d_M_join_20 : decode c_M_join 20 = .ok (.iload_n 1, 1) := by decide +kernel
theorem d_M_join_21 : decode c_M_join 21 = .ok (.iadd, 1) := by decide +kernel
theorem d_M_join_22 : decode c_M_join 22 = .ok (.iload_n 3, 1) := by decide +kernel
theorem d_M_join_23 : decode c_M_join 23 = .ok (.iastore, 1) := by decide +kernel
theorem d_M_join_24 : decode c_M_join 24 = .ok (.return_, 1) := by decide +kernel
theorem d_M_fence_0 : decode c_M_fence 0 = .ok (.iload_n 1, 1) := by decide +kernel
theorem d_M_fence_1 : decode c_M_fence 1 = .ok (.invokestatic 131, 3) := by decide +kernel
theorem d_M_fence_4 : decode c_M_fence 4 = .ok (.ifCond .ne 5, 3) := by decide +kernel
theorem d_M_fence_7 : decode c_M_fence 7 = .ok (.iconst (-1), 1) := by decide +kernel
theorem d_M_fence_8 : decode c_M_fence 8 = .ok (.ireturn, 1) := by decide +kernel
theorem d_M_fence_9 : decode c_M_fence 9 = .ok (.aload_n 0, 1) := by decide +kernel
theorem d_M_fence_10 : decode c_M_fence 10 = .ok (.getfield 13, 3) := by decide +kernel
theorem d_M_fence_13 : decode c_M_fence 13 = .ok (.iload_n 1, 1) := by decide +kernel
theorem d_M_fence_14 : decode c_M_fence 14 = .ok (.iaload, 1) := by decide +kernel
theorem d_M_fence_15 : decode c_M_fence 15 = .ok (.ifCond .ge 9, 3) := by decide +kernel
theorem d_M_fence_18 : decode c_M_fence 18 = .ok (.aload_n 0, 1) := by decide +kernel
theorem d_M_fence_19 : decode c_M_fence 19 = .ok (.iconst 1, 1) := by decide +kernel
theorem d_M_fence_20 : decode c_M_fence 20 = .ok (.invokevirtual 135, 3) := by decide +kernel
theorem d_M_fence_23 : decode c_M_fence 23 = .ok (.ireturn, 1) := by decide +kernel
theorem d_M_fence_24 : decode c_M_fence 24 = .ok (.aload_n 0, 1) := by decide +kernel
theorem d_M_fence_25 : decode c_M_fence 25 = .ok (.getfield 13, 3) := by decide +kernel
theorem d_M_fence_28 : decode c_M_fence 28 = .ok (.iload_n 1, 1) := by decide +kernel
theorem d_M_fence_29 : decode c_M_fence 29 = .ok (.iaload, 1) := by decide +kernel
theorem d_M_fence_30 : decode c_M_fence 30 = .ok (.istore_n 3, 1) := by decide +kernel
theorem d_M_fence_31 : decode c_M_fence 31 = .ok (.iload_n 2, 1) := by decide +kernel
theorem d_M_fence_32 : decode c_M_fence 32 = .ok (.ifCond .eq 13, 3) := by decide +kernel
theorem d_M_fence_35 : decode c_M_fence 35 = .ok (.iload_n 3, 1) := by decide +kernel
theorem d_M_fence_36 : decode c_M_fence 36 = .ok (.iconst 3, 1) := by decide +kernel
theorem d_M_fence_37 : decode c_M_fence 37 = .ok (.bipush 16, 2) := by decide +kernel
theorem d_M_fence_39 : decode c_M_fence 39 = .ok (.invokestatic 117, 3) := by decide +kernel
theorem d_M_fence_42 : decode c_M_fence 42 = .ok (.goto 10, 3) := by decide +kernel
theorem d_M_fence_45 : decode c_M_fence 45 = .ok (.iload_n 3, 1) := by decide +kernel
theorem d_M_fence_46 : decode c_M_fence 46 = .ok (.iconst 1, 1) := by decide +kernel
theorem d_M_fence_47 : decode c_M_fence 47 = .ok (.bipush 15, 2) := by decide +kernel
theorem d_M_fence_49 : decode c_M_fence 49 = .ok (.invokestatic 117, 3) := by decide +kernel
theorem d_M_fence_52 : decode c_M_fence 52 = .ok (.istore 4, 2) := by decide +kernel
theorem d_M_fence_54 : decode c_M_fence 54 = .ok (.iconst 0, 1) := by decide +kernel
theorem d_M_fence_55 : decode c_M_fence 55 = .ok (.istore 5, 2) := by decide +kernel
theorem d_M_fence_57 : decode c_M_fence 57 = .ok (.iload 5, 2) := by decide +kernel
theorem d_M_fence_59 : decode c_M_fence 59 = .ok (.iload_n 3, 1) := by decide +kernel
theorem d_M_fence_60 : decode c_M_fence 60 = .ok (.if_icmp .ge 37, 3) := by decide +kernel
theorem d_M_fence_63 : decode c_M_fence 63 = .ok (.iload 4, 2) := by decide +kernel
theorem d_M_fence_65 : decode c_M_fence 65 = .ok (.ifCond .eq 23, 3) := by decide +kernel
theorem d_M_fence_68 : decode c_M_fence 68 = .ok (.aload_n 0, 1) := by decide +kernel
theorem d_M_fence_69 : decode c_M_fence 69 = .ok (.iload_n 1, 1) := by decide +kernel
theorem d_M_fence_70 : decode c_M_fence 70 = .ok (.iload 5, 2) := by decide +kernel
theorem d_M_fence_72 : decode c_M_fence 72 = .ok (.invokevirtual 139, 3) := by decide +kernel
theorem d_M_fence_75 : decode c_M_fence 75 = .ok (.iconst 1, 1) := by decide +kernel
theorem d_M_fence_76 : decode c_M_fence 76 = .ok (.bipush 30, 2) := by decide +kernel
theorem d_M_fence_78 : decode c_M_fence 78 = .ok (.invokestatic 117, 3) := by decide +kernel
theorem d_M_fence_81 : decode c_M_fence 81 = .ok (.ifCond .eq 7, 3) := by decide +kernel
theorem d_M_fence_84 : decode c_M_fence 84 = .ok (.iconst 1, 1) := by decide +kernel
theorem d_M_fence_85 : decode c_M_fence 85 = .ok (.goto 4, 3) := by decide +kernel
theorem d_M_fence_88 : decode c_M_fence 88 = .ok (.iconst 0, 1) := by decide +kernel
theorem d_M_fence_89 : decode c_M_fence 89 = .ok (.istore 4, 2) := by decide +kernel
theorem d_M_fence_91 : decode c_M_fence 91 = .ok (.iinc 5 1, 3) := by decide +kernel
theorem d_M_fence_94 : decode c_M_fence 94 = .ok (.goto (-37), 3) := by decide +kernel
theorem d_M_fence_97 : decode c_M_fence 97 = .ok (.iload 4, 2) := by decide +kernel
theorem d_M_fence_99 : decode c_M_fence 99 = .ok (.ifCond .ne 9, 3) := by decide +kernel
theorem d_M_fence_102 : decode c_M_fence 102 = .ok (.aload_n 0, 1) := by decide +kernel
theorem d_M_fence_103 : decode c_M_fence 103 = .ok (.iconst 5, 1) := by decide +kernel
theorem d_M_fence_104 : decode c_M_fence 104 = .ok (.invokevirtual 135, 3) := by decide +kernel
theorem d_M_fence_107 : decode c_M_fence 107 = .ok (.ireturn, 1) := by decide +kernel
theorem d_M_fence_108 : decode c_M_fence 108 = .ok (.aload_n 0, 1) := by decide +kernel
theorem d_M_fence_109 : decode c_M_fence 109 = .ok (.iload_n 2, 1) := by decide +kernel
theorem d_M_fence_110 : decode c_M_fence 110 = .ok (.ifCond .eq 7, 3) := by decide +kernel
theorem d_M_fence_113 : decode c_M_fence 113 = .ok (.iconst 1, 1) := by decide +kernel
theorem d_M_fence_114 : decode c_M_fence 114 = .ok (.goto 4, 3) := by decide +kernel
theorem d_M_fence_117 : decode c_M_fence 117 = .ok (.iconst 0, 1) := by decide +kernel
theorem d_M_fence_118 : decode c_M_fence 118 = .ok (.iload_n 2, 1) := by decide +kernel
theorem d_M_fence_119 : decode c_M_fence 119 = .ok (.ifCond .eq 7, 3) := by decide +kernel
theorem d_M_fence_122 : decode c_M_fence 122 = .ok (.iload_n 3, 1) := by decide +kernel
theorem d_M_fence_123 : decode c_M_fence 123 = .ok (.goto 6, 3) := by decide +kernel
theorem d_M_fence_126 : decode c_M_fence 126 = .ok (.iload_n 3, 1) := by decide +kernel
theorem d_M_fence_127 : decode c_M_fence 127 = .ok (.iconst 1, 1) := by decide +kernel
theorem d_M_fence_128 : decode c_M_fence 128 = .ok (.iadd, 1) := by decide +kernel
theorem d_M_fence_129 : decode c_M_fence 129 = .ok (.invokevirtual 143, 3) := by decide +kernel
theorem d_M_fence_132 : decode c_M_fence 132 = .ok (.iconst 0, 1) := by decide +kernel
theorem d_M_fence_133 : decode c_M_fence 133 = .ok (.istore 5, 2) := by decide +kernel
theorem d_M_fence_135 : decode c_M_fence 135 = .ok (.iload 5, 2) := by decide +kernel
theorem d_M_fence_137 : decode c_M_fence 137 = .ok (.iload_n 3, 1) := by decide +kernel
theorem d_M_fence_138 : decode c_M_fence 138 = .ok (.if_icmp .ge 31, 3) := by decide +kernel
theorem d_M_fence_141 : decode c_M_fence 141 = .ok (.aload_n 0, 1) := by decide +kernel
theorem d_M_fence_142 : decode c_M_fence 142 = .ok (.iload 5, 2) := by decide +kernel
theorem d_M_fence_144 : decode c_M_fence 144 = .ok (.iload 5, 2) := by decide +kernel
theorem d_M_fence_146 : decode c_M_fence 146 = .ok (.iconst 1, 1) := by decide +kernel
theorem d_M_fence_147 : decode c_M_fence 147 = .ok (.iadd, 1) := by decide +kernel
theorem d_M_fence_148 : decode c_M_fence 148 = .ok (.aload_n 0, 1) := by decide +kernel
theorem d_M_fence_149 : decode c_M_fence 149 = .ok (.getfield 111, 3) := by decide +kernel
theorem d_M_fence_152 : decode c_M_fence 152 = .ok (.irem, 1) := by decide +kernel
theorem d_M_fence_153 : decode c_M_fence 153 = .ok (.aload_n 0, 1) := by decide +kernel
theorem d_M_fence_154 : decode c_M_fence 154 = .ok (.iload_n 1, 1) := by decide +kernel
theorem d_M_fence_155 : decode c_M_fence 155 = .ok (.iload 5, 2) := by decide +kernel
theorem d_M_fence_157 : decode c_M_fence 157 = .ok (.invokevirtual 139, 3) := by decide +kernel
theorem d_M_fence_160 : decode c_M_fence 160 = .ok (.invokevirtual 147, 3) := by decide +kernel
theorem d_M_fence_163 : decode c_M_fence 163 = .ok (.iinc 5 1, 3) := by decide +kernel
theorem d_M_fence_166 : decode c_M_fence 166 = .ok (.goto (-31), 3) := by decide +kernel
theorem d_M_fence_169 : decode c_M_fence 169 = .ok (.aload_n 0, 1) := by decide +kernel
theorem d_M_fence_170 : decode c_M_fence 170 = .ok (.getfield 111, 3) := by decide +kernel
theorem d_M_fence_173 : decode c_M_fence 173 = .ok (.ireturn, 1) := by decide +kernel
theorem d_M_net_0 : decode c_M_net 0 = .ok (.iload_n 1, 1) := by decide +kernel
theorem d_M_net_1 : decode c_M_net 1 = .ok (.iconst 1, 1) := by decide +kernel
theorem d_M_net_2 : decode c_M_net 2 = .ok (.bipush 16, 2) := by decide +kernel
theorem d_M_net_4 : decode c_M_net 4 = .ok (.invokestatic 117, 3) := by decide +kernel
theorem d_M_net_7 : decode c_M_net 7 = .ok (.ifCond .ne 5, 3) := by decide +kernel
theorem d_M_net_10 : decode c_M_net 10 = .ok (.iconst (-1), 1) := by decide +kernel
theorem d_M_net_11 : decode c_M_net 11 = .ok (.ireturn, 1) := by decide +kernel
theorem d_M_net_12 : decode c_M_net 12 = .ok (.aload_n 0, 1) := by decide +kernel
theorem d_M_net_13 : decode c_M_net 13 = .ok (.iconst 2, 1) := by decide +kernel
theorem d_M_net_14 : decode c_M_net 14 = .ok (.iload_n 1, 1) := by decide +kernel
theorem d_M_net_15 : decode c_M_net 15 = .ok (.invokevirtual 143, 3) := by decide +kernel
theorem d_M_net_18 : decode c_M_net 18 = .ok (.iload_n 1, 1) := by decide +kernel
theorem d_M_net_19 : decode c_M_net 19 = .ok (.ireturn, 1) := by decide +kernel
theorem d_M_isPost_0 : decode c_M_isPost 0 = .ok (.iload_n 1, 1) := by decide +kernel
theorem d_M_isPost_1 : decode c_M_isPost 1 = .ok (.iconst 0, 1) := by decide +kernel
theorem d_M_isPost_2 : decode c_M_isPost 2 = .ok (.aload_n 0, 1) := by decide +kernel
theorem d_M_isPost_3 : decode c_M_isPost 3 = .ok (.getfield 111, 3) := by decide +kernel
theorem d_M_isPost_6 : decode c_M_isPost 6 = .ok (.iconst 1, 1) := by decide +kernel
theorem d_M_isPost_7 : decode c_M_isPost 7 = .ok (.isub, 1) := by decide +kernel
theorem d_M_isPost_8 : decode c_M_isPost 8 = .ok (.invokestatic 117, 3) := by decide +kernel
theorem d_M_isPost_11 : decode c_M_isPost 11 = .ok (.ireturn, 1) := by decide +kernel
theorem d_M_walls_0 : decode c_M_walls 0 = .ok (.iconst 0, 1) := by decide +kernel
theorem d_M_walls_1 : decode c_M_walls 1 = .ok (.istore_n 2, 1) := by decide +kernel
theorem d_M_walls_2 : decode c_M_walls 2 = .ok (.iconst 0, 1) := by decide +kernel
theorem d_M_walls_3 : decode c_M_walls 3 = .ok (.istore_n 3, 1) := by decide +kernel
theorem d_M_walls_4 : decode c_M_walls 4 = .ok (.iload_n 3, 1) := by decide +kernel
theorem d_M_walls_5 : decode c_M_walls 5 = .ok (.aload_n 0, 1) := by decide +kernel
theorem d_M_walls_6 : decode c_M_walls 6 = .ok (.getfield 111, 3) := by decide +kernel
theorem d_M_walls_9 : decode c_M_walls 9 = .ok (.if_icmp .ge 71, 3) := by decide +kernel
theorem d_M_walls_12 : decode c_M_walls 12 = .ok (.iload_n 3, 1) := by decide +kernel
theorem d_M_walls_13 : decode c_M_walls 13 = .ok (.iconst 1, 1) := by decide +kernel
theorem d_M_walls_14 : decode c_M_walls 14 = .ok (.iadd, 1) := by decide +kernel
theorem d_M_walls_15 : decode c_M_walls 15 = .ok (.istore 4, 2) := by decide +kernel
theorem d_M_walls_17 : decode c_M_walls 17 = .ok (.iload 4, 2) := by decide +kernel
theorem d_M_walls_19 : decode c_M_walls 19 = .ok (.aload_n 0, 1) := by decide +kernel
theorem d_M_walls_20 : decode c_M_walls 20 = .ok (.getfield 111, 3) := by decide +kernel
theorem d_M_walls_23 : decode c_M_walls 23 = .ok (.if_icmp .ge 51, 3) := by decide +kernel
theorem d_M_walls_26 : decode c_M_walls 26 = .ok (.iload_n 2, 1) := by decide +kernel
theorem d_M_walls_27 : decode c_M_walls 27 = .ok (.aload_n 0, 1) := by decide +kernel
theorem d_M_walls_28 : decode c_M_walls 28 = .ok (.getfield 23, 3) := by decide +kernel
theorem d_M_walls_31 : decode c_M_walls 31 = .ok (.bipush 16, 2) := by decide +kernel
theorem d_M_walls_33 : decode c_M_walls 33 = .ok (.iload_n 3, 1) := by decide +kernel
theorem d_M_walls_34 : decode c_M_walls 34 = .ok (.imul, 1) := by decide +kernel
theorem d_M_walls_35 : decode c_M_walls 35 = .ok (.iload 4, 2) := by decide +kernel
theorem d_M_walls_37 : decode c_M_walls 37 = .ok (.iadd, 1) := by decide +kernel
theorem d_M_walls_38 : decode c_M_walls 38 = .ok (.iaload, 1) := by decide +kernel
theorem d_M_walls_39 : decode c_M_walls 39 = .ok (.ifCond .le 26, 3) := by decide +kernel
theorem d_M_walls_42 : decode c_M_walls 42 = .ok (.iload_n 1, 1) := by decide +kernel
theorem d_M_walls_43 : decode c_M_walls 43 = .ok (.ifCond .eq 18, 3) := by decide +kernel
theorem d_M_walls_46 : decode c_M_walls 46 = .ok (.aload_n 0, 1) := by decide +kernel
theorem d_M_walls_47 : decode c_M_walls 47 = .ok (.getfield 26, 3) := by decide +kernel
theorem d_M_walls_50 : decode c_M_walls 50 = .ok (.bipush 16, 2) := by decide +kernel
theorem d_M_walls_52 : decode c_M_walls 52 = .ok (.iload_n 3, 1) := by decide +kernel
theorem d_M_walls_53 : decode c_M_walls 53 = .ok (.imul, 1) := by decide +kernel
theorem d_M_walls_54 : decode c_M_walls 54 = .ok (.iload 4, 2) := by decide +kernel
theorem d_M_walls_56 : decode c_M_walls 56 = .ok (.iadd, 1) := by decide +kernel
theorem d_M_walls_57 : decode c_M_walls 57 = .ok (.baload, 1) := by decide +kernel
theorem d_M_walls_58 : decode c_M_walls 58 = .ok (.ifCond .eq 7, 3) := by decide +kernel
theorem d_M_walls_61 : decode c_M_walls 61 = .ok (.iconst 1, 1) := by decide +kernel
theorem d_M_walls_62 : decode c_M_walls 62 = .ok (.goto 4, 3) := by decide +kernel
theorem d_M_walls_65 : decode c_M_walls 65 = .ok (.iconst 0, 1) := by decide +kernel
theorem d_M_walls_66 : decode c_M_walls 66 = .ok (.iadd, 1) := by decide +kernel
theorem d_M_walls_67 : decode c_M_walls 67 = .ok (.istore_n 2, 1) := by decide +kernel
theorem d_M_walls_68 : decode c_M_walls 68 = .ok (.iinc 4 1, 3) := by decide +kernel
theorem d_M_walls_71 : decode c_M_walls 71 = .ok (.goto (-54), 3) := by decide +kernel
theorem d_M_walls_74 : decode c_M_walls 74 = .ok (.iinc 3 1, 3) := by decide +kernel
theorem d_M_walls_77 : decode c_M_walls 77 = .ok (.goto (-73), 3) := by decide +kernel
theorem d_M_walls_80 : decode c_M_walls 80 = .ok (.iload_n 2, 1) := by decide +kernel
theorem d_M_walls_81 : decode c_M_walls 81 = .ok (.ireturn, 1) := by decide +kernel
theorem d_M_wall_0 : decode c_M_wall 0 = .ok (.aload_n 0, 1) := by decide +kernel
theorem d_M_wall_1 : decode c_M_wall 1 = .ok (.iload_n 1, 1) := by decide +kernel
theorem d_M_wall_2 : decode c_M_wall 2 = .ok (.invokevirtual 151, 3) := by decide +kernel
theorem d_M_wall_5 : decode c_M_wall 5 = .ok (.ifCond .eq 40, 3) := by decide +kernel
theorem d_M_wall_8 : decode c_M_wall 8 = .ok (.aload_n 0, 1) := by decide +kernel
theorem d_M_wall_9 : decode c_M_wall 9 = .ok (.iload_n 2, 1) := by decide +kernel
theorem d_M_wall_10 : decode c_M_wall 10 = .ok (.invokevirtual 151, 3) := by decide +kernel
theorem d_M_wall_13 : decode c_M_wall 13 = .ok (.ifCond .eq 32, 3) := by decide +kernel
theorem d_M_wall_16 : decode c_M_wall 16 = .ok (.iload_n 1, 1) := by decide +kernel
theorem d_M_wall_17 : decode c_M_wall 17 = .ok (.iload_n 2, 1) := by decide +kernel
theorem d_M_wall_18 : decode c_M_wall 18 = .ok (.if_icmp .eq 27, 3) := by decide +kernel
theorem d_M_wall_21 : decode c_M_wall 21 = .ok (.iload_n 3, 1) := by decide +kernel
theorem d_M_wall_22 : decode c_M_wall 22 = .ok (.iconst 1, 1) := by decide +kernel
theorem d_M_wall_23 : decode c_M_wall 23 = .ok (.bipush 30, 2) := by decide +kernel
theorem d_M_wall_25 : decode c_M_wall 25 = .ok (.invokestatic 117, 3) := by decide +kernel
theorem d_M_wall_28 : decode c_M_wall 28 = .ok (.ifCond .eq 17, 3) := by decide +kernel
theorem d_M_wall_31 : decode c_M_wall 31 = .ok (.aload_n 0, 1) := by decide +kernel
theorem d_M_wall_32 : decode c_M_wall 32 = .ok (.getfield 23, 3) := by decide +kernel
theorem d_M_wall_35 : decode c_M_wall 35 = .ok (.bipush 16, 2) := by decide +kernel
theorem d_M_wall_37 : decode c_M_wall 37 = .ok (.iload_n 1, 1) := by decide +kernel
theorem d_M_wall_38 : decode c_M_wall 38 = .ok (.imul, 1) := by decide +kernel
theorem d_M_wall_39 : decode c_M_wall 39 = .ok (.iload_n 2, 1) := by decide +kernel
theorem d_M_wall_40 : decode c_M_wall 40 = .ok (.iadd, 1) := by decide +kernel
theorem d_M_wall_41 : decode c_M_wall 41 = .ok (.iaload, 1) := by decide +kernel
theorem d_M_wall_42 : decode c_M_wall 42 = .ok (.ifCond .le 5, 3) := by decide +kernel
theorem d_M_wall_45 : decode c_M_wall 45 = .ok (.iconst (-1), 1) := by decide +kernel
theorem d_M_wall_46 : decode c_M_wall 46 = .ok (.ireturn, 1) := by decide +kernel
theorem d_M_wall_47 : decode c_M_wall 47 = .ok (.aload_n 0, 1) := by decide +kernel
theorem d_M_wall_48 : decode c_M_wall 48 = .ok (.iconst 0, 1) := by decide +kernel
theorem d_M_wall_49 : decode c_M_wall 49 = .ok (.invokevirtual 154, 3) := by decide +kernel
theorem d_M_wall_52 : decode c_M_wall 52 = .ok (.bipush 40, 2) := by decide +kernel
theorem d_M_wall_54 : decode c_M_wall 54 = .ok (.if_icmp .ne 6, 3) := by decide +kernel
theorem d_M_wall_57 : decode c_M_wall 57 = .ok (.bipush (-2), 2) := by decide +kernel
theorem d_M_wall_59 : decode c_M_wall 59 = .ok (.ireturn, 1) := by decide +kernel
theorem d_M_wall_60 : decode c_M_wall 60 = .ok (.aload_n 0, 1) := by decide +kernel
theorem d_M_wall_61 : decode c_M_wall 61 = .ok (.getfield 107, 3) := by decide +kernel
theorem d_M_wall_64 : decode c_M_wall 64 = .ok (.iconst 2, 1) := by decide +kernel
theorem d_M_wall_65 : decode c_M_wall 65 = .ok (.if_icmp .eq 9, 3) := by decide +kernel
theorem d_M_wall_68 : decode c_M_wall 68 = .ok (.aload_n 0, 1) := by decide +kernel
theorem d_M_wall_69 : decode c_M_wall 69 = .ok (.iconst 3, 1) := by decide +kernel
theorem d_M_wall_70 : decode c_M_wall 70 = .ok (.invokevirtual 135, 3) := by decide +kernel
theorem d_M_wall_73 : decode c_M_wall 73 = .ok (.ireturn, 1) := by decide +kernel
theorem d_M_wall_74 : decode c_M_wall 74 = .ok (.aload_n 0, 1) := by decide +kernel
theorem d_M_wall_75 : decode c_M_wall 75 = .ok (.iload_n 1, 1) := by decide +kernel
theorem d_M_wall_76 : decode c_M_wall 76 = .ok (.iload_n 2, 1) := by decide +kernel
theorem d_M_wall_77 : decode c_M_wall 77 = .ok (.iload_n 3, 1) := by decide +kernel
theorem d_M_wall_78 : decode c_M_wall 78 = .ok (.invokevirtual 147, 3) := by decide +kernel
theorem d_M_wall_81 : decode c_M_wall 81 = .ok (.aload_n 0, 1) := by decide +kernel
theorem d_M_wall_82 : decode c_M_wall 82 = .ok (.iconst 0, 1) := by decide +kernel
theorem d_M_wall_83 : decode c_M_wall 83 = .ok (.invokevirtual 154, 3) := by decide +kernel
theorem d_M_wall_86 : decode c_M_wall 86 = .ok (.ireturn, 1) := by decide +kernel
theorem d_M_breaks_0 : decode c_M_breaks 0 = .ok (.aload_n 0, 1) := by decide +kernel
theorem d_M_breaks_1 : decode c_M_breaks 1 = .ok (.iload_n 1, 1) := by decide +kernel
theorem d_M_breaks_2 : decode c_M_breaks 2 = .ok (.invokevirtual 151, 3) := by decide +kernel
theorem d_M_breaks_5 : decode c_M_breaks 5 = .ok (.ifCond .eq 11, 3) := by decide +kernel
theorem d_M_breaks_8 : decode c_M_breaks 8 = .ok (.aload_n 0, 1) := by decide +kernel
theorem d_M_breaks_9 : decode c_M_breaks 9 = .ok (.iload_n 2, 1) := by decide +kernel
theorem d_M_breaks_10 : decode c_M_breaks 10 = .ok (.invokevirtual 151, 3) := by decide +kernel
theorem d_M_breaks_13 : decode c_M_breaks 13 = .ok (.ifCond .ne 5, 3) := by decide +kernel
theorem d_M_breaks_16 : decode c_M_breaks 16 = .ok (.iconst (-1), 1) := by decide +kernel
theorem d_M_breaks_17 : decode c_M_breaks 17 = .ok (.ireturn, 1) := by decide +kernel
theorem d_M_breaks_18 : decode c_M_breaks 18 = .ok (.aload_n 0, 1) := by decide +kernel
theorem d_M_breaks_19 : decode c_M_breaks 19 = .ok (.getfield 23, 3) := by decide +kernel
theorem d_M_breaks_22 : decode c_M_breaks 22 = .ok (.bipush 16, 2) := by decide +kernel
theorem d_M_breaks_24 : decode c_M_breaks 24 = .ok (.iload_n 1, 1) := by decide +kernel
theorem d_M_breaks_25 : decode c_M_breaks 25 = .ok (.imul, 1) := by decide +kernel
theorem d_M_breaks_26 : decode c_M_breaks 26 = .ok (.iload_n 2, 1) := by decide +kernel
theorem d_M_breaks_27 : decode c_M_breaks 27 = .ok (.iadd, 1) := by decide +kernel
theorem d_M_breaks_28 : decode c_M_breaks 28 = .ok (.iaload, 1) := by decide +kernel
theorem d_M_breaks_29 : decode c_M_breaks 29 = .ok (.ifCond .ne 9, 3) := by decide +kernel
theorem d_M_breaks_32 : decode c_M_breaks 32 = .ok (.aload_n 0, 1) := by decide +kernel
theorem d_M_breaks_33 : decode c_M_breaks 33 = .ok (.iconst 1, 1) := by decide +kernel
theorem d_M_breaks_34 : decode c_M_breaks 34 = .ok (.invokevirtual 135, 3) := by decide +kernel
theorem d_M_breaks_37 : decode c_M_breaks 37 = .ok (.ireturn, 1) := by decide +kernel
theorem d_M_breaks_38 : decode c_M_breaks 38 = .ok (.aload_n 0, 1) := by decide +kernel
theorem d_M_breaks_39 : decode c_M_breaks 39 = .ok (.getfield 26, 3) := by decide +kernel
theorem d_M_breaks_42 : decode c_M_breaks 42 = .ok (.bipush 16, 2) := by decide +kernel
theorem d_M_breaks_44 : decode c_M_breaks 44 = .ok (.iload_n 1, 1) := by decide +kernel
theorem d_M_breaks_45 : decode c_M_breaks 45 = .ok (.imul, 1) := by decide +kernel
theorem d_M_breaks_46 : decode c_M_breaks 46 = .ok (.iload_n 2, 1) := by decide +kernel
theorem d_M_breaks_47 : decode c_M_breaks 47 = .ok (.iadd, 1) := by decide +kernel
theorem d_M_breaks_48 : decode c_M_breaks 48 = .ok (.baload, 1) := by decide +kernel
theorem d_M_breaks_49 : decode c_M_breaks 49 = .ok (.ifCond .eq 7, 3) := by decide +kernel
theorem d_M_breaks_52 : decode c_M_breaks 52 = .ok (.iconst 1, 1) := by decide +kernel
theorem d_M_breaks_53 : decode c_M_breaks 53 = .ok (.goto 4, 3) := by decide +kernel
theorem d_M_breaks_56 : decode c_M_breaks 56 = .ok (.iconst 0, 1) := by decide +kernel
theorem d_M_breaks_57 : decode c_M_breaks 57 = .ok (.istore 4, 2) := by decide +kernel
theorem d_M_breaks_59 : decode c_M_breaks 59 = .ok (.aload_n 0, 1) := by decide +kernel
theorem d_M_breaks_60 : decode c_M_breaks 60 = .ok (.getfield 26, 3) := by decide +kernel
theorem d_M_breaks_63 : decode c_M_breaks 63 = .ok (.bipush 16, 2) := by decide +kernel
theorem d_M_breaks_65 : decode c_M_breaks 65 = .ok (.iload_n 1, 1) := by decide +kernel
theorem d_M_breaks_66 : decode c_M_breaks 66 = .ok (.imul, 1) := by decide +kernel
theorem d_M_breaks_67 : decode c_M_breaks 67 = .ok (.iload_n 2, 1) := by decide +kernel
theorem d_M_breaks_68 : decode c_M_breaks 68 = .ok (.iadd, 1) := by decide +kernel
theorem d_M_breaks_69 : decode c_M_breaks 69 = .ok (.iload_n 3, 1) := by decide +kernel
theorem d_M_breaks_70 : decode c_M_breaks 70 = .ok (.bastore, 1) := by decide +kernel
theorem d_M_breaks_71 : decode c_M_breaks 71 = .ok (.aload_n 0, 1) := by decide +kernel
theorem d_M_breaks_72 : decode c_M_breaks 72 = .ok (.getfield 26, 3) := by decide +kernel
theorem d_M_breaks_75 : decode c_M_breaks 75 = .ok (.bipush 16, 2) := by decide +kernel
theorem d_M_breaks_77 : decode c_M_breaks 77 = .ok (.iload_n 2, 1) := by decide +kernel
theorem d_M_breaks_78 : decode c_M_breaks 78 = .ok (.imul, 1) := by decide +kernel
theorem d_M_breaks_79 : decode c_M_breaks 79 = .ok (.iload_n 1, 1) := by decide +kernel
theorem d_M_breaks_80 : decode c_M_breaks 80 = .ok (.iadd, 1) := by decide +kernel
theorem d_M_breaks_81 : decode c_M_breaks 81 = .ok (.iload_n 3, 1) := by decide +kernel
theorem d_M_breaks_82 : decode c_M_breaks 82 = .ok (.bastore, 1) := by decide +kernel
theorem d_M_breaks_83 : decode c_M_breaks 83 = .ok (.iload 4, 2) := by decide +kernel
theorem d_M_breaks_85 : decode c_M_breaks 85 = .ok (.ireturn, 1) := by decide +kernel
theorem d_M_layFars_0 : decode c_M_layFars 0 = .ok (.iconst 0, 1) := by decide +kernel
theorem d_M_layFars_1 : decode c_M_layFars 1 = .ok (.istore_n 1, 1) := by decide +kernel
theorem d_M_layFars_2 : decode c_M_layFars 2 = .ok (.iload_n 1, 1) := by decide +kernel
theorem d_M_layFars_3 : decode c_M_layFars 3 = .ok (.aload_n 0, 1) := by decide +kernel
theorem d_M_layFars_4 : decode c_M_layFars 4 = .ok (.getfield 111, 3) := by decide +kernel
theorem d_M_layFars_7 : decode c_M_layFars 7 = .ok (.if_icmp .ge 76, 3) := by decide +kernel
theorem d_M_layFars_10 : decode c_M_layFars 10 = .ok (.iconst 0, 1) := by decide +kernel
theorem d_M_layFars_11 : decode c_M_layFars 11 = .ok (.istore_n 2, 1) := by decide +kernel
theorem d_M_layFars_12 : decode c_M_layFars 12 = .ok (.iload_n 2, 1) := by decide +kernel
theorem d_M_layFars_13 : decode c_M_layFars 13 = .ok (.aload_n 0, 1) := by decide +kernel
theorem d_M_layFars_14 : decode c_M_layFars 14 = .ok (.getfield 111, 3) := by decide +kernel
theorem d_M_layFars_17 : decode c_M_layFars 17 = .ok (.if_icmp .ge 60, 3) := by decide +kernel
theorem d_M_layFars_20 : decode c_M_layFars 20 = .ok (.bipush 16, 2) := by decide +kernel
theorem d_M_layFars_22 : decode c_M_layFars 22 = .ok (.iload_n 1, 1) := by decide +kernel
theorem d_M_layFars_23 : decode c_M_layFars 23 = .ok (.imul, 1) := by decide +kernel
theorem d_M_layFars_24 : decode c_M_layFars 24 = .ok (.iload_n 2, 1) := by decide +kernel
theorem d_M_layFars_25 : decode c_M_layFars 25 = .ok (.iadd, 1) := by decide +kernel
theorem d_M_layFars_26 : decode c_M_layFars 26 = .ok (.istore_n 3, 1) := by decide +kernel
theorem d_M_layFars_27 : decode c_M_layFars 27 = .ok (.aload_n 0, 1) := by decide +kernel
theorem d_M_layFars_28 : decode c_M_layFars 28 = .ok (.getfield 36, 3) := by decide +kernel
theorem d_M_layFars_31 : decode c_M_layFars 31 = .ok (.iload_n 3, 1) := by decide +kernel
theorem d_M_layFars_32 : decode c_M_layFars 32 = .ok (.iload_n 1, 1) := by decide +kernel
theorem d_M_layFars_33 : decode c_M_layFars 33 = .ok (.iload_n 2, 1) := by decide +kernel
theorem d_M_layFars_34 : decode c_M_layFars 34 = .ok (.if_icmp .ne 7, 3) := by decide +kernel
theorem d_M_layFars_37 : decode c_M_layFars 37 = .ok (.iconst 0, 1) := by decide +kernel
theorem d_M_layFars_38 : decode c_M_layFars 38 = .ok (.goto 32, 3) := by decide +kernel
theorem d_M_layFars_41 : decode c_M_layFars 41 = .ok (.aload_n 0, 1) := by decide +kernel
theorem d_M_layFars_42 : decode c_M_layFars 42 = .ok (.getfield 23, 3) := by decide +kernel
theorem d_M_layFars_45 : decode c_M_layFars 45 = .ok (.iload_n 3, 1) := by decide +kernel
theorem d_M_layFars_46 : decode c_M_layFars 46 = .ok (.iaload, 1) := by decide +kernel
theorem d_M_layFars_47 : decode c_M_layFars 47 = .ok (.ifCond .le 21, 3) := by decide +kernel
theorem d_M_layFars_50 : decode c_M_layFars 50 = .ok (.aload_n 0, 1) := by decide +kernel
theorem d_M_layFars_51 : decode c_M_layFars 51 = .ok (.getfield 26, 3) := by decide +kernel
theorem d_M_layFars_54 : decode c_M_layFars 54 = .ok (.iload_n 3, 1) := by decide +kernel
theorem d_M_layFars_55 : decode c_M_layFars 55 = .ok (.baload, 1) := by decide +kernel
theorem d_M_layFars_56 : decode c_M_layFars 56 = .ok (.ifCond .ne 12, 3) := by decide +kernel
theorem d_M_layFars_59 : decode c_M_layFars 59 = .ok (.aload_n 0, 1) := by decide +kernel
theorem d_M_layFars_60 : decode c_M_layFars 60 = .ok (.getfield 23, 3) := by decide +kernel
theorem d_M_layFars_63 : decode c_M_layFars 63 = .ok (.iload_n 3, 1) := by decide +kernel
theorem d_M_layFars_64 : decode c_M_layFars 64 = .ok (.iaload, 1) := by decide +kernel
theorem d_M_layFars_65 : decode c_M_layFars 65 = .ok (.goto 5, 3) := by decide +kernel
theorem d_M_layFars_68 : decode c_M_layFars 68 = .ok (.ldc 158, 2) := by decide +kernel
theorem d_M_layFars_70 : decode c_M_layFars 70 = .ok (.iastore, 1) := by decide +kernel
theorem d_M_layFars_71 : decode c_M_layFars 71 = .ok (.iinc 2 1, 3) := by decide +kernel
theorem d_M_layFars_74 : decode c_M_layFars 74 = .ok (.goto (-62), 3) := by decide +kernel
theorem d_M_layFars_77 : decode c_M_layFars 77 = .ok (.iinc 1 1, 3) := by decide +kernel
theorem d_M_layFars_80 : decode c_M_layFars 80 = .ok (.goto (-78), 3) := by decide +kernel
theorem d_M_layFars_83 : decode c_M_layFars 83 = .ok (.iconst 0, 1) := by decide +kernel
theorem d_M_layFars_84 : decode c_M_layFars 84 = .ok (.istore_n 1, 1) := by decide +kernel
theorem d_M_layFars_85 : decode c_M_layFars 85 = .ok (.iload_n 1, 1) := by decide +kernel
theorem d_M_layFars_86 : decode c_M_layFars 86 = .ok (.aload_n 0, 1) := by decide +kernel
theorem d_M_layFars_87 : decode c_M_layFars 87 = .ok (.getfield 111, 3) := by decide +kernel
theorem d_M_layFars_90 : decode c_M_layFars 90 = .ok (.if_icmp .ge 109, 3) := by decide +kernel
theorem d_M_layFars_93 : decode c_M_layFars 93 = .ok (.iconst 0, 1) := by decide +kernel
theorem d_M_layFars_94 : decode c_M_layFars 94 = .ok (.istore_n 2, 1) := by decide +kernel
theorem d_M_layFars_95 : decode c_M_layFars 95 = .ok (.iload_n 2, 1) := by decide +kernel
theorem d_M_layFars_96 : decode c_M_layFars 96 = .ok (.aload_n 0, 1) := by decide +kernel
theorem d_M_layFars_97 : decode c_M_layFars 97 = .ok (.getfield 111, 3) := by decide +kernel
theorem d_M_layFars_100 : decode c_M_layFars 100 = .ok (.if_icmp .ge 93, 3) := by decide +kernel
theorem d_M_layFars_103 : decode c_M_layFars 103 = .ok (.iconst 0, 1) := by decide +kernel
theorem d_M_layFars_104 : decode c_M_layFars 104 = .ok (.istore_n 3, 1) := by decide +kernel
theorem d_M_layFars_105 : decode c_M_layFars 105 = .ok (.iload_n 3, 1) := by decide +kernel
theorem d_M_layFars_106 : decode c_M_layFars 106 = .ok (.aload_n 0, 1) := by decide +kernel
theorem d_M_layFars_107 : decode c_M_layFars 107 = .ok (.getfield 111, 3) := by decide +kernel
theorem d_M_layFars_110 : decode c_M_layFars 110 = .ok (.if_icmp .ge 77, 3) := by decide +kernel
theorem d_M_layFars_113 : decode c_M_layFars 113 = .ok (.aload_n 0, 1) := by decide +kernel
theorem d_M_layFars_114 : decode c_M_layFars 114 = .ok (.getfield 36, 3) := by decide +kernel
theorem d_M_layFars_117 : decode c_M_layFars 117 = .ok (.bipush 16, 2) := by decide +kernel
theorem d_M_layFars_119 : decode c_M_layFars 119 = .ok (.iload_n 2, 1) := by decide +kernel
theorem d_M_layFars_120 : decode c_M_layFars 120 = .ok (.imul, 1) := by decide +kernel
theorem d_M_layFars_121 : decode c_M_layFars 121 = .ok (.iload_n 1, 1) := by decide +kernel
theorem d_M_layFars_122 : decode c_M_layFars 122 = .ok (.iadd, 1) := by decide +kernel
theorem d_M_layFars_123 : decode c_M_layFars 123 = .ok (.iaload, 1) := by decide +kernel
theorem d_M_layFars_124 : decode c_M_layFars 124 = .ok (.aload_n 0, 1) := by decide +kernel
theorem d_M_layFars_125 : decode c_M_layFars 125 = .ok (.getfield 36, 3) := by decide +kernel
theorem d_M_layFars_128 : decode c_M_layFars 128 = .ok (.bipush 16, 2) := by decide +kernel
theorem d_M_layFars_130 : decode c_M_layFars 130 = .ok (.iload_n 1, 1) := by decide +kernel
theorem d_M_layFars_131 : decode c_M_layFars 131 = .ok (.imul, 1) := by decide +kernel
theorem d_M_layFars_132 : decode c_M_layFars 132 = .ok (.iload_n 3, 1) := by decide +kernel
theorem d_M_layFars_133 : decode c_M_layFars 133 = .ok (.iadd, 1) := by decide +kernel
theorem d_M_layFars_134 : decode c_M_layFars 134 = .ok (.iaload, 1) := by decide +kernel
theorem d_M_layFars_135 : decode c_M_layFars 135 = .ok (.iadd, 1) := by decide +kernel
theorem d_M_layFars_136 : decode c_M_layFars 136 = .ok (.istore 4, 2) := by decide +kernel
theorem d_M_layFars_138 : decode c_M_layFars 138 = .ok (.aload_n 0, 1) := by decide +kernel
theorem d_M_layFars_139 : decode c_M_layFars 139 = .ok (.getfield 36, 3) := by decide +kernel
theorem d_M_layFars_142 : decode c_M_layFars 142 = .ok (.bipush 16, 2) := by decide +kernel
theorem d_M_layFars_144 : decode c_M_layFars 144 = .ok (.iload_n 2, 1) := by decide +kernel
theorem d_M_layFars_145 : decode c_M_layFars 145 = .ok (.imul, 1) := by decide +kernel
theorem d_M_layFars_146 : decode c_M_layFars 146 = .ok (.iload_n 3, 1) := by decide +kernel
theorem d_M_layFars_147 : decode c_M_layFars 147 = .ok (.iadd, 1) := by decide +kernel
theorem d_M_layFars_148 : decode c_M_layFars 148 = .ok (.iload 4, 2) := by decide +kernel
theorem d_M_layFars_150 : decode c_M_layFars 150 = .ok (.aload_n 0, 1) := by decide +kernel
theorem d_M_layFars_151 : decode c_M_layFars 151 = .ok (.getfield 36, 3) := by decide +kernel
theorem d_M_layFars_154 : decode c_M_layFars 154 = .ok (.bipush 16, 2) := by decide +kernel
theorem d_M_layFars_156 : decode c_M_layFars 156 = .ok (.iload_n 2, 1) := by decide +kernel
theorem d_M_layFars_157 : decode c_M_layFars 157 = .ok (.imul, 1) := by decide +kernel
theorem d_M_layFars_158 : decode c_M_layFars 158 = .ok (.iload_n 3, 1) := by decide +kernel
theorem d_M_layFars_159 : decode c_M_layFars 159 = .ok (.iadd, 1) := by decide +kernel
theorem d_M_layFars_160 : decode c_M_layFars 160 = .ok (.iaload, 1) := by decide +kernel
theorem d_M_layFars_161 : decode c_M_layFars 161 = .ok (.if_icmp .ge 8, 3) := by decide +kernel
theorem d_M_layFars_164 : decode c_M_layFars 164 = .ok (.iload 4, 2) := by decide +kernel
theorem d_M_layFars_166 : decode c_M_layFars 166 = .ok (.goto 14, 3) := by decide +kernel
theorem d_M_layFars_169 : decode c_M_layFars 169 = .ok (.aload_n 0, 1) := by decide +kernel
theorem d_M_layFars_170 : decode c_M_layFars 170 = .ok (.getfield 36, 3) := by decide +kernel
theorem d_M_layFars_173 : decode c_M_layFars 173 = .ok (.bipush 16, 2) := by decide +kernel
theorem d_M_layFars_175 : decode c_M_layFars 175 = .ok (.iload_n 2, 1) := by decide +kernel
theorem d_M_layFars_176 : decode c_M_layFars 176 = .ok (.imul, 1) := by decide +kernel
theorem d_M_layFars_177 : decode c_M_layFars 177 = .ok (.iload_n 3, 1) := by decide +kernel
theorem d_M_layFars_178 : decode c_M_layFars 178 = .ok (.iadd, 1) := by decide +kernel
theorem d_M_layFars_179 : decode c_M_layFars 179 = .ok (.iaload, 1) := by decide +kernel
theorem d_M_layFars_180 : decode c_M_layFars 180 = .ok (.iastore, 1) := by decide +kernel
theorem d_M_layFars_181 : decode c_M_layFars 181 = .ok (.iinc 3 1, 3) := by decide +kernel
theorem d_M_layFars_184 : decode c_M_layFars 184 = .ok (.goto (-79), 3) := by decide +kernel
theorem d_M_layFars_187 : decode c_M_layFars 187 = .ok (.iinc 2 1, 3) := by decide +kernel
theorem d_M_layFars_190 : decode c_M_layFars 190 = .ok (.goto (-95), 3) := by decide +kernel
theorem d_M_layFars_193 : decode c_M_layFars 193 = .ok (.iinc 1 1, 3) := by decide +kernel
theorem d_M_layFars_196 : decode c_M_layFars 196 = .ok (.goto (-111), 3) := by decide +kernel
theorem d_M_layFars_199 : decode c_M_layFars 199 = .ok (.return_, 1) := by decide +kernel
theorem d_M_far_0 : decode c_M_far 0 = .ok (.aload_n 0, 1) := by decide +kernel
theorem d_M_far_1 : decode c_M_far 1 = .ok (.iload_n 1, 1) := by decide +kernel
theorem d_M_far_2 : decode c_M_far 2 = .ok (.invokevirtual 151, 3) := by decide +kernel
theorem d_M_far_5 : decode c_M_far 5 = .ok (.ifCond .eq 11, 3) := by decide +kernel
theorem d_M_far_8 : decode c_M_far 8 = .ok (.aload_n 0, 1) := by decide +kernel
theorem d_M_far_9 : decode c_M_far 9 = .ok (.iload_n 2, 1) := by decide +kernel
theorem d_M_far_10 : decode c_M_far 10 = .ok (.invokevirtual 151, 3) := by decide +kernel
theorem d_M_far_13 : decode c_M_far 13 = .ok (.ifCond .ne 5, 3) := by decide +kernel
theorem d_M_far_16 : decode c_M_far 16 = .ok (.iconst (-1), 1) := by decide +kernel
theorem d_M_far_17 : decode c_M_far 17 = .ok (.ireturn, 1) := by decide +kernel
theorem d_M_far_18 : decode c_M_far 18 = .ok (.aload_n 0, 1) := by decide +kernel
theorem d_M_far_19 : decode c_M_far 19 = .ok (.invokevirtual 159, 3) := by decide +kernel
theorem d_M_far_22 : decode c_M_far 22 = .ok (.aload_n 0, 1) := by decide +kernel
theorem d_M_far_23 : decode c_M_far 23 = .ok (.getfield 36, 3) := by decide +kernel
theorem d_M_far_26 : decode c_M_far 26 = .ok (.bipush 16, 2) := by decide +kernel
theorem d_M_far_28 : decode c_M_far 28 = .ok (.iload_n 1, 1) := by decide +kernel
theorem d_M_far_29 : decode c_M_far 29 = .ok (.imul, 1) := by decide +kernel
theorem d_M_far_30 : decode c_M_far 30 = .ok (.iload_n 2, 1) := by decide +kernel
theorem d_M_far_31 : decode c_M_far 31 = .ok (.iadd, 1) := by decide +kernel
theorem d_M_far_32 : decode c_M_far 32 = .ok (.iaload, 1) := by decide +kernel
theorem d_M_far_33 : decode c_M_far 33 = .ok (.istore_n 3, 1) := by decide +kernel
theorem d_M_far_34 : decode c_M_far 34 = .ok (.iload_n 3, 1) := by decide +kernel
theorem d_M_far_35 : decode c_M_far 35 = .ok (.ldc 158, 2) := by decide +kernel
theorem d_M_far_37 : decode c_M_far 37 = .ok (.if_icmp .lt 8, 3) := by decide +kernel
theorem d_M_far_40 : decode c_M_far 40 = .ok (.bipush (-9), 2) := by decide +kernel
theorem d_M_far_42 : decode c_M_far 42 = .ok (.goto 4, 3) := by decide +kernel
theorem d_M_far_45 : decode c_M_far 45 = .ok (.iload_n 3, 1) := by decide +kernel
theorem d_M_far_46 : decode c_M_far 46 = .ok (.ireturn, 1) := by decide +kernel
theorem d_M_worth_0 : decode c_M_worth 0 = .ok (.aload_n 0, 1) := by decide +kernel
theorem d_M_worth_1 : decode c_M_worth 1 = .ok (.iload_n 1, 1) := by decide +kernel
theorem d_M_worth_2 : decode c_M_worth 2 = .ok (.invokevirtual 151, 3) := by decide +kernel
theorem d_M_worth_5 : decode c_M_worth 5 = .ok (.ifCond .eq 13, 3) := by decide +kernel
theorem d_M_worth_8 : decode c_M_worth 8 = .ok (.iload_n 2, 1) := by decide +kernel
theorem d_M_worth_9 : decode c_M_worth 9 = .ok (.iconst 0, 1) := by decide +kernel
theorem d_M_worth_10 : decode c_M_worth 10 = .ok (.bipush 9, 2) := by decide +kernel
theorem d_M_worth_12 : decode c_M_worth 12 = .ok (.invokestatic 117, 3) := by decide +kernel
theorem d_M_worth_15 : decode c_M_worth 15 = .ok (.ifCond .ne 5, 3) := by decide +kernel
theorem d_M_worth_18 : decode c_M_worth 18 = .ok (.iconst (-1), 1) := by decide +kernel
theorem d_M_worth_19 : decode c_M_worth 19 = .ok (.ireturn, 1) := by decide +kernel
theorem d_M_worth_20 : decode c_M_worth 20 = .ok (.aload_n 0, 1) := by decide +kernel
theorem d_M_worth_21 : decode c_M_worth 21 = .ok (.getfield 30, 3) := by decide +kernel
theorem d_M_worth_24 : decode c_M_worth 24 = .ok (.iload_n 1, 1) := by decide +kernel
theorem d_M_worth_25 : decode c_M_worth 25 = .ok (.iaload, 1) := by decide +kernel
theorem d_M_worth_26 : decode c_M_worth 26 = .ok (.istore_n 3, 1) := by decide +kernel
theorem d_M_worth_27 : decode c_M_worth 27 = .ok (.aload_n 0, 1) := by decide +kernel
theorem d_M_worth_28 : decode c_M_worth 28 = .ok (.getfield 30, 3) := by decide +kernel
theorem d_M_worth_31 : decode c_M_worth 31 = .ok (.iload_n 1, 1) := by decide +kernel
theorem d_M_worth_32 : decode c_M_worth 32 = .ok (.iload_n 2, 1) := by decide +kernel
theorem d_M_worth_33 : decode c_M_worth 33 = .ok (.iastore, 1) := by decide +kernel
theorem d_M_worth_34 : decode c_M_worth 34 = .ok (.iload_n 3, 1) := by decide +kernel
theorem d_M_worth_35 : decode c_M_worth 35 = .ok (.ireturn, 1) := by decide +kernel
theorem d_M_base_0 : decode c_M_base 0 = .ok (.aload_n 0, 1) := by decide +kernel
theorem d_M_base_1 : decode c_M_base 1 = .ok (.iload_n 1, 1) := by decide +kernel
theorem d_M_base_2 : decode c_M_base 2 = .ok (.invokevirtual 151, 3) := by decide +kernel
theorem d_M_base_5 : decode c_M_base 5 = .ok (.ifCond .ne 5, 3) := by decide +kernel
theorem d_M_base_8 : decode c_M_base 8 = .ok (.iconst (-1), 1) := by decide +kernel
theorem d_M_base_9 : decode c_M_base 9 = .ok (.ireturn, 1) := by decide +kernel
theorem d_M_base_10 : decode c_M_base 10 = .ok (.aload_n 0, 1) := by decide +kernel
theorem d_M_base_11 : decode c_M_base 11 = .ok (.getfield 33, 3) := by decide +kernel
theorem d_M_base_14 : decode c_M_base 14 = .ok (.iload_n 1, 1) := by decide +kernel
theorem d_M_base_15 : decode c_M_base 15 = .ok (.baload, 1) := by decide +kernel
theorem d_M_base_16 : decode c_M_base 16 = .ok (.ifCond .eq 7, 3) := by decide +kernel
theorem d_M_base_19 : decode c_M_base 19 = .ok (.iconst 1, 1) := by decide +kernel
theorem d_M_base_20 : decode c_M_base 20 = .ok (.goto 4, 3) := by decide +kernel
theorem d_M_base_23 : decode c_M_base 23 = .ok (.iconst 0, 1) := by decide +kernel
theorem d_M_base_24 : decode c_M_base 24 = .ok (.istore_n 3, 1) := by decide +kernel
theorem d_M_base_25 : decode c_M_base 25 = .ok (.aload_n 0, 1) := by decide +kernel
theorem d_M_base_26 : decode c_M_base 26 = .ok (.getfield 33, 3) := by decide +kernel
theorem d_M_base_29 : decode c_M_base 29 = .ok (.iload_n 1, 1) := by decide +kernel
theorem d_M_base_30 : decode c_M_base 30 = .ok (.iload_n 2, 1) := by decide +kernel
theorem d_M_base_31 : decode c_M_base 31 = .ok (.bastore, 1) := by decide +kernel
theorem d_M_base_32 : decode c_M_base 32 = .ok (.iload_n 3, 1) := by decide +kernel
theorem d_M_base_33 : decode c_M_base 33 = .ok (.ireturn, 1) := by decide +kernel
theorem d_M_walker_0 : decode c_M_walker 0 = .ok (.iload_n 1, 1) := by decide +kernel
theorem d_M_walker_1 : decode c_M_walker 1 = .ok (.ifCond .eq 57, 3) := by decide +kernel
theorem d_M_walker_4 : decode c_M_walker 4 = .ok (.iload_n 1, 1) := by decide +kernel
theorem d_M_walker_5 : decode c_M_walker 5 = .ok (.iconst 1, 1) := by decide +kernel
theorem d_M_walker_6 : decode c_M_walker 6 = .ok (.if_icmp .ne 13, 3) := by decide +kernel
theorem d_M_walker_9 : decode c_M_walker 9 = .ok (.iload_n 2, 1) := by decide +kernel
theorem d_M_walker_10 : decode c_M_walker 10 = .ok (.iconst 1, 1) := by decide +kernel
theorem d_M_walker_11 : decode c_M_walker 11 = .ok (.bipush 6, 2) := by decide +kernel
theorem d_M_walker_13 : decode c_M_walker 13 = .ok (.invokestatic 117, 3) := by decide +kernel
theorem d_M_walker_16 : decode c_M_walker 16 = .ok (.ifCond .ne 42, 3) := by decide +kernel
theorem d_M_walker_19 : decode c_M_walker 19 = .ok (.iload_n 1, 1) := by decide +kernel
theorem d_M_walker_20 : decode c_M_walker 20 = .ok (.iconst 2, 1) := by decide +kernel
theorem d_M_walker_21 : decode c_M_walker 21 = .ok (.if_icmp .ne 24, 3) := by decide +kernel
theorem d_M_walker_24 : decode c_M_walker 24 = .ok (.iload_n 2, 1) := by decide +kernel
theorem d_M_walker_25 : decode c_M_walker 25 = .ok (.iconst 1, 1) := by decide +kernel
theorem d_M_walker_26 : decode c_M_walker 26 = .ok (.bipush 6, 2) := by decide +kernel
theorem d_M_walker_28 : decode c_M_walker 28 = .ok (.invokestatic 117, 3) := by decide +kernel
theorem d_M_walker_31 : decode c_M_walker 31 = .ok (.ifCond .eq 14, 3) := by decide +kernel
theorem d_M_walker_34 : decode c_M_walker 34 = .ok (.iload_n 3, 1) := by decide +kernel
theorem d_M_walker_35 : decode c_M_walker 35 = .ok (.iconst 1, 1) := by decide +kernel
theorem d_M_walker_36 : decode c_M_walker 36 = .ok (.sipush 500, 3) := by decide +kernel
theorem d_M_walker_39 : decode c_M_walker 39 = .ok (.invokestatic 117, 3) := by decide +kernel
theorem d_M_walker_42 : decode c_M_walker 42 = .ok (.ifCond .ne 16, 3) := by decide +kernel
theorem d_M_walker_45 : decode c_M_walker 45 = .ok (.iload_n 1, 1) := by decide +kernel
theorem d_M_walker_46 : decode c_M_walker 46 = .ok (.iconst 3, 1) := by decide +kernel
theorem d_M_walker_47 : decode c_M_walker 47 = .ok (.if_icmp .ne 15, 3) := by decide +kernel
theorem d_M_walker_50 : decode c_M_walker 50 = .ok (.aload_n 0, 1) := by decide +kernel
theorem d_M_walker_51 : decode c_M_walker 51 = .ok (.iload_n 2, 1) := by decide +kernel
theorem d_M_walker_52 : decode c_M_walker 52 = .ok (.invokevirtual 151, 3) := by decide +kernel
theorem d_M_walker_55 : decode c_M_walker 55 = .ok (.ifCond .eq 7, 3) := by decide +kernel
theorem d_M_walker_58 : decode c_M_walker 58 = .ok (.iconst 1, 1) := by decide +kernel
theorem d_M_walker_59 : decode c_M_walker 59 = .ok (.goto 4, 3) := by decide +kernel
theorem d_M_walker_62 : decode c_M_walker 62 = .ok (.iconst 0, 1) := by decide +kernel
theorem d_M_walker_63 : decode c_M_walker 63 = .ok (.istore 4, 2) := by decide +kernel
theorem d_M_walker_65 : decode c_M_walker 65 = .ok (.iload 4, 2) := by decide +kernel
theorem d_M_walker_67 : decode c_M_walker 67 = .ok (.ifCond .ne 5, 3) := by decide +kernel
theorem d_M_walker_70 : decode c_M_walker 70 = .ok (.iconst (-1), 1) := by decide +kernel
theorem d_M_walker_71 : decode c_M_walker 71 = .ok (.ireturn, 1) := by decide +kernel
theorem d_M_walker_72 : decode c_M_walker 72 = .ok (.aload_n 0, 1) := by decide +kernel
theorem d_M_walker_73 : decode c_M_walker 73 = .ok (.getfield 162, 3) := by decide +kernel
theorem d_M_walker_76 : decode c_M_walker 76 = .ok (.bipush 8, 2) := by decide +kernel
theorem d_M_walker_78 : decode c_M_walker 78 = .ok (.if_icmp .ne 6, 3) := by decide +kernel
theorem d_M_walker_81 : decode c_M_walker 81 = .ok (.bipush (-2), 2) := by decide +kernel
theorem d_M_walker_83 : decode c_M_walker 83 = .ok (.ireturn, 1) := by decide +kernel
theorem d_M_walker_84 : decode c_M_walker 84 = .ok (.aload_n 0, 1) := by decide +kernel
theorem d_M_walker_85 : decode c_M_walker 85 = .ok (.getfield 162, 3) := by decide +kernel
theorem d_M_walker_88 : decode c_M_walker 88 = .ok (.istore 5, 2) := by decide +kernel
theorem d_M_walker_90 : decode c_M_walker 90 = .ok (.aload_n 0, 1) := by decide +kernel
theorem d_M_walker_91 : decode c_M_walker 91 = .ok (.getfield 39, 3) := by decide +kernel
theorem d_M_walker_94 : decode c_M_walker 94 = .ok (.iload 5, 2) := by decide +kernel
theorem d_M_walker_96 : decode c_M_walker 96 = .ok (.iload_n 1, 1) := by decide +kernel
theorem d_M_walker_97 : decode c_M_walker 97 = .ok (.iastore, 1) := by decide +kernel
theorem d_M_walker_98 : decode c_M_walker 98 = .ok (.aload_n 0, 1) := by decide +kernel
theorem d_M_walker_99 : decode c_M_walker 99 = .ok (.getfield 42, 3) := by decide +kernel
theorem d_M_walker_102 : decode c_M_walker 102 = .ok (.iload 5, 2) := by decide +kernel
theorem d_M_walker_104 : decode c_M_walker 104 = .ok (.iload_n 1, 1) := by decide +kernel
theorem d_M_walker_105 : decode c_M_walker 105 = .ok (.iconst 1, 1) := by decide +kernel
theorem d_M_walker_106 : decode c_M_walker 106 = .ok (.if_icmp .eq 8, 3) := by decide +kernel
theorem d_M_walker_109 : decode c_M_walker 109 = .ok (.iload_n 1, 1) := by decide +kernel
theorem d_M_walker_110 : decode c_M_walker 110 = .ok (.iconst 2, 1) := by decide +kernel
theorem d_M_walker_111 : decode c_M_walker 111 = .ok (.if_icmp .ne 7, 3) := by decide +kernel
theorem d_M_walker_114 : decode c_M_walker 114 = .ok (.iload_n 2, 1) := by decide +kernel
theorem d_M_walker_115 : decode c_M_walker 115 = .ok (.goto 4, 3) := by decide +kernel
theorem d_M_walker_118 : decode c_M_walker 118 = .ok (.iconst 1, 1) := by decide +kernel
theorem d_M_walker_119 : decode c_M_walker 119 = .ok (.iastore, 1) := by decide +kernel
theorem d_M_walker_120 : decode c_M_walker 120 = .ok (.aload_n 0, 1) := by decide +kernel
theorem d_M_walker_121 : decode c_M_walker 121 = .ok (.getfield 45, 3) := by decide +kernel
theorem d_M_walker_124 : decode c_M_walker 124 = .ok (.iload 5, 2) := by decide +kernel
theorem d_M_walker_126 : decode c_M_walker 126 = .ok (.iload_n 1, 1) := by decide +kernel
theorem d_M_walker_127 : decode c_M_walker 127 = .ok (.iconst 2, 1) := by decide +kernel
theorem d_M_walker_128 : decode c_M_walker 128 = .ok (.if_icmp .ne 7, 3) := by decide +kernel
theorem d_M_walker_131 : decode c_M_walker 131 = .ok (.iload_n 3, 1) := by decide +kernel
theorem d_M_walker_132 : decode c_M_walker 132 = .ok (.goto 4, 3) := by decide +kernel
theorem d_M_walker_135 : decode c_M_walker 135 = .ok (.iconst 0, 1) := by decide +kernel
theorem d_M_walker_136 : decode c_M_walker 136 = .ok (.iastore, 1) := by decide +kernel
theorem d_M_walker_137 : decode c_M_walker 137 = .ok (.aload_n 0, 1) := by decide +kernel
theorem d_M_walker_138 : decode c_M_walker 138 = .ok (.getfield 48, 3) := by decide +kernel
theorem d_M_walker_141 : decode c_M_walker 141 = .ok (.iload 5, 2) := by decide +kernel
theorem d_M_walker_143 : decode c_M_walker 143 = .ok (.iload_n 1, 1) := by decide +kernel
theorem d_M_walker_144 : decode c_M_walker 144 = .ok (.iconst 3, 1) := by decide +kernel
theorem d_M_walker_145 : decode c_M_walker 145 = .ok (.if_icmp .ne 7, 3) := by decide +kernel
theorem d_M_walker_148 : decode c_M_walker 148 = .ok (.iload_n 2, 1) := by decide +kernel
theorem d_M_walker_149 : decode c_M_walker 149 = .ok (.goto 5, 3) := by decide +kernel
theorem d_M_walker_152 : decode c_M_walker 152 = .ok (.bipush (-9), 2) := by decide +kernel
theorem d_M_walker_154 : decode c_M_walker 154 = .ok (.iastore, 1) := by decide +kernel
theorem d_M_walker_155 : decode c_M_walker 155 = .ok (.aload_n 0, 1) := by decide +kernel
theorem d_M_walker_156 : decode c_M_walker 156 = .ok (.getfield 51, 3) := by decide +kernel
theorem d_M_walker_159 : decode c_M_walker 159 = .ok (.iload 5, 2) := by decide +kernel
theorem d_M_walker_161 : decode c_M_walker 161 = .ok (.iconst 0, 1) := by decide +kernel
theorem d_M_walker_162 : decode c_M_walker 162 = .ok (.iastore, 1) := by decide +kernel
theorem d_M_walker_163 : decode c_M_walker 163 = .ok (.aload_n 0, 1) := by decide +kernel
theorem d_M_walker_164 : decode c_M_walker 164 = .ok (.getfield 54, 3) := by decide +kernel
theorem d_M_walker_167 : decode c_M_walker 167 = .ok (.iload 5, 2) := by decide +kernel
theorem d_M_walker_169 : decode c_M_walker 169 = .ok (.iconst 0, 1) := by decide +kernel
theorem d_M_walker_170 : decode c_M_walker 170 = .ok (.bastore, 1) := by decide +kernel
theorem d_M_walker_171 : decode c_M_walker 171 = .ok (.aload_n 0, 1) := by decide +kernel
theorem d_M_walker_172 : decode c_M_walker 172 = .ok (.getfield 57, 3) := by decide +kernel
theorem d_M_walker_175 : decode c_M_walker 175 = .ok (.iload 5, 2) := by decide +kernel
theorem d_M_walker_177 : decode c_M_walker 177 = .ok (.iconst 0, 1) := by decide +kernel
theorem d_M_walker_178 : decode c_M_walker 178 = .ok (.bastore, 1) := by decide +kernel
theorem d_M_walker_179 : decode c_M_walker 179 = .ok (.aload_n 0, 1) := by decide +kernel
theorem d_M_walker_180 : decode c_M_walker 180 = .ok (.getfield 60, 3) := by decide +kernel
theorem d_M_walker_183 : decode c_M_walker 183 = .ok (.iload 5, 2) := by decide +kernel
theorem d_M_walker_185 : decode c_M_walker 185 = .ok (.iconst 0, 1) := by decide +kernel
theorem d_M_walker_186 : decode c_M_walker 186 = .ok (.iastore, 1) := by decide +kernel
theorem d_M_walker_187 : decode c_M_walker 187 = .ok (.aload_n 0, 1) := by decide +kernel
theorem d_M_walker_188 : decode c_M_walker 188 = .ok (.getfield 69, 3) := by decide +kernel
theorem d_M_walker_191 : decode c_M_walker 191 = .ok (.iload 5, 2) := by decide +kernel
theorem d_M_walker_193 : decode c_M_walker 193 = .ok (.bipush (-9), 2) := by decide +kernel
theorem d_M_walker_195 : decode c_M_walker 195 = .ok (.iastore, 1) := by decide +kernel
theorem d_M_walker_196 : decode c_M_walker 196 = .ok (.aload_n 0, 1) := by decide +kernel
theorem d_M_walker_197 : decode c_M_walker 197 = .ok (.dup, 1) := by decide +kernel
theorem d_M_walker_198 : decode c_M_walker 198 = .ok (.getfield 162, 3) := by decide +kernel
theorem d_M_walker_201 : decode c_M_walker 201 = .ok (.iconst 1, 1) := by decide +kernel
theorem d_M_walker_202 : decode c_M_walker 202 = .ok (.iadd, 1) := by decide +kernel
theorem d_M_walker_203 : decode c_M_walker 203 = .ok (.putfield 162, 3) := by decide +kernel
theorem d_M_walker_206 : decode c_M_walker 206 = .ok (.iload 5, 2) := by decide +kernel
theorem d_M_walker_208 : decode c_M_walker 208 = .ok (.ireturn, 1) := by decide +kernel
theorem d_M_isWalker_0 : decode c_M_isWalker 0 = .ok (.iload_n 1, 1) := by decide +kernel
theorem d_M_isWalker_1 : decode c_M_isWalker 1 = .ok (.iconst 0, 1) := by decide +kernel
theorem d_M_isWalker_2 : decode c_M_isWalker 2 = .ok (.aload_n 0, 1) := by decide +kernel
theorem d_M_isWalker_3 : decode c_M_isWalker 3 = .ok (.getfield 162, 3) := by decide +kernel
theorem d_M_isWalker_6 : decode c_M_isWalker 6 = .ok (.iconst 1, 1) := by decide +kernel
theorem d_M_isWalker_7 : decode c_M_isWalker 7 = .ok (.isub, 1) := by decide +kernel
theorem d_M_isWalker_8 : decode c_M_isWalker 8 = .ok (.invokestatic 117, 3) := by decide +kernel
theorem d_M_isWalker_11 : decode c_M_isWalker 11 = .ok (.ireturn, 1) := by decide +kernel
theorem d_M_need_0 : decode c_M_need 0 = .ok (.aload_n 0, 1) := by decide +kernel
theorem d_M_need_1 : decode c_M_need 1 = .ok (.iload_n 2, 1) := by decide +kernel
theorem d_M_need_2 : decode c_M_need 2 = .ok (.invokevirtual 165, 3) := by decide +kernel
theorem d_M_need_5 : decode c_M_need 5 = .ok (.ifCond .eq 7, 3) := by decide +kernel
theorem d_M_need_8 : decode c_M_need 8 = .ok (.iload_n 1, 1) := by decide +kernel
theorem d_M_need_9 : decode c_M_need 9 = .ok (.ifCond .ne 7, 3) := by decide +kernel
theorem d_M_need_12 : decode c_M_need 12 = .ok (.iconst (-1), 1) := by decide +kernel
theorem d_M_need_13 : decode c_M_need 13 = .ok (.goto 21, 3) := by decide +kernel
theorem d_M_need_16 : decode c_M_need 16 = .ok (.aload_n 0, 1) := by decide +kernel
theorem d_M_need_17 : decode c_M_need 17 = .ok (.getfield 57, 3) := by decide +kernel
theorem d_M_need_20 : decode c_M_need 20 = .ok (.iload_n 2, 1) := by decide +kernel
theorem d_M_need_21 : decode c_M_need 21 = .ok (.baload, 1) := by decide +kernel
theorem d_M_need_22 : decode c_M_need 22 = .ok (.ifCond .eq 11, 3) := by decide +kernel
theorem d_M_need_25 : decode c_M_need 25 = .ok (.aload_n 0, 1) := by decide +kernel
theorem d_M_need_26 : decode c_M_need 26 = .ok (.iconst 1, 1) := by decide +kernel
theorem d_M_need_27 : decode c_M_need 27 = .ok (.invokevirtual 135, 3) := by decide +kernel
theorem d_M_need_30 : decode c_M_need 30 = .ok (.goto 4, 3) := by decide +kernel
theorem d_M_need_33 : decode c_M_need 33 = .ok (.iconst 0, 1) := by decide +kernel
theorem d_M_need_34 : decode c_M_need 34 = .ok (.ireturn, 1) := by decide +kernel
theorem d_M_home_0 : decode c_M_home 0 = .ok (.aload_n 0, 1) := by decide +kernel
theorem d_M_home_1 : decode c_M_home 1 = .ok (.iconst 1, 1) := by decide +kernel
theorem d_M_home_2 : decode c_M_home 2 = .ok (.iload_n 1, 1) := by decide +kernel
theorem d_M_home_3 : decode c_M_home 3 = .ok (.invokevirtual 168, 3) := by decide +kernel
theorem d_M_home_6 : decode c_M_home 6 = .ok (.istore_n 2, 1) := by decide +kernel
theorem d_M_home_7 : decode c_M_home 7 = .ok (.iload_n 2, 1) := by decide +kernel
theorem d_M_home_8 : decode c_M_home 8 = .ok (.ifCond .ge 5, 3) := by decide +kernel
theorem d_M_home_11 : decode c_M_home 11 = .ok (.iload_n 2, 1) := by decide +kernel
theorem d_M_home_12 : decode c_M_home 12 = .ok (.ireturn, 1) := by decide +kernel
theorem d_M_home_13 : decode c_M_home 13 = .ok (.aload_n 0, 1) := by decide +kernel
theorem d_M_home_14 : decode c_M_home 14 = .ok (.getfield 57, 3) := by decide +kernel
theorem d_M_home_17 : decode c_M_home 17 = .ok (.iload_n 1, 1) := by decide +kernel
theorem d_M_home_18 : decode c_M_home 18 = .ok (.iconst 1, 1) := by decide +kernel
theorem d_M_home_19 : decode c_M_home 19 = .ok (.bastore, 1) := by decide +kernel
theorem d_M_home_20 : decode c_M_home 20 = .ok (.iconst 1, 1) := by decide +kernel
theorem d_M_home_21 : decode c_M_home 21 = .ok (.ireturn, 1) := by decide +kernel
theorem d_M_view_0 : decode c_M_view 0 = .ok (.aload_n 0, 1) := by decide +kernel
theorem d_M_view_1 : decode c_M_view 1 = .ok (.iload_n 2, 1) := by decide +kernel
theorem d_M_view_2 : decode c_M_view 2 = .ok (.iconst 0, 1) := by decide +kernel
theorem d_M_view_3 : decode c_M_view 3 = .ok (.bipush 40, 2) := by decide +kernel
theorem d_M_view_5 : decode c_M_view 5 = .ok (.invokestatic 117, 3) := by decide +kernel
theorem d_M_view_8 : decode c_M_view 8 = .ok (.iload_n 1, 1) := by decide +kernel
theorem d_M_view_9 : decode c_M_view 9 = .ok (.invokevirtual 168, 3) := by decide +kernel
theorem d_M_view_12 : decode c_M_view 12 = .ok (.istore_n 3, 1) := by decide +kernel
theorem d_M_view_13 : decode c_M_view 13 = .ok (.iload_n 3, 1) := by decide +kernel
theorem d_M_view_14 : decode c_M_view 14 = .ok (.ifCond .ge 5, 3) := by decide +kernel
theorem d_M_view_17 : decode c_M_view 17 = .ok (.iload_n 3, 1) := by decide +kernel
theorem d_M_view_18 : decode c_M_view 18 = .ok (.ireturn, 1) := by decide +kernel
theorem d_M_view_19 : decode c_M_view 19 = .ok (.aload_n 0, 1) := by decide +kernel
theorem d_M_view_20 : decode c_M_view 20 = .ok (.getfield 51, 3) := by decide +kernel
theorem d_M_view_23 : decode c_M_view 23 = .ok (.iload_n 1, 1) := by decide +kernel
theorem d_M_view_24 : decode c_M_view 24 = .ok (.iaload, 1) := by decide +kernel
theorem d_M_view_25 : decode c_M_view 25 = .ok (.istore 4, 2) := by decide +kernel
theorem d_M_view_27 : decode c_M_view 27 = .ok (.aload_n 0, 1) := by decide +kernel
theorem d_M_view_28 : decode c_M_view 28 = .ok (.getfield 51, 3) := by decide +kernel
theorem d_M_view_31 : decode c_M_view 31 = .ok (.iload_n 1, 1) := by decide +kernel
theorem d_M_view_32 : decode c_M_view 32 = .ok (.iload_n 2, 1) := by decide +kernel
theorem d_M_view_33 : decode c_M_view 33 = .ok (.iastore, 1) := by decide +kernel
theorem d_M_view_34 : decode c_M_view 34 = .ok (.iload 4, 2) := by decide +kernel
theorem d_M_view_36 : decode c_M_view 36 = .ok (.ireturn, 1) := by decide +kernel
theorem d_M_lose_0 : decode c_M_lose 0 = .ok (.aload_n 0, 1) := by decide +kernel
theorem d_M_lose_1 : decode c_M_lose 1 = .ok (.iconst 1, 1) := by decide +kernel
theorem d_M_lose_2 : decode c_M_lose 2 = .ok (.iload_n 1, 1) := by decide +kernel
theorem d_M_lose_3 : decode c_M_lose 3 = .ok (.invokevirtual 168, 3) := by decide +kernel
theorem d_M_lose_6 : decode c_M_lose 6 = .ok (.istore_n 3, 1) := by decide +kernel
theorem d_M_lose_7 : decode c_M_lose 7 = .ok (.iload_n 3, 1) := by decide +kernel
theorem d_M_lose_8 : decode c_M_lose 8 = .ok (.ifCond .ge 5, 3) := by decide +kernel
theorem d_M_lose_11 : decode c_M_lose 11 = .ok (.iload_n 3, 1) := by decide +kernel
theorem d_M_lose_12 : decode c_M_lose 12 = .ok (.ireturn, 1) := by decide +kernel
theorem d_M_lose_13 : decode c_M_lose 13 = .ok (.aload_n 0, 1) := by decide +kernel
theorem d_M_lose_14 : decode c_M_lose 14 = .ok (.getfield 54, 3) := by decide +kernel
theorem d_M_lose_17 : decode c_M_lose 17 = .ok (.iload_n 1, 1) := by decide +kernel
theorem d_M_lose_18 : decode c_M_lose 18 = .ok (.baload, 1) := by decide +kernel
theorem d_M_lose_19 : decode c_M_lose 19 = .ok (.ifCond .eq 7, 3) := by decide +kernel
theorem d_M_lose_22 : decode c_M_lose 22 = .ok (.iconst 1, 1) := by decide +kernel
theorem d_M_lose_23 : decode c_M_lose 23 = .ok (.goto 4, 3) := by decide +kernel
theorem d_M_lose_26 : decode c_M_lose 26 = .ok (.iconst 0, 1) := by decide +kernel
theorem d_M_lose_27 : decode c_M_lose 27 = .ok (.istore 4, 2) := by decide +kernel
theorem d_M_lose_29 : decode c_M_lose 29 = .ok (.aload_n 0, 1) := by decide +kernel
theorem d_M_lose_30 : decode c_M_lose 30 = .ok (.getfield 54, 3) := by decide +kernel
theorem d_M_lose_33 : decode c_M_lose 33 = .ok (.iload_n 1, 1) := by decide +kernel
theorem d_M_lose_34 : decode c_M_lose 34 = .ok (.iload_n 2, 1) := by decide +kernel
theorem d_M_lose_35 : decode c_M_lose 35 = .ok (.bastore, 1) := by decide +kernel
theorem d_M_lose_36 : decode c_M_lose 36 = .ok (.iload 4, 2) := by decide +kernel
theorem d_M_lose_38 : decode c_M_lose 38 = .ok (.ireturn, 1) := by decide +kernel
theorem d_M_unitOf_0 : decode c_M_unitOf 0 = .ok (.aload_n 0, 1) := by decide +kernel
theorem d_M_unitOf_1 : decode c_M_unitOf 1 = .ok (.getfield 39, 3) := by decide +kernel
theorem d_M_unitOf_4 : decode c_M_unitOf 4 = .ok (.iload_n 1, 1) := by decide +kernel
theorem d_M_unitOf_5 : decode c_M_unitOf 5 = .ok (.iaload, 1) := by decide +kernel
theorem d_M_unitOf_6 : decode c_M_unitOf 6 = .ok (.iconst 3, 1) := by decide +kernel
theorem d_M_unitOf_7 : decode c_M_unitOf 7 = .ok (.if_icmp .ne 7, 3) := by decide +kernel
theorem d_M_unitOf_10 : decode c_M_unitOf 10 = .ok (.iconst 0, 1) := by decide +kernel
theorem d_M_unitOf_11 : decode c_M_unitOf 11 = .ok (.goto 12, 3) := by decide +kernel
theorem d_M_unitOf_14 : decode c_M_unitOf 14 = .ok (.bipush 60, 2) := by decide +kernel
theorem d_M_unitOf_16 : decode c_M_unitOf 16 = .ok (.aload_n 0, 1) := by decide +kernel
theorem d_M_unitOf_17 : decode c_M_unitOf 17 = .ok (.getfield 42, 3) := by decide +kernel
theorem d_M_unitOf_20 : decode c_M_unitOf 20 = .ok (.iload_n 1, 1) := by decide +kernel
theorem d_M_unitOf_21 : decode c_M_unitOf 21 = .ok (.iaload, 1) := by decide +kernel
theorem d_M_unitOf_22 : decode c_M_unitOf 22 = .ok (.idiv, 1) := by decide +kernel
theorem d_M_unitOf_23 : decode c_M_unitOf 23 = .ok (.ireturn, 1) := by decide +kernel
theorem d_M_post_0 : decode c_M_post 0 = .ok (.aload_n 0, 1) := by decide +kernel
theorem d_M_post_1 : decode c_M_post 1 = .ok (.getfield 63, 3) := by decide +kernel
theorem d_M_post_4 : decode c_M_post 4 = .ok (.bipush 24, 2) := by decide +kernel
theorem d_M_post_6 : decode c_M_post 6 = .ok (.iload_n 1, 1) := by decide +kernel
theorem d_M_post_7 : decode c_M_post 7 = .ok (.imul, 1) := by decide +kernel
theorem d_M_post_8 : decode c_M_post 8 = .ok (.iload_n 2, 1) := by decide +kernel
theorem d_M_post_9 : decode c_M_post 9 = .ok (.iadd, 1) := by decide +kernel
theorem d_M_post_10 : decode c_M_post 10 = .ok (.iaload, 1) := by decide +kernel
theorem d_M_post_11 : decode c_M_post 11 = .ok (.ireturn, 1) := by decide +kernel
theorem d_M_rest_0 : decode c_M_rest 0 = .ok (.aload_n 0, 1) := by decide +kernel
theorem d_M_rest_1 : decode c_M_rest 1 = .ok (.getfield 66, 3) := by decide +kernel
theorem d_M_rest_4 : decode c_M_rest 4 = .ok (.bipush 24, 2) := by decide +kernel
theorem d_M_rest_6 : decode c_M_rest 6 = .ok (.iload_n 1, 1) := by decide +kernel
theorem d_M_rest_7 : decode c_M_rest 7 = .ok (.imul, 1) := by decide +kernel
theorem d_M_rest_8 : decode c_M_rest 8 = .ok (.iload_n 2, 1) := by decide +kernel
theorem d_M_rest_9 : decode c_M_rest 9 = .ok (.iadd, 1) := by decide +kernel
theorem d_M_rest_10 : decode c_M_rest 10 = .ok (.iaload, 1) := by decide +kernel
theorem d_M_rest_11 : decode c_M_rest 11 = .ok (.ireturn, 1) := by decide +kernel
theorem d_M_pair_0 : decode c_M_pair 0 = .ok (.bipush 16, 2) := by decide +kernel
theorem d_M_pair_2 : decode c_M_pair 2 = .ok (.aload_n 0, 1) := by decide +kernel
theorem d_M_pair_3 : decode c_M_pair 3 = .ok (.iload_n 1, 1) := by decide +kernel
theorem d_M_pair_4 : decode c_M_pair 4 = .ok (.iload_n 2, 1) := by decide +kernel
theorem d_M_pair_5 : decode c_M_pair 5 = .ok (.invokevirtual 172, 3) := by decide +kernel
theorem d_M_pair_8 : decode c_M_pair 8 = .ok (.imul, 1) := by decide +kernel
theorem d_M_pair_9 : decode c_M_pair 9 = .ok (.aload_n 0, 1) := by decide +kernel
theorem d_M_pair_10 : decode c_M_pair 10 = .ok (.iload_n 1, 1) := by decide +kernel
theorem d_M_pair_11 : decode c_M_pair 11 = .ok (.iload_n 2, 1) := by decide +kernel
theorem d_M_pair_12 : decode c_M_pair 12 = .ok (.iconst 1, 1) := by decide +kernel
theorem d_M_pair_13 : decode c_M_pair 13 = .ok (.iadd, 1) := by decide +kernel
theorem d_M_pair_14 : decode c_M_pair 14 = .ok (.aload_n 0, 1) := by decide +kernel
theorem d_M_pair_15 : decode c_M_pair 15 = .ok (.getfield 60, 3) := by decide +kernel
theorem d_M_pair_18 : decode c_M_pair 18 = .ok (.iload_n 1, 1) := by decide +kernel
theorem d_M_pair_19 : decode c_M_pair 19 = .ok (.iaload, 1) := by decide +kernel
theorem d_M_pair_20 : decode c_M_pair 20 = .ok (.irem, 1) := by decide +kernel
theorem d_M_pair_21 : decode c_M_pair 21 = .ok (.invokevirtual 172, 3) := by decide +kernel
theorem d_M_pair_24 : decode c_M_pair 24 = .ok (.iadd, 1) := by decide +kernel
theorem d_M_pair_25 : decode c_M_pair 25 = .ok (.ireturn, 1) := by decide +kernel
theorem d_M_mostFuel_0 : decode c_M_mostFuel 0 = .ok (.aload_n 0, 1) := by decide +kernel
theorem d_M_mostFuel_1 : decode c_M_mostFuel 1 = .ok (.getfield 60, 3) := by decide +kernel
theorem d_M_mostFuel_4 : decode c_M_mostFuel 4 = .ok (.iload_n 1, 1) := by decide +kernel
theorem d_M_mostFuel_5 : decode c_M_mostFuel 5 = .ok (.iaload, 1) := by decide +kernel
theorem d_M_mostFuel_6 : decode c_M_mostFuel 6 = .ok (.istore_n 2, 1) := by decide +kernel
theorem d_M_mostFuel_7 : decode c_M_mostFuel 7 = .ok (.bipush (-9), 2) := by decide +kernel
theorem d_M_mostFuel_9 : decode c_M_mostFuel 9 = .ok (.istore_n 3, 1) := by decide +kernel
theorem d_M_mostFuel_10 : decode c_M_mostFuel 10 = .ok (.iconst 0, 1) := by decide +kernel
theorem d_M_mostFuel_11 : decode c_M_mostFuel 11 = .ok (.istore 4, 2) := by decide +kernel
theorem d_M_mostFuel_13 : decode c_M_mostFuel 13 = .ok (.iload 4, 2) := by decide +kernel
theorem d_M_mostFuel_15 : decode c_M_mostFuel 15 = .ok (.iload_n 2, 1) := by decide +kernel
theorem d_M_mostFuel_16 : decode c_M_mostFuel 16 = .ok (.if_icmp .ge 102, 3) := by decide +kernel
theorem d_M_mostFuel_19 : decode c_M_mostFuel 19 = .ok (.aload_n 0, 1) := by decide +kernel
theorem d_M_mostFuel_20 : decode c_M_mostFuel 20 = .ok (.getfield 33, 3) := by decide +kernel
theorem d_M_mostFuel_23 : decode c_M_mostFuel 23 = .ok (.aload_n 0, 1) := by decide +kernel
theorem d_M_mostFuel_24 : decode c_M_mostFuel 24 = .ok (.iload_n 1, 1) := by decide +kernel
theorem d_M_mostFuel_25 : decode c_M_mostFuel 25 = .ok (.iload 4, 2) := by decide +kernel
theorem d_M_mostFuel_27 : decode c_M_mostFuel 27 = .ok (.invokevirtual 172, 3) := by decide +kernel
theorem d_M_mostFuel_30 : decode c_M_mostFuel 30 = .ok (.baload, 1) := by decide +kernel
theorem d_M_mostFuel_31 : decode c_M_mostFuel 31 = .ok (.ifCond .eq 81, 3) := by decide +kernel
theorem d_M_mostFuel_34 : decode c_M_mostFuel 34 = .ok (.aload_n 0, 1) := by decide +kernel
theorem d_M_mostFuel_35 : decode c_M_mostFuel 35 = .ok (.getfield 23, 3) := by decide +kernel
theorem d_M_mostFuel_38 : decode c_M_mostFuel 38 = .ok (.aload_n 0, 1) := by decide +kernel
theorem d_M_mostFuel_39 : decode c_M_mostFuel 39 = .ok (.iload_n 1, 1) := by decide +kernel
theorem d_M_mostFuel_40 : decode c_M_mostFuel 40 = .ok (.iload 4, 2) := by decide +kernel
theorem d_M_mostFuel_42 : decode c_M_mostFuel 42 = .ok (.invokevirtual 175, 3) := by decide +kernel
theorem d_M_mostFuel_45 : decode c_M_mostFuel 45 = .ok (.iaload, 1) := by decide +kernel
theorem d_M_mostFuel_46 : decode c_M_mostFuel 46 = .ok (.istore 5, 2) := by decide +kernel
theorem d_M_mostFuel_48 : decode c_M_mostFuel 48 = .ok (.iload 4, 2) := by decide +kernel
theorem d_M_mostFuel_50 : decode c_M_mostFuel 50 = .ok (.iconst 1, 1) := by decide +kernel
theorem d_M_mostFuel_51 : decode c_M_mostFuel 51 = .ok (.iadd, 1) := by decide +kernel
theorem d_M_mostFuel_52 : decode c_M_mostFuel 52 = .ok (.iload_n 2, 1) := by decide +kernel
theorem d_M_mostFuel_53 : decode c_M_mostFuel 53 = .ok (.irem, 1) := by decide +kernel
theorem d_M_mostFuel_54 : decode c_M_mostFuel 54 = .ok (.istore 6, 2) := by decide +kernel
theorem d_M_mostFuel_56 : decode c_M_mostFuel 56 = .ok (.aload_n 0, 1) := by decide +kernel
theorem d_M_mostFuel_57 : decode c_M_mostFuel 57 = .ok (.getfield 33, 3) := by decide +kernel
theorem d_M_mostFuel_60 : decode c_M_mostFuel 60 = .ok (.aload_n 0, 1) := by decide +kernel
theorem d_M_mostFuel_61 : decode c_M_mostFuel 61 = .ok (.iload_n 1, 1) := by decide +kernel
theorem d_M_mostFuel_62 : decode c_M_mostFuel 62 = .ok (.iload 6, 2) := by decide +kernel
theorem d_M_mostFuel_64 : decode c_M_mostFuel 64 = .ok (.invokevirtual 172, 3) := by decide +kernel
theorem d_M_mostFuel_67 : decode c_M_mostFuel 67 = .ok (.baload, 1) := by decide +kernel
theorem d_M_mostFuel_68 : decode c_M_mostFuel 68 = .ok (.ifCond .ne 31, 3) := by decide +kernel
theorem d_M_mostFuel_71 : decode c_M_mostFuel 71 = .ok (.iload 5, 2) := by decide +kernel
theorem d_M_mostFuel_73 : decode c_M_mostFuel 73 = .ok (.aload_n 0, 1) := by decide +kernel
theorem d_M_mostFuel_74 : decode c_M_mostFuel 74 = .ok (.getfield 23, 3) := by decide +kernel
theorem d_M_mostFuel_77 : decode c_M_mostFuel 77 = .ok (.aload_n 0, 1) := by decide +kernel
theorem d_M_mostFuel_78 : decode c_M_mostFuel 78 = .ok (.iload_n 1, 1) := by decide +kernel
theorem d_M_mostFuel_79 : decode c_M_mostFuel 79 = .ok (.iload 6, 2) := by decide +kernel
theorem d_M_mostFuel_81 : decode c_M_mostFuel 81 = .ok (.invokevirtual 175, 3) := by decide +kernel
theorem d_M_mostFuel_84 : decode c_M_mostFuel 84 = .ok (.iaload, 1) := by decide +kernel
theorem d_M_mostFuel_85 : decode c_M_mostFuel 85 = .ok (.iadd, 1) := by decide +kernel
theorem d_M_mostFuel_86 : decode c_M_mostFuel 86 = .ok (.istore 5, 2) := by decide +kernel
theorem d_M_mostFuel_88 : decode c_M_mostFuel 88 = .ok (.iload 6, 2) := by decide +kernel
theorem d_M_mostFuel_90 : decode c_M_mostFuel 90 = .ok (.iconst 1, 1) := by decide +kernel
theorem d_M_mostFuel_91 : decode c_M_mostFuel 91 = .ok (.iadd, 1) := by decide +kernel
theorem d_M_mostFuel_92 : decode c_M_mostFuel 92 = .ok (.iload_n 2, 1) := by decide +kernel
theorem d_M_mostFuel_93 : decode c_M_mostFuel 93 = .ok (.irem, 1) := by decide +kernel
theorem d_M_mostFuel_94 : decode c_M_mostFuel 94 = .ok (.istore 6, 2) := by decide +kernel
theorem d_M_mostFuel_96 : decode c_M_mostFuel 96 = .ok (.goto (-40), 3) := by decide +kernel
theorem d_M_mostFuel_99 : decode c_M_mostFuel 99 = .ok (.iload 5, 2) := by decide +kernel
theorem d_M_mostFuel_101 : decode c_M_mostFuel 101 = .ok (.iload_n 3, 1) := by decide +kernel
theorem d_M_mostFuel_102 : decode c_M_mostFuel 102 = .ok (.if_icmp .le 8, 3) := by decide +kernel
theorem d_M_mostFuel_105 : decode c_M_mostFuel 105 = .ok (.iload 5, 2) := by decide +kernel
theorem d_M_mostFuel_107 : decode c_M_mostFuel 107 = .ok (.goto 4, 3) := by decide +kernel
theorem d_M_mostFuel_110 : decode c_M_mostFuel 110 = .ok (.iload_n 3, 1) := by decide +kernel
theorem d_M_mostFuel_111 : decode c_M_mostFuel 111 = .ok (.istore_n 3, 1) := by decide +kernel
theorem d_M_mostFuel_112 : decode c_M_mostFuel 112 = .ok (.iinc 4 1, 3) := by decide +kernel
theorem d_M_mostFuel_115 : decode c_M_mostFuel 115 = .ok (.goto (-102), 3) := by decide +kernel
theorem d_M_mostFuel_118 : decode c_M_mostFuel 118 = .ok (.iload_n 3, 1) := by decide +kernel
theorem d_M_mostFuel_119 : decode c_M_mostFuel 119 = .ok (.ireturn, 1) := by decide +kernel
theorem d_M_whyNot_0 : decode c_M_whyNot 0 = .ok (.aload_n 0, 1) := by decide +kernel
theorem d_M_whyNot_1 : decode c_M_whyNot 1 = .ok (.getfield 60, 3) := by decide +kernel
theorem d_M_whyNot_4 : decode c_M_whyNot 4 = .ok (.iload_n 1, 1) := by decide +kernel
theorem d_M_whyNot_5 : decode c_M_whyNot 5 = .ok (.iaload, 1) := by decide +kernel
theorem d_M_whyNot_6 : decode c_M_whyNot 6 = .ok (.istore_n 2, 1) := by decide +kernel
theorem d_M_whyNot_7 : decode c_M_whyNot 7 = .ok (.iload_n 2, 1) := by decide +kernel
theorem d_M_whyNot_8 : decode c_M_whyNot 8 = .ok (.ifCond .ne 5, 3) := by decide +kernel
theorem d_M_whyNot_11 : decode c_M_whyNot 11 = .ok (.iconst 1, 1) := by decide +kernel
theorem d_M_whyNot_12 : decode c_M_whyNot 12 = .ok (.ireturn, 1) := by decide +kernel
theorem d_M_whyNot_13 : decode c_M_whyNot 13 = .ok (.iconst 1, 1) := by decide +kernel
theorem d_M_whyNot_14 : decode c_M_whyNot 14 = .ok (.istore_n 3, 1) := by decide +kernel
theorem d_M_whyNot_15 : decode c_M_whyNot 15 = .ok (.iconst 0, 1) := by decide +kernel
theorem d_M_whyNot_16 : decode c_M_whyNot 16 = .ok (.istore 4, 2) := by decide +kernel
theorem d_M_whyNot_18 : decode c_M_whyNot 18 = .ok (.iload 4, 2) := by decide +kernel
theorem d_M_whyNot_20 : decode c_M_whyNot 20 = .ok (.iload_n 2, 1) := by decide +kernel
theorem d_M_whyNot_21 : decode c_M_whyNot 21 = .ok (.if_icmp .ge 33, 3) := by decide +kernel
theorem d_M_whyNot_24 : decode c_M_whyNot 24 = .ok (.iload_n 3, 1) := by decide +kernel
theorem d_M_whyNot_25 : decode c_M_whyNot 25 = .ok (.ifCond .eq 21, 3) := by decide +kernel
theorem d_M_whyNot_28 : decode c_M_whyNot 28 = .ok (.aload_n 0, 1) := by decide +kernel
theorem d_M_whyNot_29 : decode c_M_whyNot 29 = .ok (.aload_n 0, 1) := by decide +kernel
theorem d_M_whyNot_30 : decode c_M_whyNot 30 = .ok (.iload_n 1, 1) := by decide +kernel
theorem d_M_whyNot_31 : decode c_M_whyNot 31 = .ok (.iload 4, 2) := by decide +kernel
theorem d_M_whyNot_33 : decode c_M_whyNot 33 = .ok (.invokevirtual 172, 3) := by decide +kernel
theorem d_M_whyNot_36 : decode c_M_whyNot 36 = .ok (.invokevirtual 151, 3) := by decide +kernel
theorem d_M_whyNot_39 : decode c_M_whyNot 39 = .ok (.ifCond .eq 7, 3) := by decide +kernel
theorem d_M_whyNot_42 : decode c_M_whyNot 42 = .ok (.iconst 1, 1) := by decide +kernel
theorem d_M_whyNot_43 : decode c_M_whyNot 43 = .ok (.goto 4, 3) := by decide +kernel
theorem d_M_whyNot_46 : decode c_M_whyNot 46 = .ok (.iconst 0, 1) := by decide +kernel
theorem d_M_whyNot_47 : decode c_M_whyNot 47 = .ok (.istore_n 3, 1) := by decide +kernel
theorem d_M_whyNot_48 : decode c_M_whyNot 48 = .ok (.iinc 4 1, 3) := by decide +kernel
theorem d_M_whyNot_51 : decode c_M_whyNot 51 = .ok (.goto (-33), 3) := by decide +kernel
theorem d_M_whyNot_54 : decode c_M_whyNot 54 = .ok (.iload_n 3, 1) := by decide +kernel
theorem d_M_whyNot_55 : decode c_M_whyNot 55 = .ok (.ifCond .ne 5, 3) := by decide +kernel
theorem d_M_whyNot_58 : decode c_M_whyNot 58 = .ok (.iconst 2, 1) := by decide +kernel
theorem d_M_whyNot_59 : decode c_M_whyNot 59 = .ok (.ireturn, 1) := by decide +kernel
theorem d_M_whyNot_60 : decode c_M_whyNot 60 = .ok (.iconst 1, 1) := by decide +kernel
theorem d_M_whyNot_61 : decode c_M_whyNot 61 = .ok (.istore 4, 2) := by decide +kernel
theorem d_M_whyNot_63 : decode c_M_whyNot 63 = .ok (.iconst 1, 1) := by decide +kernel
theorem d_M_whyNot_64 : decode c_M_whyNot 64 = .ok (.istore 5, 2) := by decide +kernel
theorem d_M_whyNot_66 : decode c_M_whyNot 66 = .ok (.iconst 0, 1) := by decide +kernel
theorem d_M_whyNot_67 : decode c_M_whyNot 67 = .ok (.istore 6, 2) := by decide +kernel
theorem d_M_whyNot_69 : decode c_M_whyNot 69 = .ok (.iload 6, 2) := by decide +kernel
theorem d_M_whyNot_71 : decode c_M_whyNot 71 = .ok (.iload_n 2, 1) := by decide +kernel
theorem d_M_whyNot_72 : decode c_M_whyNot 72 = .ok (.if_icmp .ge 63, 3) := by decide +kernel
theorem d_M_whyNot_75 : decode c_M_whyNot 75 = .ok (.iload 4, 2) := by decide +kernel
theorem d_M_whyNot_77 : decode c_M_whyNot 77 = .ok (.ifCond .eq 22, 3) := by decide +kernel
theorem d_M_whyNot_80 : decode c_M_whyNot 80 = .ok (.aload_n 0, 1) := by decide +kernel
theorem d_M_whyNot_81 : decode c_M_whyNot 81 = .ok (.getfield 23, 3) := by decide +kernel
theorem d_M_whyNot_84 : decode c_M_whyNot 84 = .ok (.aload_n 0, 1) := by decide +kernel
theorem d_M_whyNot_85 : decode c_M_whyNot 85 = .ok (.iload_n 1, 1) := by decide +kernel
theorem d_M_whyNot_86 : decode c_M_whyNot 86 = .ok (.iload 6, 2) := by decide +kernel
theorem d_M_whyNot_88 : decode c_M_whyNot 88 = .ok (.invokevirtual 175, 3) := by decide +kernel
theorem d_M_whyNot_91 : decode c_M_whyNot 91 = .ok (.iaload, 1) := by decide +kernel
theorem d_M_whyNot_92 : decode c_M_whyNot 92 = .ok (.ifCond .le 7, 3) := by decide +kernel
theorem d_M_whyNot_95 : decode c_M_whyNot 95 = .ok (.iconst 1, 1) := by decide +kernel
theorem d_M_whyNot_96 : decode c_M_whyNot 96 = .ok (.goto 4, 3) := by decide +kernel
theorem d_M_whyNot_99 : decode c_M_whyNot 99 = .ok (.iconst 0, 1) := by decide +kernel
theorem d_M_whyNot_100 : decode c_M_whyNot 100 = .ok (.istore 4, 2) := by decide +kernel
theorem d_M_whyNot_102 : decode c_M_whyNot 102 = .ok (.iload 5, 2) := by decide +kernel
theorem d_M_whyNot_104 : decode c_M_whyNot 104 = .ok (.ifCond .eq 22, 3) := by decide +kernel
theorem d_M_whyNot_107 : decode c_M_whyNot 107 = .ok (.aload_n 0, 1) := by decide +kernel
theorem d_M_whyNot_108 : decode c_M_whyNot 108 = .ok (.getfield 26, 3) := by decide +kernel
theorem d_M_whyNot_111 : decode c_M_whyNot 111 = .ok (.aload_n 0, 1) := by decide +kernel
theorem d_M_whyNot_112 : decode c_M_whyNot 112 = .ok (.iload_n 1, 1) := by decide +kernel
theorem d_M_whyNot_113 : decode c_M_whyNot 113 = .ok (.iload 6, 2) := by decide +kernel
theorem d_M_whyNot_115 : decode c_M_whyNot 115 = .ok (.invokevirtual 175, 3) := by decide +kernel
theorem d_M_whyNot_118 : decode c_M_whyNot 118 = .ok (.baload, 1) := by decide +kernel
theorem d_M_whyNot_119 : decode c_M_whyNot 119 = .ok (.ifCond .ne 7, 3) := by decide +kernel
theorem d_M_whyNot_122 : decode c_M_whyNot 122 = .ok (.iconst 1, 1) := by decide +kernel
theorem d_M_whyNot_123 : decode c_M_whyNot 123 = .ok (.goto 4, 3) := by decide +kernel
theorem d_M_whyNot_126 : decode c_M_whyNot 126 = .ok (.iconst 0, 1) := by decide +kernel
theorem d_M_whyNot_127 : decode c_M_whyNot 127 = .ok (.istore 5, 2) := by decide +kernel
theorem d_M_whyNot_129 : decode c_M_whyNot 129 = .ok (.iinc 6 1, 3) := by decide +kernel
theorem d_M_whyNot_132 : decode c_M_whyNot 132 = .ok (.goto (-63), 3) := by decide +kernel
theorem d_M_whyNot_135 : decode c_M_whyNot 135 = .ok (.iload 4, 2) := by decide +kernel
theorem d_M_whyNot_137 : decode c_M_whyNot 137 = .ok (.ifCond .eq 8, 3) := by decide +kernel
theorem d_M_whyNot_140 : decode c_M_whyNot 140 = .ok (.iload 5, 2) := by decide +kernel
theorem d_M_whyNot_142 : decode c_M_whyNot 142 = .ok (.ifCond .ne 14, 3) := by decide +kernel
theorem d_M_whyNot_145 : decode c_M_whyNot 145 = .ok (.iload 4, 2) := by decide +kernel
theorem d_M_whyNot_147 : decode c_M_whyNot 147 = .ok (.ifCond .eq 7, 3) := by decide +kernel
theorem d_M_whyNot_150 : decode c_M_whyNot 150 = .ok (.iconst 4, 1) := by decide +kernel
theorem d_M_whyNot_151 : decode c_M_whyNot 151 = .ok (.goto 4, 3) := by decide +kernel
theorem d_M_whyNot_154 : decode c_M_whyNot 154 = .ok (.iconst 3, 1) := by decide +kernel
theorem d_M_whyNot_155 : decode c_M_whyNot 155 = .ok (.ireturn, 1) := by decide +kernel
theorem d_M_whyNot_156 : decode c_M_whyNot 156 = .ok (.aload_n 0, 1) := by decide +kernel
theorem d_M_whyNot_157 : decode c_M_whyNot 157 = .ok (.getfield 39, 3) := by decide +kernel
theorem d_M_whyNot_160 : decode c_M_whyNot 160 = .ok (.iload_n 1, 1) := by decide +kernel
theorem d_M_whyNot_161 : decode c_M_whyNot 161 = .ok (.iaload, 1) := by decide +kernel
theorem d_M_whyNot_162 : decode c_M_whyNot 162 = .ok (.iconst 2, 1) := by decide +kernel
theorem d_M_whyNot_163 : decode c_M_whyNot 163 = .ok (.if_icmp .ne 39, 3) := by decide +kernel
theorem d_M_whyNot_166 : decode c_M_whyNot 166 = .ok (.aload_n 0, 1) := by decide +kernel
theorem d_M_whyNot_167 : decode c_M_whyNot 167 = .ok (.iload_n 1, 1) := by decide +kernel
theorem d_M_whyNot_168 : decode c_M_whyNot 168 = .ok (.invokevirtual 178, 3) := by decide +kernel
theorem d_M_whyNot_171 : decode c_M_whyNot 171 = .ok (.istore 6, 2) := by decide +kernel
theorem d_M_whyNot_173 : decode c_M_whyNot 173 = .ok (.iload 6, 2) := by decide +kernel
theorem d_M_whyNot_175 : decode c_M_whyNot 175 = .ok (.bipush (-9), 2) := by decide +kernel
theorem d_M_whyNot_177 : decode c_M_whyNot 177 = .ok (.if_icmp .ne 7, 3) := by decide +kernel
theorem d_M_whyNot_180 : decode c_M_whyNot 180 = .ok (.iconst 5, 1) := by decide +kernel
theorem d_M_whyNot_181 : decode c_M_whyNot 181 = .ok (.goto 20, 3) := by decide +kernel
theorem d_M_whyNot_184 : decode c_M_whyNot 184 = .ok (.iload 6, 2) := by decide +kernel
theorem d_M_whyNot_186 : decode c_M_whyNot 186 = .ok (.aload_n 0, 1) := by decide +kernel
theorem d_M_whyNot_187 : decode c_M_whyNot 187 = .ok (.getfield 45, 3) := by decide +kernel
theorem d_M_whyNot_190 : decode c_M_whyNot 190 = .ok (.iload_n 1, 1) := by decide +kernel
theorem d_M_whyNot_191 : decode c_M_whyNot 191 = .ok (.iaload, 1) := by decide +kernel
theorem d_M_whyNot_192 : decode c_M_whyNot 192 = .ok (.if_icmp .le 8, 3) := by decide +kernel
theorem d_M_whyNot_195 : decode c_M_whyNot 195 = .ok (.bipush 6, 2) := by decide +kernel
theorem d_M_whyNot_197 : decode c_M_whyNot 197 = .ok (.goto 4, 3) := by decide +kernel
theorem d_M_whyNot_200 : decode c_M_whyNot 200 = .ok (.iconst 0, 1) := by decide +kernel
theorem d_M_whyNot_201 : decode c_M_whyNot 201 = .ok (.ireturn, 1) := by decide +kernel
theorem d_M_whyNot_202 : decode c_M_whyNot 202 = .ok (.iconst 0, 1) := by decide +kernel
theorem d_M_whyNot_203 : decode c_M_whyNot 203 = .ok (.ireturn, 1) := by decide +kernel
theorem d_M_goes_0 : decode c_M_goes 0 = .ok (.aload_n 0, 1) := by decide +kernel
theorem d_M_goes_1 : decode c_M_goes 1 = .ok (.getfield 57, 3) := by decide +kernel
theorem d_M_goes_4 : decode c_M_goes 4 = .ok (.iload_n 1, 1) := by decide +kernel
theorem d_M_goes_5 : decode c_M_goes 5 = .ok (.baload, 1) := by decide +kernel
theorem d_M_goes_6 : decode c_M_goes 6 = .ok (.ifCond .ne 24, 3) := by decide +kernel
theorem d_M_goes_9 : decode c_M_goes 9 = .ok (.aload_n 0, 1) := by decide +kernel
theorem d_M_goes_10 : decode c_M_goes 10 = .ok (.getfield 54, 3) := by decide +kernel
theorem d_M_goes_13 : decode c_M_goes 13 = .ok (.iload_n 1, 1) := by decide +kernel
theorem d_M_goes_14 : decode c_M_goes 14 = .ok (.baload, 1) := by decide +kernel
theorem d_M_goes_15 : decode c_M_goes 15 = .ok (.ifCond .ne 15, 3) := by decide +kernel
theorem d_M_goes_18 : decode c_M_goes 18 = .ok (.aload_n 0, 1) := by decide +kernel
theorem d_M_goes_19 : decode c_M_goes 19 = .ok (.getfield 181, 3) := by decide +kernel
theorem d_M_goes_22 : decode c_M_goes 22 = .ok (.iload_n 1, 1) := by decide +kernel
theorem d_M_goes_23 : decode c_M_goes 23 = .ok (.ishr, 1) := by decide +kernel
theorem d_M_goes_24 : decode c_M_goes 24 = .ok (.iconst 1, 1) := by decide +kernel
theorem d_M_goes_25 : decode c_M_goes 25 = .ok (.iand, 1) := by decide +kernel
theorem d_M_goes_26 : decode c_M_goes 26 = .ok (.iconst 1, 1) := by decide +kernel
theorem d_M_goes_27 : decode c_M_goes 27 = .ok (.if_icmp .ne 5, 3) := by decide +kernel
theorem d_M_goes_30 : decode c_M_goes 30 = .ok (.iconst 0, 1) := by decide +kernel
theorem d_M_goes_31 : decode c_M_goes 31 = .ok (.ireturn, 1) := by decide +kernel
theorem d_M_goes_32 : decode c_M_goes 32 = .ok (.aload_n 0, 1) := by decide +kernel
theorem d_M_goes_33 : decode c_M_goes 33 = .ok (.getfield 39, 3) := by decide +kernel
theorem d_M_goes_36 : decode c_M_goes 36 = .ok (.iload_n 1, 1) := by decide +kernel
theorem d_M_goes_37 : decode c_M_goes 37 = .ok (.iaload, 1) := by decide +kernel
theorem d_M_goes_38 : decode c_M_goes 38 = .ok (.iconst 3, 1) := by decide +kernel
theorem d_M_goes_39 : decode c_M_goes 39 = .ok (.if_icmp .ne 16, 3) := by decide +kernel
theorem d_M_goes_42 : decode c_M_goes 42 = .ok (.aload_n 0, 1) := by decide +kernel
theorem d_M_goes_43 : decode c_M_goes 43 = .ok (.aload_n 0, 1) := by decide +kernel
theorem d_M_goes_44 : decode c_M_goes 44 = .ok (.getfield 48, 3) := by decide +kernel
theorem d_M_goes_47 : decode c_M_goes 47 = .ok (.iload_n 1, 1) := by decide +kernel
theorem d_M_goes_48 : decode c_M_goes 48 = .ok (.iaload, 1) := by decide +kernel
theorem d_M_goes_49 : decode c_M_goes 49 = .ok (.invokevirtual 151, 3) := by decide +kernel
theorem d_M_goes_52 : decode c_M_goes 52 = .ok (.goto 16, 3) := by decide +kernel
theorem d_M_goes_55 : decode c_M_goes 55 = .ok (.aload_n 0, 1) := by decide +kernel
theorem d_M_goes_56 : decode c_M_goes 56 = .ok (.iload_n 1, 1) := by decide +kernel
theorem d_M_goes_57 : decode c_M_goes 57 = .ok (.invokevirtual 184, 3) := by decide +kernel
theorem d_M_goes_60 : decode c_M_goes 60 = .ok (.ifCond .ne 7, 3) := by decide +kernel
theorem d_M_goes_63 : decode c_M_goes 63 = .ok (.iconst 1, 1) := by decide +kernel
theorem d_M_goes_64 : decode c_M_goes 64 = .ok (.goto 4, 3) := by decide +kernel
theorem d_M_goes_67 : decode c_M_goes 67 = .ok (.iconst 0, 1) := by decide +kernel
theorem d_M_goes_68 : decode c_M_goes 68 = .ok (.ireturn, 1) := by decide +kernel
theorem d_M_periodOf_0 : decode c_M_periodOf 0 = .ok (.aload_n 0, 1) := by decide +kernel
theorem d_M_periodOf_1 : decode c_M_periodOf 1 = .ok (.getfield 39, 3) := by decide +kernel
theorem d_M_periodOf_4 : decode c_M_periodOf 4 = .ok (.iload_n 1, 1) := by decide +kernel
theorem d_M_periodOf_5 : decode c_M_periodOf 5 = .ok (.iaload, 1) := by decide +kernel
theorem d_M_periodOf_6 : decode c_M_periodOf 6 = .ok (.iconst 3, 1) := by decide +kernel
theorem d_M_periodOf_7 : decode c_M_periodOf 7 = .ok (.if_icmp .ne 5, 3) := by decide +kernel
theorem d_M_periodOf_10 : decode c_M_periodOf 10 = .ok (.iconst 1, 1) := by decide +kernel
theorem d_M_periodOf_11 : decode c_M_periodOf 11 = .ok (.ireturn, 1) := by decide +kernel
theorem d_M_periodOf_12 : decode c_M_periodOf 12 = .ok (.iconst 0, 1) := by decide +kernel
theorem d_M_periodOf_13 : decode c_M_periodOf 13 = .ok (.istore_n 2, 1) := by decide +kernel
theorem d_M_periodOf_14 : decode c_M_periodOf 14 = .ok (.iconst 0, 1) := by decide +kernel
theorem d_M_periodOf_15 : decode c_M_periodOf 15 = .ok (.istore_n 3, 1) := by decide +kernel
theorem d_M_periodOf_16 : decode c_M_periodOf 16 = .ok (.iload_n 3, 1) := by decide +kernel
theorem d_M_periodOf_17 : decode c_M_periodOf 17 = .ok (.aload_n 0, 1) := by decide +kernel
theorem d_M_periodOf_18 : decode c_M_periodOf 18 = .ok (.getfield 60, 3) := by decide +kernel
theorem d_M_periodOf_21 : decode c_M_periodOf 21 = .ok (.iload_n 1, 1) := by decide +kernel
theorem d_M_periodOf_22 : decode c_M_periodOf 22 = .ok (.iaload, 1) := by decide +kernel
theorem d_M_periodOf_23 : decode c_M_periodOf 23 = .ok (.if_icmp .ge 36, 3) := by decide +kernel
theorem d_M_periodOf_26 : decode c_M_periodOf 26 = .ok (.iload_n 2, 1) := by decide +kernel
theorem d_M_periodOf_27 : decode c_M_periodOf 27 = .ok (.aload_n 0, 1) := by decide +kernel
theorem d_M_periodOf_28 : decode c_M_periodOf 28 = .ok (.iload_n 1, 1) := by decide +kernel
theorem d_M_periodOf_29 : decode c_M_periodOf 29 = .ok (.iload_n 3, 1) := by decide +kernel
theorem d_M_periodOf_30 : decode c_M_periodOf 30 = .ok (.invokevirtual 187, 3) := by decide +kernel
theorem d_M_periodOf_33 : decode c_M_periodOf 33 = .ok (.aload_n 0, 1) := by decide +kernel
theorem d_M_periodOf_34 : decode c_M_periodOf 34 = .ok (.getfield 23, 3) := by decide +kernel
theorem d_M_periodOf_37 : decode c_M_periodOf 37 = .ok (.aload_n 0, 1) := by decide +kernel
theorem d_M_periodOf_38 : decode c_M_periodOf 38 = .ok (.iload_n 1, 1) := by decide +kernel
theorem d_M_periodOf_39 : decode c_M_periodOf 39 = .ok (.iload_n 3, 1) := by decide +kernel
theorem d_M_periodOf_40 : decode c_M_periodOf 40 = .ok (.invokevirtual 175, 3) := by decide +kernel
theorem d_M_periodOf_43 : decode c_M_periodOf 43 = .ok (.iaload, 1) := by decide +kernel
theorem d_M_periodOf_44 : decode c_M_periodOf 44 = .ok (.aload_n 0, 1) := by decide +kernel
theorem d_M_periodOf_45 : decode c_M_periodOf 45 = .ok (.iload_n 1, 1) := by decide +kernel
theorem d_M_periodOf_46 : decode c_M_periodOf 46 = .ok (.invokevirtual 190, 3) := by decide +kernel
theorem d_M_periodOf_49 : decode c_M_periodOf 49 = .ok (.imul, 1) := by decide +kernel
theorem d_M_periodOf_50 : decode c_M_periodOf 50 = .ok (.iadd, 1) := by decide +kernel
theorem d_M_periodOf_51 : decode c_M_periodOf 51 = .ok (.iadd, 1) := by decide +kernel
theorem d_M_periodOf_52 : decode c_M_periodOf 52 = .ok (.istore_n 2, 1) := by decide +kernel
theorem d_M_periodOf_53 : decode c_M_periodOf 53 = .ok (.iinc 3 1, 3) := by decide +kernel
theorem d_M_periodOf_56 : decode c_M_periodOf 56 = .ok (.goto (-40), 3) := by decide +kernel
theorem d_M_periodOf_59 : decode c_M_periodOf 59 = .ok (.iload_n 2, 1) := by decide +kernel
theorem d_M_periodOf_60 : decode c_M_periodOf 60 = .ok (.ireturn, 1) := by decide +kernel
theorem d_M_toldOf_0 : decode c_M_toldOf 0 = .ok (.iload_n 2, 1) := by decide +kernel
theorem d_M_toldOf_1 : decode c_M_toldOf 1 = .ok (.tableswitch 95 0 5 #[39, 46, 52, 59, 74, 81], 39) := by decide +kernel
theorem d_M_toldOf_40 : decode c_M_toldOf 40 = .ok (.aload_n 0, 1) := by decide +kernel
theorem d_M_toldOf_41 : decode c_M_toldOf 41 = .ok (.getfield 39, 3) := by decide +kernel
theorem d_M_toldOf_44 : decode c_M_toldOf 44 = .ok (.iload_n 1, 1) := by decide +kernel
theorem d_M_toldOf_45 : decode c_M_toldOf 45 = .ok (.iaload, 1) := by decide +kernel
theorem d_M_toldOf_46 : decode c_M_toldOf 46 = .ok (.ireturn, 1) := by decide +kernel
theorem d_M_toldOf_47 : decode c_M_toldOf 47 = .ok (.aload_n 0, 1) := by decide +kernel
theorem d_M_toldOf_48 : decode c_M_toldOf 48 = .ok (.iload_n 1, 1) := by decide +kernel
theorem d_M_toldOf_49 : decode c_M_toldOf 49 = .ok (.invokevirtual 190, 3) := by decide +kernel
theorem d_M_toldOf_52 : decode c_M_toldOf 52 = .ok (.ireturn, 1) := by decide +kernel
theorem d_M_toldOf_53 : decode c_M_toldOf 53 = .ok (.aload_n 0, 1) := by decide +kernel
theorem d_M_toldOf_54 : decode c_M_toldOf 54 = .ok (.getfield 51, 3) := by decide +kernel
theorem d_M_toldOf_57 : decode c_M_toldOf 57 = .ok (.iload_n 1, 1) := by decide +kernel
theorem d_M_toldOf_58 : decode c_M_toldOf 58 = .ok (.iaload, 1) := by decide +kernel
theorem d_M_toldOf_59 : decode c_M_toldOf 59 = .ok (.ireturn, 1) := by decide +kernel
theorem d_M_toldOf_60 : decode c_M_toldOf 60 = .ok (.aload_n 0, 1) := by decide +kernel
theorem d_M_toldOf_61 : decode c_M_toldOf 61 = .ok (.getfield 54, 3) := by decide +kernel
theorem d_M_toldOf_64 : decode c_M_toldOf 64 = .ok (.iload_n 1, 1) := by decide +kernel
theorem d_M_toldOf_65 : decode c_M_toldOf 65 = .ok (.baload, 1) := by decide +kernel
theorem d_M_toldOf_66 : decode c_M_toldOf 66 = .ok (.ifCond .eq 7, 3) := by decide +kernel
theorem d_M_toldOf_69 : decode c_M_toldOf 69 = .ok (.iconst 1, 1) := by decide +kernel
theorem d_M_toldOf_70 : decode c_M_toldOf 70 = .ok (.goto 4, 3) := by decide +kernel
theorem d_M_toldOf_73 : decode c_M_toldOf 73 = .ok (.iconst 0, 1) := by decide +kernel
theorem d_M_toldOf_74 : decode c_M_toldOf 74 = .ok (.ireturn, 1) := by decide +kernel
theorem d_M_toldOf_75 : decode c_M_toldOf 75 = .ok (.aload_n 0, 1) := by decide +kernel
theorem d_M_toldOf_76 : decode c_M_toldOf 76 = .ok (.getfield 60, 3) := by decide +kernel
theorem d_M_toldOf_79 : decode c_M_toldOf 79 = .ok (.iload_n 1, 1) := by decide +kernel
theorem d_M_toldOf_80 : decode c_M_toldOf 80 = .ok (.iaload, 1) := by decide +kernel
theorem d_M_toldOf_81 : decode c_M_toldOf 81 = .ok (.ireturn, 1) := by decide +kernel
theorem d_M_toldOf_82 : decode c_M_toldOf 82 = .ok (.aload_n 0, 1) := by decide +kernel
theorem d_M_toldOf_83 : decode c_M_toldOf 83 = .ok (.iload_n 1, 1) := by decide +kernel
theorem d_M_toldOf_84 : decode c_M_toldOf 84 = .ok (.invokevirtual 193, 3) := by decide +kernel
theorem d_M_toldOf_87 : decode c_M_toldOf 87 = .ok (.ifCond .eq 7, 3) := by decide +kernel
theorem d_M_toldOf_90 : decode c_M_toldOf 90 = .ok (.iconst 1, 1) := by decide +kernel
theorem d_M_toldOf_91 : decode c_M_toldOf 91 = .ok (.goto 4, 3) := by decide +kernel
theorem d_M_toldOf_94 : decode c_M_toldOf 94 = .ok (.iconst 0, 1) := by decide +kernel
theorem d_M_toldOf_95 : decode c_M_toldOf 95 = .ok (.ireturn, 1) := by decide +kernel
theorem d_M_toldOf_96 : decode c_M_toldOf 96 = .ok (.aload_n 0, 1) := by decide +kernel
theorem d_M_toldOf_97 : decode c_M_toldOf 97 = .ok (.iload_n 1, 1) := by decide +kernel
theorem d_M_toldOf_98 : decode c_M_toldOf 98 = .ok (.invokevirtual 193, 3) := by decide +kernel
theorem d_M_toldOf_101 : decode c_M_toldOf 101 = .ok (.ifCond .eq 11, 3) := by decide +kernel
theorem d_M_toldOf_104 : decode c_M_toldOf 104 = .ok (.aload_n 0, 1) := by decide +kernel
theorem d_M_toldOf_105 : decode c_M_toldOf 105 = .ok (.iload_n 1, 1) := by decide +kernel
theorem d_M_toldOf_106 : decode c_M_toldOf 106 = .ok (.invokevirtual 196, 3) := by decide +kernel
theorem d_M_toldOf_109 : decode c_M_toldOf 109 = .ok (.goto 5, 3) := by decide +kernel
theorem d_M_toldOf_112 : decode c_M_toldOf 112 = .ok (.bipush (-9), 2) := by decide +kernel
theorem d_M_toldOf_114 : decode c_M_toldOf 114 = .ok (.ireturn, 1) := by decide +kernel
theorem d_M_told_0 : decode c_M_told 0 = .ok (.aload_n 0, 1) := by decide +kernel
theorem d_M_told_1 : decode c_M_told 1 = .ok (.iload_n 2, 1) := by decide +kernel
theorem d_M_told_2 : decode c_M_told 2 = .ok (.iconst 0, 1) := by decide +kernel
theorem d_M_told_3 : decode c_M_told 3 = .ok (.bipush 6, 2) := by decide +kernel
theorem d_M_told_5 : decode c_M_told 5 = .ok (.invokestatic 117, 3) := by decide +kernel
theorem d_M_told_8 : decode c_M_told 8 = .ok (.iload_n 1, 1) := by decide +kernel
theorem d_M_told_9 : decode c_M_told 9 = .ok (.invokevirtual 168, 3) := by decide +kernel
theorem d_M_told_12 : decode c_M_told 12 = .ok (.istore_n 3, 1) := by decide +kernel
theorem d_M_told_13 : decode c_M_told 13 = .ok (.iload_n 3, 1) := by decide +kernel
theorem d_M_told_14 : decode c_M_told 14 = .ok (.ifCond .ge 7, 3) := by decide +kernel
theorem d_M_told_17 : decode c_M_told 17 = .ok (.iload_n 3, 1) := by decide +kernel
theorem d_M_told_18 : decode c_M_told 18 = .ok (.goto 9, 3) := by decide +kernel
theorem d_M_told_21 : decode c_M_told 21 = .ok (.aload_n 0, 1) := by decide +kernel
theorem d_M_told_22 : decode c_M_told 22 = .ok (.iload_n 1, 1) := by decide +kernel
theorem d_M_told_23 : decode c_M_told 23 = .ok (.iload_n 2, 1) := by decide +kernel
theorem d_M_told_24 : decode c_M_told 24 = .ok (.invokevirtual 199, 3) := by decide +kernel
theorem d_M_told_27 : decode c_M_told 27 = .ok (.ireturn, 1) := by decide +kernel
theorem d_M_mark_0 : decode c_M_mark 0 = .ok (.aload_n 0, 1) := by decide +kernel
theorem d_M_mark_1 : decode c_M_mark 1 = .ok (.iload_n 2, 1) := by decide +kernel
theorem d_M_mark_2 : decode c_M_mark 2 = .ok (.iconst 0, 1) := by decide +kernel
theorem d_M_mark_3 : decode c_M_mark 3 = .ok (.iconst 3, 1) := by decide +kernel
theorem d_M_mark_4 : decode c_M_mark 4 = .ok (.invokestatic 117, 3) := by decide +kernel
theorem d_M_mark_7 : decode c_M_mark 7 = .ok (.iload_n 1, 1) := by decide +kernel
theorem d_M_mark_8 : decode c_M_mark 8 = .ok (.invokevirtual 168, 3) := by decide +kernel
theorem d_M_mark_11 : decode c_M_mark 11 = .ok (.istore_n 3, 1) := by decide +kernel
theorem d_M_mark_12 : decode c_M_mark 12 = .ok (.iload_n 3, 1) := by decide +kernel
theorem d_M_mark_13 : decode c_M_mark 13 = .ok (.ifCond .ge 5, 3) := by decide +kernel
theorem d_M_mark_16 : decode c_M_mark 16 = .ok (.iload_n 3, 1) := by decide +kernel
theorem d_M_mark_17 : decode c_M_mark 17 = .ok (.ireturn, 1) := by decide +kernel
theorem d_M_mark_18 : decode c_M_mark 18 = .ok (.iload_n 2, 1) := by decide +kernel
theorem d_M_mark_19 : decode c_M_mark 19 = .ok (.ifCond .eq 28, 3) := by decide +kernel
theorem d_M_mark_22 : decode c_M_mark 22 = .ok (.aload_n 0, 1) := by decide +kernel
theorem d_M_mark_23 : decode c_M_mark 23 = .ok (.getfield 39, 3) := by decide +kernel
theorem d_M_mark_26 : decode c_M_mark 26 = .ok (.iload_n 1, 1) := by decide +kernel
theorem d_M_mark_27 : decode c_M_mark 27 = .ok (.iaload, 1) := by decide +kernel
theorem d_M_mark_28 : decode c_M_mark 28 = .ok (.iload_n 2, 1) := by decide +kernel
theorem d_M_mark_29 : decode c_M_mark 29 = .ok (.if_icmp .eq 18, 3) := by decide +kernel
theorem d_M_mark_32 : decode c_M_mark 32 = .ok (.iload_n 2, 1) := by decide +kernel
theorem d_M_mark_33 : decode c_M_mark 33 = .ok (.iconst 1, 1) := by decide +kernel
theorem d_M_mark_34 : decode c_M_mark 34 = .ok (.if_icmp .ne 17, 3) := by decide +kernel
theorem d_M_mark_37 : decode c_M_mark 37 = .ok (.aload_n 0, 1) := by decide +kernel
theorem d_M_mark_38 : decode c_M_mark 38 = .ok (.getfield 39, 3) := by decide +kernel
theorem d_M_mark_41 : decode c_M_mark 41 = .ok (.iload_n 1, 1) := by decide +kernel
theorem d_M_mark_42 : decode c_M_mark 42 = .ok (.iaload, 1) := by decide +kernel
theorem d_M_mark_43 : decode c_M_mark 43 = .ok (.iconst 2, 1) := by decide +kernel
theorem d_M_mark_44 : decode c_M_mark 44 = .ok (.if_icmp .ne 7, 3) := by decide +kernel
theorem d_M_mark_47 : decode c_M_mark 47 = .ok (.iconst 1, 1) := by decide +kernel
theorem d_M_mark_48 : decode c_M_mark 48 = .ok (.goto 4, 3) := by decide +kernel
theorem d_M_mark_51 : decode c_M_mark 51 = .ok (.iconst 0, 1) := by decide +kernel
theorem d_M_mark_52 : decode c_M_mark 52 = .ok (.istore 4, 2) := by decide +kernel
theorem d_M_mark_54 : decode c_M_mark 54 = .ok (.iload 4, 2) := by decide +kernel
theorem d_M_mark_56 : decode c_M_mark 56 = .ok (.ifCond .ne 9, 3) := by decide +kernel
theorem d_M_mark_59 : decode c_M_mark 59 = .ok (.aload_n 0, 1) := by decide +kernel
theorem d_M_mark_60 : decode c_M_mark 60 = .ok (.iconst 3, 1) := by decide +kernel
theorem d_M_mark_61 : decode c_M_mark 61 = .ok (.invokevirtual 135, 3) := by decide +kernel
theorem d_M_mark_64 : decode c_M_mark 64 = .ok (.ireturn, 1) := by decide +kernel
theorem d_M_mark_65 : decode c_M_mark 65 = .ok (.iload_n 2, 1) := by decide +kernel
theorem d_M_mark_66 : decode c_M_mark 66 = .ok (.ifCond .ne 12, 3) := by decide +kernel
theorem d_M_mark_69 : decode c_M_mark 69 = .ok (.aload_n 0, 1) := by decide +kernel
theorem d_M_mark_70 : decode c_M_mark 70 = .ok (.getfield 69, 3) := by decide +kernel
theorem d_M_mark_73 : decode c_M_mark 73 = .ok (.iload_n 1, 1) := by decide +kernel
theorem d_M_mark_74 : decode c_M_mark 74 = .ok (.iaload, 1) := by decide +kernel
theorem d_M_mark_75 : decode c_M_mark 75 = .ok (.goto 37, 3) := by decide +kernel
theorem d_M_mark_78 : decode c_M_mark 78 = .ok (.iload_n 2, 1) := by decide +kernel
theorem d_M_mark_79 : decode c_M_mark 79 = .ok (.iconst 1, 1) := by decide +kernel
theorem d_M_mark_80 : decode c_M_mark 80 = .ok (.if_icmp .ne 12, 3) := by decide +kernel
theorem d_M_mark_83 : decode c_M_mark 83 = .ok (.aload_n 0, 1) := by decide +kernel
theorem d_M_mark_84 : decode c_M_mark 84 = .ok (.getfield 42, 3) := by decide +kernel
theorem d_M_mark_87 : decode c_M_mark 87 = .ok (.iload_n 1, 1) := by decide +kernel
theorem d_M_mark_88 : decode c_M_mark 88 = .ok (.iaload, 1) := by decide +kernel
theorem d_M_mark_89 : decode c_M_mark 89 = .ok (.goto 23, 3) := by decide +kernel
theorem d_M_mark_92 : decode c_M_mark 92 = .ok (.iload_n 2, 1) := by decide +kernel
theorem d_M_mark_93 : decode c_M_mark 93 = .ok (.iconst 2, 1) := by decide +kernel
theorem d_M_mark_94 : decode c_M_mark 94 = .ok (.if_icmp .ne 12, 3) := by decide +kernel
theorem d_M_mark_97 : decode c_M_mark 97 = .ok (.aload_n 0, 1) := by decide +kernel
theorem d_M_mark_98 : decode c_M_mark 98 = .ok (.getfield 45, 3) := by decide +kernel
theorem d_M_mark_101 : decode c_M_mark 101 = .ok (.iload_n 1, 1) := by decide +kernel
theorem d_M_mark_102 : decode c_M_mark 102 = .ok (.iaload, 1) := by decide +kernel
theorem d_M_mark_103 : decode c_M_mark 103 = .ok (.goto 9, 3) := by decide +kernel
theorem d_M_mark_106 : decode c_M_mark 106 = .ok (.aload_n 0, 1) := by decide +kernel
theorem d_M_mark_107 : decode c_M_mark 107 = .ok (.getfield 48, 3) := by decide +kernel
theorem d_M_mark_110 : decode c_M_mark 110 = .ok (.iload_n 1, 1) := by decide +kernel
theorem d_M_mark_111 : decode c_M_mark 111 = .ok (.iaload, 1) := by decide +kernel
theorem d_M_mark_112 : decode c_M_mark 112 = .ok (.ireturn, 1) := by decide +kernel
theorem d_M_plan_0 : decode c_M_plan 0 = .ok (.aload_n 0, 1) := by decide +kernel
theorem d_M_plan_1 : decode c_M_plan 1 = .ok (.iload_n 1, 1) := by decide +kernel
theorem d_M_plan_2 : decode c_M_plan 2 = .ok (.invokevirtual 165, 3) := by decide +kernel
theorem d_M_plan_5 : decode c_M_plan 5 = .ok (.ifCond .eq 35, 3) := by decide +kernel
theorem d_M_plan_8 : decode c_M_plan 8 = .ok (.iload_n 2, 1) := by decide +kernel
theorem d_M_plan_9 : decode c_M_plan 9 = .ok (.invokestatic 131, 3) := by decide +kernel
theorem d_M_plan_12 : decode c_M_plan 12 = .ok (.ifCond .eq 28, 3) := by decide +kernel
theorem d_M_plan_15 : decode c_M_plan 15 = .ok (.iload_n 3, 1) := by decide +kernel
theorem d_M_plan_16 : decode c_M_plan 16 = .ok (.bipush (-9), 2) := by decide +kernel
theorem d_M_plan_18 : decode c_M_plan 18 = .ok (.if_icmp .eq 10, 3) := by decide +kernel
theorem d_M_plan_21 : decode c_M_plan 21 = .ok (.iload_n 3, 1) := by decide +kernel
theorem d_M_plan_22 : decode c_M_plan 22 = .ok (.invokestatic 131, 3) := by decide +kernel
theorem d_M_plan_25 : decode c_M_plan 25 = .ok (.ifCond .eq 15, 3) := by decide +kernel
theorem d_M_plan_28 : decode c_M_plan 28 = .ok (.iload 4, 2) := by decide +kernel
theorem d_M_plan_30 : decode c_M_plan 30 = .ok (.iconst 0, 1) := by decide +kernel
theorem d_M_plan_31 : decode c_M_plan 31 = .ok (.sipush 14399, 3) := by decide +kernel
theorem d_M_plan_34 : decode c_M_plan 34 = .ok (.invokestatic 117, 3) := by decide +kernel
theorem d_M_plan_37 : decode c_M_plan 37 = .ok (.ifCond .ne 5, 3) := by decide +kernel
theorem d_M_plan_40 : decode c_M_plan 40 = .ok (.iconst (-1), 1) := by decide +kernel
theorem d_M_plan_41 : decode c_M_plan 41 = .ok (.ireturn, 1) := by decide +kernel
theorem d_M_plan_42 : decode c_M_plan 42 = .ok (.aload_n 0, 1) := by decide +kernel
theorem d_M_plan_43 : decode c_M_plan 43 = .ok (.getfield 57, 3) := by decide +kernel
theorem d_M_plan_46 : decode c_M_plan 46 = .ok (.iload_n 1, 1) := by decide +kernel
theorem d_M_plan_47 : decode c_M_plan 47 = .ok (.baload, 1) := by decide +kernel
theorem d_M_plan_48 : decode c_M_plan 48 = .ok (.ifCond .ne 27, 3) := by decide +kernel
theorem d_M_plan_51 : decode c_M_plan 51 = .ok (.aload_n 0, 1) := by decide +kernel
theorem d_M_plan_52 : decode c_M_plan 52 = .ok (.getfield 13, 3) := by decide +kernel
theorem d_M_plan_55 : decode c_M_plan 55 = .ok (.iload_n 2, 1) := by decide +kernel
theorem d_M_plan_56 : decode c_M_plan 56 = .ok (.iaload, 1) := by decide +kernel
theorem d_M_plan_57 : decode c_M_plan 57 = .ok (.ifCond .lt 18, 3) := by decide +kernel
theorem d_M_plan_60 : decode c_M_plan 60 = .ok (.iload_n 3, 1) := by decide +kernel
theorem d_M_plan_61 : decode c_M_plan 61 = .ok (.bipush (-9), 2) := by decide +kernel
theorem d_M_plan_63 : decode c_M_plan 63 = .ok (.if_icmp .eq 18, 3) := by decide +kernel
theorem d_M_plan_66 : decode c_M_plan 66 = .ok (.aload_n 0, 1) := by decide +kernel
theorem d_M_plan_67 : decode c_M_plan 67 = .ok (.getfield 13, 3) := by decide +kernel
theorem d_M_plan_70 : decode c_M_plan 70 = .ok (.iload_n 3, 1) := by decide +kernel
theorem d_M_plan_71 : decode c_M_plan 71 = .ok (.iaload, 1) := by decide +kernel
theorem d_M_plan_72 : decode c_M_plan 72 = .ok (.ifCond .ge 9, 3) := by decide +kernel
theorem d_M_plan_75 : decode c_M_plan 75 = .ok (.aload_n 0, 1) := by decide +kernel
theorem d_M_plan_76 : decode c_M_plan 76 = .ok (.iconst 1, 1) := by decide +kernel
theorem d_M_plan_77 : decode c_M_plan 77 = .ok (.invokevirtual 135, 3) := by decide +kernel
theorem d_M_plan_80 : decode c_M_plan 80 = .ok (.ireturn, 1) := by decide +kernel
theorem d_M_plan_81 : decode c_M_plan 81 = .ok (.aload_n 0, 1) := by decide +kernel
theorem d_M_plan_82 : decode c_M_plan 82 = .ok (.getfield 39, 3) := by decide +kernel
theorem d_M_plan_85 : decode c_M_plan 85 = .ok (.iload_n 1, 1) := by decide +kernel
theorem d_M_plan_86 : decode c_M_plan 86 = .ok (.iaload, 1) := by decide +kernel
theorem d_M_plan_87 : decode c_M_plan 87 = .ok (.iconst 3, 1) := by decide +kernel
theorem d_M_plan_88 : decode c_M_plan 88 = .ok (.if_icmp .ne 9, 3) := by decide +kernel
theorem d_M_plan_91 : decode c_M_plan 91 = .ok (.aload_n 0, 1) := by decide +kernel
theorem d_M_plan_92 : decode c_M_plan 92 = .ok (.iconst 3, 1) := by decide +kernel
theorem d_M_plan_93 : decode c_M_plan 93 = .ok (.invokevirtual 135, 3) := by decide +kernel
theorem d_M_plan_96 : decode c_M_plan 96 = .ok (.ireturn, 1) := by decide +kernel
theorem d_M_plan_97 : decode c_M_plan 97 = .ok (.aload_n 0, 1) := by decide +kernel
theorem d_M_plan_98 : decode c_M_plan 98 = .ok (.getfield 13, 3) := by decide +kernel
theorem d_M_plan_101 : decode c_M_plan 101 = .ok (.iload_n 2, 1) := by decide +kernel
theorem d_M_plan_102 : decode c_M_plan 102 = .ok (.iaload, 1) := by decide +kernel
theorem d_M_plan_103 : decode c_M_plan 103 = .ok (.istore 5, 2) := by decide +kernel
theorem d_M_plan_105 : decode c_M_plan 105 = .ok (.iload 5, 2) := by decide +kernel
theorem d_M_plan_107 : decode c_M_plan 107 = .ok (.iconst 2, 1) := by decide +kernel
theorem d_M_plan_108 : decode c_M_plan 108 = .ok (.bipush 24, 2) := by decide +kernel
theorem d_M_plan_110 : decode c_M_plan 110 = .ok (.invokestatic 117, 3) := by decide +kernel
theorem d_M_plan_113 : decode c_M_plan 113 = .ok (.ifCond .ne 9, 3) := by decide +kernel
theorem d_M_plan_116 : decode c_M_plan 116 = .ok (.aload_n 0, 1) := by decide +kernel
theorem d_M_plan_117 : decode c_M_plan 117 = .ok (.iconst 5, 1) := by decide +kernel
theorem d_M_plan_118 : decode c_M_plan 118 = .ok (.invokevirtual 135, 3) := by decide +kernel
theorem d_M_plan_121 : decode c_M_plan 121 = .ok (.ireturn, 1) := by decide +kernel
theorem d_M_plan_122 : decode c_M_plan 122 = .ok (.iconst 1, 1) := by decide +kernel
theorem d_M_plan_123 : decode c_M_plan 123 = .ok (.istore 6, 2) := by decide +kernel
theorem d_M_plan_125 : decode c_M_plan 125 = .ok (.iconst 0, 1) := by decide +kernel
theorem d_M_plan_126 : decode c_M_plan 126 = .ok (.istore 7, 2) := by decide +kernel
theorem d_M_plan_128 : decode c_M_plan 128 = .ok (.iload 7, 2) := by decide +kernel
theorem d_M_plan_130 : decode c_M_plan 130 = .ok (.iload 5, 2) := by decide +kernel
theorem d_M_plan_132 : decode c_M_plan 132 = .ok (.if_icmp .ge 59, 3) := by decide +kernel
theorem d_M_plan_135 : decode c_M_plan 135 = .ok (.iload 6, 2) := by decide +kernel
theorem d_M_plan_137 : decode c_M_plan 137 = .ok (.ifCond .eq 45, 3) := by decide +kernel
theorem d_M_plan_140 : decode c_M_plan 140 = .ok (.aload_n 0, 1) := by decide +kernel
theorem d_M_plan_141 : decode c_M_plan 141 = .ok (.iload_n 2, 1) := by decide +kernel
theorem d_M_plan_142 : decode c_M_plan 142 = .ok (.iload 7, 2) := by decide +kernel
theorem d_M_plan_144 : decode c_M_plan 144 = .ok (.invokevirtual 139, 3) := by decide +kernel
theorem d_M_plan_147 : decode c_M_plan 147 = .ok (.iconst 0, 1) := by decide +kernel
theorem d_M_plan_148 : decode c_M_plan 148 = .ok (.bipush 15, 2) := by decide +kernel
theorem d_M_plan_150 : decode c_M_plan 150 = .ok (.invokestatic 117, 3) := by decide +kernel
theorem d_M_plan_153 : decode c_M_plan 153 = .ok (.ifCond .eq 29, 3) := by decide +kernel
theorem d_M_plan_156 : decode c_M_plan 156 = .ok (.aload_n 0, 1) := by decide +kernel
theorem d_M_plan_157 : decode c_M_plan 157 = .ok (.iload_n 2, 1) := by decide +kernel
theorem d_M_plan_158 : decode c_M_plan 158 = .ok (.iload 7, 2) := by decide +kernel
theorem d_M_plan_160 : decode c_M_plan 160 = .ok (.invokevirtual 139, 3) := by decide +kernel
theorem d_M_plan_163 : decode c_M_plan 163 = .ok (.aload_n 0, 1) := by decide +kernel
theorem d_M_plan_164 : decode c_M_plan 164 = .ok (.iload_n 2, 1) := by decide +kernel
theorem d_M_plan_165 : decode c_M_plan 165 = .ok (.iload 7, 2) := by decide +kernel
theorem d_M_plan_167 : decode c_M_plan 167 = .ok (.iconst 1, 1) := by decide +kernel
theorem d_M_plan_168 : decode c_M_plan 168 = .ok (.iadd, 1) := by decide +kernel
theorem d_M_plan_169 : decode c_M_plan 169 = .ok (.iload 5, 2) := by decide +kernel
theorem d_M_plan_171 : decode c_M_plan 171 = .ok (.irem, 1) := by decide +kernel
theorem d_M_plan_172 : decode c_M_plan 172 = .ok (.invokevirtual 139, 3) := by decide +kernel
theorem d_M_plan_175 : decode c_M_plan 175 = .ok (.if_icmp .eq 7, 3) := by decide +kernel
theorem d_M_plan_178 : decode c_M_plan 178 = .ok (.iconst 1, 1) := by decide +kernel
theorem d_M_plan_179 : decode c_M_plan 179 = .ok (.goto 4, 3) := by decide +kernel
theorem d_M_plan_182 : decode c_M_plan 182 = .ok (.iconst 0, 1) := by decide +kernel
theorem d_M_plan_183 : decode c_M_plan 183 = .ok (.istore 6, 2) := by decide +kernel
theorem d_M_plan_185 : decode c_M_plan 185 = .ok (.iinc 7 1, 3) := by decide +kernel
theorem d_M_plan_188 : decode c_M_plan 188 = .ok (.goto (-60), 3) := by decide +kernel
theorem d_M_plan_191 : decode c_M_plan 191 = .ok (.iload 6, 2) := by decide +kernel
theorem d_M_plan_193 : decode c_M_plan 193 = .ok (.ifCond .ne 9, 3) := by decide +kernel
theorem d_M_plan_196 : decode c_M_plan 196 = .ok (.aload_n 0, 1) := by decide +kernel
theorem d_M_plan_197 : decode c_M_plan 197 = .ok (.iconst 2, 1) := by decide +kernel
theorem d_M_plan_198 : decode c_M_plan 198 = .ok (.invokevirtual 135, 3) := by decide +kernel
theorem d_M_plan_201 : decode c_M_plan 201 = .ok (.ireturn, 1) := by decide +kernel
theorem d_M_plan_202 : decode c_M_plan 202 = .ok (.iconst 0, 1) := by decide +kernel
theorem d_M_plan_203 : decode c_M_plan 203 = .ok (.istore 7, 2) := by decide +kernel
theorem d_M_plan_205 : decode c_M_plan 205 = .ok (.iload 7, 2) := by decide +kernel
theorem d_M_plan_207 : decode c_M_plan 207 = .ok (.iload 5, 2) := by decide +kernel
theorem d_M_plan_209 : decode c_M_plan 209 = .ok (.if_icmp .ge 81, 3) := by decide +kernel
theorem d_M_plan_212 : decode c_M_plan 212 = .ok (.iload_n 3, 1) := by decide +kernel
theorem d_M_plan_213 : decode c_M_plan 213 = .ok (.bipush (-9), 2) := by decide +kernel
theorem d_M_plan_215 : decode c_M_plan 215 = .ok (.if_icmp .eq 14, 3) := by decide +kernel
theorem d_M_plan_218 : decode c_M_plan 218 = .ok (.iload 7, 2) := by decide +kernel
theorem d_M_plan_220 : decode c_M_plan 220 = .ok (.aload_n 0, 1) := by decide +kernel
theorem d_M_plan_221 : decode c_M_plan 221 = .ok (.getfield 13, 3) := by decide +kernel
theorem d_M_plan_224 : decode c_M_plan 224 = .ok (.iload_n 3, 1) := by decide +kernel
theorem d_M_plan_225 : decode c_M_plan 225 = .ok (.iaload, 1) := by decide +kernel
theorem d_M_plan_226 : decode c_M_plan 226 = .ok (.if_icmp .lt 7, 3) := by decide +kernel
theorem d_M_plan_229 : decode c_M_plan 229 = .ok (.iconst 0, 1) := by decide +kernel
theorem d_M_plan_230 : decode c_M_plan 230 = .ok (.goto 10, 3) := by decide +kernel
theorem d_M_plan_233 : decode c_M_plan 233 = .ok (.aload_n 0, 1) := by decide +kernel
theorem d_M_plan_234 : decode c_M_plan 234 = .ok (.iload_n 3, 1) := by decide +kernel
theorem d_M_plan_235 : decode c_M_plan 235 = .ok (.iload 7, 2) := by decide +kernel
theorem d_M_plan_237 : decode c_M_plan 237 = .ok (.invokevirtual 139, 3) := by decide +kernel
theorem d_M_plan_240 : decode c_M_plan 240 = .ok (.istore 8, 2) := by decide +kernel
theorem d_M_plan_242 : decode c_M_plan 242 = .ok (.aload_n 0, 1) := by decide +kernel
theorem d_M_plan_243 : decode c_M_plan 243 = .ok (.getfield 63, 3) := by decide +kernel
theorem d_M_plan_246 : decode c_M_plan 246 = .ok (.bipush 24, 2) := by decide +kernel
theorem d_M_plan_248 : decode c_M_plan 248 = .ok (.iload_n 1, 1) := by decide +kernel
theorem d_M_plan_249 : decode c_M_plan 249 = .ok (.imul, 1) := by decide +kernel
theorem d_M_plan_250 : decode c_M_plan 250 = .ok (.iload 7, 2) := by decide +kernel
theorem d_M_plan_252 : decode c_M_plan 252 = .ok (.iadd, 1) := by decide +kernel
theorem d_M_plan_253 : decode c_M_plan 253 = .ok (.aload_n 0, 1) := by decide +kernel
theorem d_M_plan_254 : decode c_M_plan 254 = .ok (.iload_n 2, 1) := by decide +kernel
theorem d_M_plan_255 : decode c_M_plan 255 = .ok (.iload 7, 2) := by decide +kernel
theorem d_M_plan_257 : decode c_M_plan 257 = .ok (.invokevirtual 139, 3) := by decide +kernel
theorem d_M_plan_260 : decode c_M_plan 260 = .ok (.iastore, 1) := by decide +kernel
theorem d_M_plan_261 : decode c_M_plan 261 = .ok (.aload_n 0, 1) := by decide +kernel
theorem d_M_plan_262 : decode c_M_plan 262 = .ok (.getfield 66, 3) := by decide +kernel
theorem d_M_plan_265 : decode c_M_plan 265 = .ok (.bipush 24, 2) := by decide +kernel
theorem d_M_plan_267 : decode c_M_plan 267 = .ok (.iload_n 1, 1) := by decide +kernel
theorem d_M_plan_268 : decode c_M_plan 268 = .ok (.imul, 1) := by decide +kernel
theorem d_M_plan_269 : decode c_M_plan 269 = .ok (.iload 7, 2) := by decide +kernel
theorem d_M_plan_271 : decode c_M_plan 271 = .ok (.iadd, 1) := by decide +kernel
theorem d_M_plan_272 : decode c_M_plan 272 = .ok (.iload 8, 2) := by decide +kernel
theorem d_M_plan_274 : decode c_M_plan 274 = .ok (.ifCond .ge 7, 3) := by decide +kernel
theorem d_M_plan_277 : decode c_M_plan 277 = .ok (.iconst 0, 1) := by decide +kernel
theorem d_M_plan_278 : decode c_M_plan 278 = .ok (.goto 5, 3) := by decide +kernel
theorem d_M_plan_281 : decode c_M_plan 281 = .ok (.iload 8, 2) := by decide +kernel
theorem d_M_plan_283 : decode c_M_plan 283 = .ok (.iastore, 1) := by decide +kernel
theorem d_M_plan_284 : decode c_M_plan 284 = .ok (.iinc 7 1, 3) := by decide +kernel
theorem d_M_plan_287 : decode c_M_plan 287 = .ok (.goto (-82), 3) := by decide +kernel
theorem d_M_plan_290 : decode c_M_plan 290 = .ok (.aload_n 0, 1) := by decide +kernel
theorem d_M_plan_291 : decode c_M_plan 291 = .ok (.getfield 60, 3) := by decide +kernel
theorem d_M_plan_294 : decode c_M_plan 294 = .ok (.iload_n 1, 1) := by decide +kernel
theorem d_M_plan_295 : decode c_M_plan 295 = .ok (.iload 5, 2) := by decide +kernel
theorem d_M_plan_297 : decode c_M_plan 297 = .ok (.iastore, 1) := by decide +kernel
theorem d_M_plan_298 : decode c_M_plan 298 = .ok (.aload_n 0, 1) := by decide +kernel
theorem d_M_plan_299 : decode c_M_plan 299 = .ok (.getfield 69, 3) := by decide +kernel
theorem d_M_plan_302 : decode c_M_plan 302 = .ok (.iload_n 1, 1) := by decide +kernel
theorem d_M_plan_303 : decode c_M_plan 303 = .ok (.iload 4, 2) := by decide +kernel
theorem d_M_plan_305 : decode c_M_plan 305 = .ok (.iastore, 1) := by decide +kernel
theorem d_M_plan_306 : decode c_M_plan 306 = .ok (.iload 5, 2) := by decide +kernel
theorem d_M_plan_308 : decode c_M_plan 308 = .ok (.ireturn, 1) := by decide +kernel
theorem d_M_unplan_0 : decode c_M_unplan 0 = .ok (.aload_n 0, 1) := by decide +kernel
theorem d_M_unplan_1 : decode c_M_unplan 1 = .ok (.iconst 1, 1) := by decide +kernel
theorem d_M_unplan_2 : decode c_M_unplan 2 = .ok (.iload_n 1, 1) := by decide +kernel
theorem d_M_unplan_3 : decode c_M_unplan 3 = .ok (.invokevirtual 168, 3) := by decide +kernel
theorem d_M_unplan_6 : decode c_M_unplan 6 = .ok (.istore_n 2, 1) := by decide +kernel
theorem d_M_unplan_7 : decode c_M_unplan 7 = .ok (.iload_n 2, 1) := by decide +kernel
theorem d_M_unplan_8 : decode c_M_unplan 8 = .ok (.ifCond .ge 5, 3) := by decide +kernel
theorem d_M_unplan_11 : decode c_M_unplan 11 = .ok (.iload_n 2, 1) := by decide +kernel
theorem d_M_unplan_12 : decode c_M_unplan 12 = .ok (.ireturn, 1) := by decide +kernel
theorem d_M_unplan_13 : decode c_M_unplan 13 = .ok (.aload_n 0, 1) := by decide +kernel
theorem d_M_unplan_14 : decode c_M_unplan 14 = .ok (.getfield 60, 3) := by decide +kernel
theorem d_M_unplan_17 : decode c_M_unplan 17 = .ok (.iload_n 1, 1) := by decide +kernel
theorem d_M_unplan_18 : decode c_M_unplan 18 = .ok (.iaload, 1) := by decide +kernel
theorem d_M_unplan_19 : decode c_M_unplan 19 = .ok (.istore_n 3, 1) := by decide +kernel
theorem d_M_unplan_20 : decode c_M_unplan 20 = .ok (.aload_n 0, 1) := by decide +kernel
theorem d_M_unplan_21 : decode c_M_unplan 21 = .ok (.getfield 60, 3) := by decide +kernel
theorem d_M_unplan_24 : decode c_M_unplan 24 = .ok (.iload_n 1, 1) := by decide +kernel
theorem d_M_unplan_25 : decode c_M_unplan 25 = .ok (.iconst 0, 1) := by decide +kernel
theorem d_M_unplan_26 : decode c_M_unplan 26 = .ok (.iastore, 1) := by decide +kernel
theorem d_M_unplan_27 : decode c_M_unplan 27 = .ok (.aload_n 0, 1) := by decide +kernel
theorem d_M_unplan_28 : decode c_M_unplan 28 = .ok (.getfield 69, 3) := by decide +kernel
theorem d_M_unplan_31 : decode c_M_unplan 31 = .ok (.iload_n 1, 1) := by decide +kernel
theorem d_M_unplan_32 : decode c_M_unplan 32 = .ok (.bipush (-9), 2) := by decide +kernel
theorem d_M_unplan_34 : decode c_M_unplan 34 = .ok (.iastore, 1) := by decide +kernel
theorem d_M_unplan_35 : decode c_M_unplan 35 = .ok (.iload_n 3, 1) := by decide +kernel
theorem d_M_unplan_36 : decode c_M_unplan 36 = .ok (.ireturn, 1) := by decide +kernel
theorem d_M_planned_0 : decode c_M_planned 0 = .ok (.aload_n 0, 1) := by decide +kernel
theorem d_M_planned_1 : decode c_M_planned 1 = .ok (.iconst 1, 1) := by decide +kernel
theorem d_M_planned_2 : decode c_M_planned 2 = .ok (.iload_n 1, 1) := by decide +kernel
theorem d_M_planned_3 : decode c_M_planned 3 = .ok (.invokevirtual 168, 3) := by decide +kernel
theorem d_M_planned_6 : decode c_M_planned 6 = .ok (.istore 4, 2) := by decide +kernel
theorem d_M_planned_8 : decode c_M_planned 8 = .ok (.iload 4, 2) := by decide +kernel
theorem d_M_planned_10 : decode c_M_planned 10 = .ok (.ifCond .ge 6, 3) := by decide +kernel
theorem d_M_planned_13 : decode c_M_planned 13 = .ok (.iload 4, 2) := by decide +kernel
theorem d_M_planned_15 : decode c_M_planned 15 = .ok (.ireturn, 1) := by decide +kernel
theorem d_M_planned_16 : decode c_M_planned 16 = .ok (.iload_n 2, 1) := by decide +kernel
theorem d_M_planned_17 : decode c_M_planned 17 = .ok (.iconst 0, 1) := by decide +kernel
theorem d_M_planned_18 : decode c_M_planned 18 = .ok (.aload_n 0, 1) := by decide +kernel
theorem d_M_planned_19 : decode c_M_planned 19 = .ok (.getfield 60, 3) := by decide +kernel
theorem d_M_planned_22 : decode c_M_planned 22 = .ok (.iload_n 1, 1) := by decide +kernel
theorem d_M_planned_23 : decode c_M_planned 23 = .ok (.iaload, 1) := by decide +kernel
theorem d_M_planned_24 : decode c_M_planned 24 = .ok (.iconst 1, 1) := by decide +kernel
theorem d_M_planned_25 : decode c_M_planned 25 = .ok (.isub, 1) := by decide +kernel
theorem d_M_planned_26 : decode c_M_planned 26 = .ok (.invokestatic 117, 3) := by decide +kernel
theorem d_M_planned_29 : decode c_M_planned 29 = .ok (.ifCond .ne 11, 3) := by decide +kernel
theorem d_M_planned_32 : decode c_M_planned 32 = .ok (.aload_n 0, 1) := by decide +kernel
theorem d_M_planned_33 : decode c_M_planned 33 = .ok (.iconst 2, 1) := by decide +kernel
theorem d_M_planned_34 : decode c_M_planned 34 = .ok (.invokevirtual 135, 3) := by decide +kernel
theorem d_M_planned_37 : decode c_M_planned 37 = .ok (.goto 22, 3) := by decide +kernel
theorem d_M_planned_40 : decode c_M_planned 40 = .ok (.iload_n 3, 1) := by decide +kernel
theorem d_M_planned_41 : decode c_M_planned 41 = .ok (.ifCond .eq 12, 3) := by decide +kernel
theorem d_M_planned_44 : decode c_M_planned 44 = .ok (.aload_n 0, 1) := by decide +kernel
theorem d_M_planned_45 : decode c_M_planned 45 = .ok (.iload_n 1, 1) := by decide +kernel
theorem d_M_planned_46 : decode c_M_planned 46 = .ok (.iload_n 2, 1) := by decide +kernel
theorem d_M_planned_47 : decode c_M_planned 47 = .ok (.invokevirtual 187, 3) := by decide +kernel
theorem d_M_planned_50 : decode c_M_planned 50 = .ok (.goto 9, 3) := by decide +kernel
theorem d_M_planned_53 : decode c_M_planned 53 = .ok (.aload_n 0, 1) := by decide +kernel
theorem d_M_planned_54 : decode c_M_planned 54 = .ok (.iload_n 1, 1) := by decide +kernel
theorem d_M_planned_55 : decode c_M_planned 55 = .ok (.iload_n 2, 1) := by decide +kernel
theorem d_M_planned_56 : decode c_M_planned 56 = .ok (.invokevirtual 172, 3) := by decide +kernel
theorem d_M_planned_59 : decode c_M_planned 59 = .ok (.ireturn, 1) := by decide +kernel
theorem d_M_fit_0 : decode c_M_fit 0 = .ok (.aload_n 0, 1) := by decide +kernel
theorem d_M_fit_1 : decode c_M_fit 1 = .ok (.iconst 1, 1) := by decide +kernel
theorem d_M_fit_2 : decode c_M_fit 2 = .ok (.iload_n 1, 1) := by decide +kernel
theorem d_M_fit_3 : decode c_M_fit 3 = .ok (.invokevirtual 168, 3) := by decide +kernel
theorem d_M_fit_6 : decode c_M_fit 6 = .ok (.istore_n 2, 1) := by decide +kernel
theorem d_M_fit_7 : decode c_M_fit 7 = .ok (.iload_n 2, 1) := by decide +kernel
theorem d_M_fit_8 : decode c_M_fit 8 = .ok (.ifCond .ge 7, 3) := by decide +kernel
theorem d_M_fit_11 : decode c_M_fit 11 = .ok (.iload_n 2, 1) := by decide +kernel
theorem d_M_fit_12 : decode c_M_fit 12 = .ok (.goto 8, 3) := by decide +kernel
theorem d_M_fit_15 : decode c_M_fit 15 = .ok (.aload_n 0, 1) := by decide +kernel
theorem d_M_fit_16 : decode c_M_fit 16 = .ok (.iload_n 1, 1) := by decide +kernel
theorem d_M_fit_17 : decode c_M_fit 17 = .ok (.invokevirtual 184, 3) := by decide +kernel
theorem d_M_fit_20 : decode c_M_fit 20 = .ok (.ireturn, 1) := by decide +kernel
theorem d_M_find_0 : decode c_M_find 0 = .ok (.aload_n 0, 1) := by decide +kernel
theorem d_M_find_1 : decode c_M_find 1 = .ok (.iconst 0, 1) := by decide +kernel
theorem d_M_find_2 : decode c_M_find 2 = .ok (.putfield 202, 3) := by decide +kernel
theorem d_M_find_5 : decode c_M_find 5 = .ok (.aload_n 0, 1) := by decide +kernel
theorem d_M_find_6 : decode c_M_find 6 = .ok (.getfield 39, 3) := by decide +kernel
theorem d_M_find_9 : decode c_M_find 9 = .ok (.iload_n 1, 1) := by decide +kernel
theorem d_M_find_10 : decode c_M_find 10 = .ok (.iaload, 1) := by decide +kernel
theorem d_M_find_11 : decode c_M_find 11 = .ok (.iconst 3, 1) := by decide +kernel
theorem d_M_find_12 : decode c_M_find 12 = .ok (.if_icmp .ne 24, 3) := by decide +kernel
theorem d_M_find_15 : decode c_M_find 15 = .ok (.aload_n 0, 1) := by decide +kernel
theorem d_M_find_16 : decode c_M_find 16 = .ok (.aload_n 0, 1) := by decide +kernel
theorem d_M_find_17 : decode c_M_find 17 = .ok (.getfield 48, 3) := by decide +kernel
theorem d_M_find_20 : decode c_M_find 20 = .ok (.iload_n 1, 1) := by decide +kernel
theorem d_M_find_21 : decode c_M_find 21 = .ok (.iaload, 1) := by decide +kernel
theorem d_M_find_22 : decode c_M_find 22 = .ok (.putfield 205, 3) := by decide +kernel
theorem d_M_find_25 : decode c_M_find 25 = .ok (.aload_n 0, 1) := by decide +kernel
theorem d_M_find_26 : decode c_M_find 26 = .ok (.aload_n 0, 1) := by decide +kernel
theorem d_M_find_27 : decode c_M_find 27 = .ok (.getfield 48, 3) := by decide +kernel
theorem d_M_find_30 : decode c_M_find 30 = .ok (.iload_n 1, 1) := by decide +kernel
theorem d_M_find_31 : decode c_M_find 31 = .ok (.iaload, 1) := by decide +kernel
theorem d_M_find_32 : decode c_M_find 32 = .ok (.putfield 208, 3) := by decide +kernel
theorem d_M_find_35 : decode c_M_find 35 = .ok (.return_, 1) := by decide +kernel
theorem d_M_find_36 : decode c_M_find 36 = .ok (.aload_n 0, 1) := by decide +kernel
theorem d_M_find_37 : decode c_M_find 37 = .ok (.iload_n 1, 1) := by decide +kernel
theorem d_M_find_38 : decode c_M_find 38 = .ok (.invokevirtual 196, 3) := by decide +kernel
theorem d_M_find_41 : decode c_M_find 41 = .ok (.istore_n 3, 1) := by decide +kernel
theorem d_M_find_42 : decode c_M_find 42 = .ok (.iload_n 2, 1) := by decide +kernel
theorem d_M_find_43 : decode c_M_find 43 = .ok (.aload_n 0, 1) := by decide +kernel
theorem d_M_find_44 : decode c_M_find 44 = .ok (.getfield 69, 3) := by decide +kernel
theorem d_M_find_47 : decode c_M_find 47 = .ok (.iload_n 1, 1) := by decide +kernel
theorem d_M_find_48 : decode c_M_find 48 = .ok (.iaload, 1) := by decide +kernel
theorem d_M_find_49 : decode c_M_find 49 = .ok (.isub, 1) := by decide +kernel
theorem d_M_find_50 : decode c_M_find 50 = .ok (.iload_n 3, 1) := by decide +kernel
theorem d_M_find_51 : decode c_M_find 51 = .ok (.irem, 1) := by decide +kernel
theorem d_M_find_52 : decode c_M_find 52 = .ok (.istore 4, 2) := by decide +kernel
theorem d_M_find_54 : decode c_M_find 54 = .ok (.iload 4, 2) := by decide +kernel
theorem d_M_find_56 : decode c_M_find 56 = .ok (.ifCond .ge 10, 3) := by decide +kernel
theorem d_M_find_59 : decode c_M_find 59 = .ok (.iload 4, 2) := by decide +kernel
theorem d_M_find_61 : decode c_M_find 61 = .ok (.iload_n 3, 1) := by decide +kernel
theorem d_M_find_62 : decode c_M_find 62 = .ok (.iadd, 1) := by decide +kernel
theorem d_M_find_63 : decode c_M_find 63 = .ok (.goto 5, 3) := by decide +kernel
theorem d_M_find_66 : decode c_M_find 66 = .ok (.iload 4, 2) := by decide +kernel
theorem d_M_find_68 : decode c_M_find 68 = .ok (.istore 4, 2) := by decide +kernel
theorem d_M_find_70 : decode c_M_find 70 = .ok (.iconst 0, 1) := by decide +kernel
theorem d_M_find_71 : decode c_M_find 71 = .ok (.istore 5, 2) := by decide +kernel
theorem d_M_find_73 : decode c_M_find 73 = .ok (.iconst 0, 1) := by decide +kernel
theorem d_M_find_74 : decode c_M_find 74 = .ok (.istore 6, 2) := by decide +kernel
theorem d_M_find_76 : decode c_M_find 76 = .ok (.iload 6, 2) := by decide +kernel
theorem d_M_find_78 : decode c_M_find 78 = .ok (.ifCond .ne 136, 3) := by decide +kernel
theorem d_M_find_81 : decode c_M_find 81 = .ok (.aload_n 0, 1) := by decide +kernel
theorem d_M_find_82 : decode c_M_find 82 = .ok (.getfield 23, 3) := by decide +kernel
theorem d_M_find_85 : decode c_M_find 85 = .ok (.aload_n 0, 1) := by decide +kernel
theorem d_M_find_86 : decode c_M_find 86 = .ok (.iload_n 1, 1) := by decide +kernel
theorem d_M_find_87 : decode c_M_find 87 = .ok (.iload 5, 2) := by decide +kernel
theorem d_M_find_89 : decode c_M_find 89 = .ok (.invokevirtual 175, 3) := by decide +kernel
theorem d_M_find_92 : decode c_M_find 92 = .ok (.iaload, 1) := by decide +kernel
theorem d_M_find_93 : decode c_M_find 93 = .ok (.aload_n 0, 1) := by decide +kernel
theorem d_M_find_94 : decode c_M_find 94 = .ok (.iload_n 1, 1) := by decide +kernel
theorem d_M_find_95 : decode c_M_find 95 = .ok (.invokevirtual 190, 3) := by decide +kernel
theorem d_M_find_98 : decode c_M_find 98 = .ok (.imul, 1) := by decide +kernel
theorem d_M_find_99 : decode c_M_find 99 = .ok (.istore 7, 2) := by decide +kernel
theorem d_M_find_101 : decode c_M_find 101 = .ok (.aload_n 0, 1) := by decide +kernel
theorem d_M_find_102 : decode c_M_find 102 = .ok (.aload_n 0, 1) := by decide +kernel
theorem d_M_find_103 : decode c_M_find 103 = .ok (.iload_n 1, 1) := by decide +kernel
theorem d_M_find_104 : decode c_M_find 104 = .ok (.iload 5, 2) := by decide +kernel
theorem d_M_find_106 : decode c_M_find 106 = .ok (.invokevirtual 172, 3) := by decide +kernel
theorem d_M_find_109 : decode c_M_find 109 = .ok (.putfield 205, 3) := by decide +kernel
theorem d_M_find_112 : decode c_M_find 112 = .ok (.iload 4, 2) := by decide +kernel
theorem d_M_find_114 : decode c_M_find 114 = .ok (.aload_n 0, 1) := by decide +kernel
theorem d_M_find_115 : decode c_M_find 115 = .ok (.iload_n 1, 1) := by decide +kernel
theorem d_M_find_116 : decode c_M_find 116 = .ok (.iload 5, 2) := by decide +kernel
theorem d_M_find_118 : decode c_M_find 118 = .ok (.invokevirtual 187, 3) := by decide +kernel
theorem d_M_find_121 : decode c_M_find 121 = .ok (.if_icmp .gt 17, 3) := by decide +kernel
theorem d_M_find_124 : decode c_M_find 124 = .ok (.aload_n 0, 1) := by decide +kernel
theorem d_M_find_125 : decode c_M_find 125 = .ok (.aload_n 0, 1) := by decide +kernel
theorem d_M_find_126 : decode c_M_find 126 = .ok (.getfield 205, 3) := by decide +kernel
theorem d_M_find_129 : decode c_M_find 129 = .ok (.putfield 208, 3) := by decide +kernel
theorem d_M_find_132 : decode c_M_find 132 = .ok (.iconst 1, 1) := by decide +kernel
theorem d_M_find_133 : decode c_M_find 133 = .ok (.istore 6, 2) := by decide +kernel
theorem d_M_find_135 : decode c_M_find 135 = .ok (.goto 76, 3) := by decide +kernel
theorem d_M_find_138 : decode c_M_find 138 = .ok (.iload 4, 2) := by decide +kernel
theorem d_M_find_140 : decode c_M_find 140 = .ok (.aload_n 0, 1) := by decide +kernel
theorem d_M_find_141 : decode c_M_find 141 = .ok (.iload_n 1, 1) := by decide +kernel
theorem d_M_find_142 : decode c_M_find 142 = .ok (.iload 5, 2) := by decide +kernel
theorem d_M_find_144 : decode c_M_find 144 = .ok (.invokevirtual 187, 3) := by decide +kernel
theorem d_M_find_147 : decode c_M_find 147 = .ok (.iload 7, 2) := by decide +kernel
theorem d_M_find_149 : decode c_M_find 149 = .ok (.iadd, 1) := by decide +kernel
theorem d_M_find_150 : decode c_M_find 150 = .ok (.if_icmp .ge 43, 3) := by decide +kernel
theorem d_M_find_153 : decode c_M_find 153 = .ok (.aload_n 0, 1) := by decide +kernel
theorem d_M_find_154 : decode c_M_find 154 = .ok (.aload_n 0, 1) := by decide +kernel
theorem d_M_find_155 : decode c_M_find 155 = .ok (.iload_n 1, 1) := by decide +kernel
theorem d_M_find_156 : decode c_M_find 156 = .ok (.iload 5, 2) := by decide +kernel
theorem d_M_find_158 : decode c_M_find 158 = .ok (.iconst 1, 1) := by decide +kernel
theorem d_M_find_159 : decode c_M_find 159 = .ok (.iadd, 1) := by decide +kernel
theorem d_M_find_160 : decode c_M_find 160 = .ok (.aload_n 0, 1) := by decide +kernel
theorem d_M_find_161 : decode c_M_find 161 = .ok (.getfield 60, 3) := by decide +kernel
theorem d_M_find_164 : decode c_M_find 164 = .ok (.iload_n 1, 1) := by decide +kernel
theorem d_M_find_165 : decode c_M_find 165 = .ok (.iaload, 1) := by decide +kernel
theorem d_M_find_166 : decode c_M_find 166 = .ok (.irem, 1) := by decide +kernel
theorem d_M_find_167 : decode c_M_find 167 = .ok (.invokevirtual 172, 3) := by decide +kernel
theorem d_M_find_170 : decode c_M_find 170 = .ok (.putfield 208, 3) := by decide +kernel
theorem d_M_find_173 : decode c_M_find 173 = .ok (.aload_n 0, 1) := by decide +kernel
theorem d_M_find_174 : decode c_M_find 174 = .ok (.iload 4, 2) := by decide +kernel
theorem d_M_find_176 : decode c_M_find 176 = .ok (.aload_n 0, 1) := by decide +kernel
theorem d_M_find_177 : decode c_M_find 177 = .ok (.iload_n 1, 1) := by decide +kernel
theorem d_M_find_178 : decode c_M_find 178 = .ok (.iload 5, 2) := by decide +kernel
theorem d_M_find_180 : decode c_M_find 180 = .ok (.invokevirtual 187, 3) := by decide +kernel
theorem d_M_find_183 : decode c_M_find 183 = .ok (.isub, 1) := by decide +kernel
theorem d_M_find_184 : decode c_M_find 184 = .ok (.putfield 202, 3) := by decide +kernel
theorem d_M_find_187 : decode c_M_find 187 = .ok (.iconst 1, 1) := by decide +kernel
theorem d_M_find_188 : decode c_M_find 188 = .ok (.istore 6, 2) := by decide +kernel
theorem d_M_find_190 : decode c_M_find 190 = .ok (.goto 21, 3) := by decide +kernel
theorem d_M_find_193 : decode c_M_find 193 = .ok (.iload 4, 2) := by decide +kernel
theorem d_M_find_195 : decode c_M_find 195 = .ok (.aload_n 0, 1) := by decide +kernel
theorem d_M_find_196 : decode c_M_find 196 = .ok (.iload_n 1, 1) := by decide +kernel
theorem d_M_find_197 : decode c_M_find 197 = .ok (.iload 5, 2) := by decide +kernel
theorem d_M_find_199 : decode c_M_find 199 = .ok (.invokevirtual 187, 3) := by decide +kernel
theorem d_M_find_202 : decode c_M_find 202 = .ok (.iload 7, 2) := by decide +kernel
theorem d_M_find_204 : decode c_M_find 204 = .ok (.iadd, 1) := by decide +kernel
theorem d_M_find_205 : decode c_M_find 205 = .ok (.isub, 1) := by decide +kernel
theorem d_M_find_206 : decode c_M_find 206 = .ok (.istore 4, 2) := by decide +kernel
theorem d_M_find_208 : decode c_M_find 208 = .ok (.iinc 5 1, 3) := by decide +kernel
theorem d_M_find_211 : decode c_M_find 211 = .ok (.goto (-135), 3) := by decide +kernel
theorem d_M_find_214 : decode c_M_find 214 = .ok (.return_, 1) := by decide +kernel
theorem d_M_where_0 : decode c_M_where 0 = .ok (.aload_n 0, 1) := by decide +kernel
theorem d_M_where_1 : decode c_M_where 1 = .ok (.iload_n 2, 1) := by decide +kernel
theorem d_M_where_2 : decode c_M_where 2 = .ok (.iconst 0, 1) := by decide +kernel
theorem d_M_where_3 : decode c_M_where 3 = .ok (.ldc 211, 2) := by decide +kernel
theorem d_M_where_5 : decode c_M_where 5 = .ok (.invokestatic 117, 3) := by decide +kernel
theorem d_M_where_8 : decode c_M_where 8 = .ok (.ifCond .eq 16, 3) := by decide +kernel
theorem d_M_where_11 : decode c_M_where 11 = .ok (.iload_n 3, 1) := by decide +kernel
theorem d_M_where_12 : decode c_M_where 12 = .ok (.iconst 0, 1) := by decide +kernel
theorem d_M_where_13 : decode c_M_where 13 = .ok (.iconst 2, 1) := by decide +kernel
theorem d_M_where_14 : decode c_M_where 14 = .ok (.invokestatic 117, 3) := by decide +kernel
theorem d_M_where_17 : decode c_M_where 17 = .ok (.ifCond .eq 7, 3) := by decide +kernel
theorem d_M_where_20 : decode c_M_where 20 = .ok (.iconst 1, 1) := by decide +kernel
theorem d_M_where_21 : decode c_M_where 21 = .ok (.goto 4, 3) := by decide +kernel
theorem d_M_where_24 : decode c_M_where 24 = .ok (.iconst 0, 1) := by decide +kernel
theorem d_M_where_25 : decode c_M_where 25 = .ok (.iload_n 1, 1) := by decide +kernel
theorem d_M_where_26 : decode c_M_where 26 = .ok (.invokevirtual 168, 3) := by decide +kernel
theorem d_M_where_29 : decode c_M_where 29 = .ok (.istore 4, 2) := by decide +kernel
theorem d_M_where_31 : decode c_M_where 31 = .ok (.iload 4, 2) := by decide +kernel
theorem d_M_where_33 : decode c_M_where 33 = .ok (.ifCond .ge 6, 3) := by decide +kernel
theorem d_M_where_36 : decode c_M_where 36 = .ok (.iload 4, 2) := by decide +kernel
theorem d_M_where_38 : decode c_M_where 38 = .ok (.ireturn, 1) := by decide +kernel
theorem d_M_where_39 : decode c_M_where 39 = .ok (.aload_n 0, 1) := by decide +kernel
theorem d_M_where_40 : decode c_M_where 40 = .ok (.iload_n 1, 1) := by decide +kernel
theorem d_M_where_41 : decode c_M_where 41 = .ok (.invokevirtual 193, 3) := by decide +kernel
theorem d_M_where_44 : decode c_M_where 44 = .ok (.ifCond .ne 6, 3) := by decide +kernel
theorem d_M_where_47 : decode c_M_where 47 = .ok (.bipush (-4), 2) := by decide +kernel
theorem d_M_where_49 : decode c_M_where 49 = .ok (.ireturn, 1) := by decide +kernel
theorem d_M_where_50 : decode c_M_where 50 = .ok (.aload_n 0, 1) := by decide +kernel
theorem d_M_where_51 : decode c_M_where 51 = .ok (.iload_n 1, 1) := by decide +kernel
theorem d_M_where_52 : decode c_M_where 52 = .ok (.iload_n 2, 1) := by decide +kernel
theorem d_M_where_53 : decode c_M_where 53 = .ok (.invokevirtual 212, 3) := by decide +kernel
theorem d_M_where_56 : decode c_M_where 56 = .ok (.iload_n 3, 1) := by decide +kernel
theorem d_M_where_57 : decode c_M_where 57 = .ok (.ifCond .ne 10, 3) := by decide +kernel
theorem d_M_where_60 : decode c_M_where 60 = .ok (.aload_n 0, 1) := by decide +kernel
theorem d_M_where_61 : decode c_M_where 61 = .ok (.getfield 205, 3) := by decide +kernel
theorem d_M_where_64 : decode c_M_where 64 = .ok (.goto 19, 3) := by decide +kernel
theorem d_M_where_67 : decode c_M_where 67 = .ok (.iload_n 3, 1) := by decide +kernel
theorem d_M_where_68 : decode c_M_where 68 = .ok (.iconst 1, 1) := by decide +kernel
theorem d_M_where_69 : decode c_M_where 69 = .ok (.if_icmp .ne 10, 3) := by decide +kernel
theorem d_M_where_72 : decode c_M_where 72 = .ok (.aload_n 0, 1) := by decide +kernel
theorem d_M_where_73 : decode c_M_where 73 = .ok (.getfield 208, 3) := by decide +kernel
theorem d_M_where_76 : decode c_M_where 76 = .ok (.goto 7, 3) := by decide +kernel
theorem d_M_where_79 : decode c_M_where 79 = .ok (.aload_n 0, 1) := by decide +kernel
theorem d_M_where_80 : decode c_M_where 80 = .ok (.getfield 202, 3) := by decide +kernel
theorem d_M_where_83 : decode c_M_where 83 = .ok (.ireturn, 1) := by decide +kernel
theorem d_M_layJoint_0 : decode c_M_layJoint 0 = .ok (.lconst 1, 1) := by decide +kernel
theorem d_M_layJoint_1 : decode c_M_layJoint 1 = .ok (.lstore_n 1, 1) := by decide +kernel
theorem d_M_layJoint_2 : decode c_M_layJoint 2 = .ok (.iconst 0, 1) := by decide +kernel
theorem d_M_layJoint_3 : decode c_M_layJoint 3 = .ok (.istore_n 3, 1) := by decide +kernel
theorem d_M_layJoint_4 : decode c_M_layJoint 4 = .ok (.iload_n 3, 1) := by decide +kernel
theorem d_M_layJoint_5 : decode c_M_layJoint 5 = .ok (.aload_n 0, 1) := by decide +kernel
theorem d_M_layJoint_6 : decode c_M_layJoint 6 = .ok (.getfield 162, 3) := by decide +kernel
theorem d_M_layJoint_9 : decode c_M_layJoint 9 = .ok (.if_icmp .ge 46, 3) := by decide +kernel
theorem d_M_layJoint_12 : decode c_M_layJoint 12 = .ok (.lload_n 1, 1) := by decide +kernel
theorem d_M_layJoint_13 : decode c_M_layJoint 13 = .ok (.ldc2_w 215, 3) := by decide +kernel
theorem d_M_layJoint_16 : decode c_M_layJoint 16 = .ok (.lcmp, 1) := by decide +kernel
theorem d_M_layJoint_17 : decode c_M_layJoint 17 = .ok (.ifCond .gt 38, 3) := by decide +kernel
theorem d_M_layJoint_20 : decode c_M_layJoint 20 = .ok (.aload_n 0, 1) := by decide +kernel
theorem d_M_layJoint_21 : decode c_M_layJoint 21 = .ok (.iload_n 3, 1) := by decide +kernel
theorem d_M_layJoint_22 : decode c_M_layJoint 22 = .ok (.invokevirtual 193, 3) := by decide +kernel
theorem d_M_layJoint_25 : decode c_M_layJoint 25 = .ok (.ifCond .eq 24, 3) := by decide +kernel
theorem d_M_layJoint_28 : decode c_M_layJoint 28 = .ok (.aload_n 0, 1) := by decide +kernel
theorem d_M_layJoint_29 : decode c_M_layJoint 29 = .ok (.iload_n 3, 1) := by decide +kernel
theorem d_M_layJoint_30 : decode c_M_layJoint 30 = .ok (.invokevirtual 196, 3) := by decide +kernel
theorem d_M_layJoint_33 : decode c_M_layJoint 33 = .ok (.istore 4, 2) := by decide +kernel
theorem d_M_layJoint_35 : decode c_M_layJoint 35 = .ok (.lload_n 1, 1) := by decide +kernel
theorem d_M_layJoint_36 : decode c_M_layJoint 36 = .ok (.lload_n 1, 1) := by decide +kernel
theorem d_M_layJoint_37 : decode c_M_layJoint 37 = .ok (.iload 4, 2) := by decide +kernel
theorem d_M_layJoint_39 : decode c_M_layJoint 39 = .ok (.i2l, 1) := by decide +kernel
theorem d_M_layJoint_40 : decode c_M_layJoint 40 = .ok (.invokestatic 124, 3) := by decide +kernel
theorem d_M_layJoint_43 : decode c_M_layJoint 43 = .ok (.ldiv, 1) := by decide +kernel
theorem d_M_layJoint_44 : decode c_M_layJoint 44 = .ok (.iload 4, 2) := by decide +kernel
theorem d_M_layJoint_46 : decode c_M_layJoint 46 = .ok (.i2l, 1) := by decide +kernel
theorem d_M_layJoint_47 : decode c_M_layJoint 47 = .ok (.lmul, 1) := by decide +kernel
theorem d_M_layJoint_48 : decode c_M_layJoint 48 = .ok (.lstore_n 1, 1) := by decide +kernel
theorem d_M_layJoint_49 : decode c_M_layJoint 49 = .ok (.iinc 3 1, 3) := by decide +kernel
theorem d_M_layJoint_52 : decode c_M_layJoint 52 = .ok (.goto (-48), 3) := by decide +kernel
theorem d_M_layJoint_55 : decode c_M_layJoint 55 = .ok (.aload_n 0, 1) := by decide +kernel
theorem d_M_layJoint_56 : decode c_M_layJoint 56 = .ok (.lload_n 1, 1) := by decide +kernel
theorem d_M_layJoint_57 : decode c_M_layJoint 57 = .ok (.ldc2_w 215, 3) := by decide +kernel
theorem d_M_layJoint_60 : decode c_M_layJoint 60 = .ok (.lcmp, 1) := by decide +kernel
theorem d_M_layJoint_61 : decode c_M_layJoint 61 = .ok (.ifCond .le 7, 3) := by decide +kernel
theorem d_M_layJoint_64 : decode c_M_layJoint 64 = .ok (.iconst 0, 1) := by decide +kernel
theorem d_M_layJoint_65 : decode c_M_layJoint 65 = .ok (.goto 5, 3) := by decide +kernel
theorem d_M_layJoint_68 : decode c_M_layJoint 68 = .ok (.lload_n 1, 1) := by decide +kernel
theorem d_M_layJoint_69 : decode c_M_layJoint 69 = .ok (.l2i, 1) := by decide +kernel
theorem d_M_layJoint_70 : decode c_M_layJoint 70 = .ok (.putfield 217, 3) := by decide +kernel
theorem d_M_layJoint_73 : decode c_M_layJoint 73 = .ok (.lload_n 1, 1) := by decide +kernel
theorem d_M_layJoint_74 : decode c_M_layJoint 74 = .ok (.ldc2_w 215, 3) := by decide +kernel
theorem d_M_layJoint_77 : decode c_M_layJoint 77 = .ok (.lcmp, 1) := by decide +kernel
theorem d_M_layJoint_78 : decode c_M_layJoint 78 = .ok (.ifCond .gt 7, 3) := by decide +kernel
theorem d_M_layJoint_81 : decode c_M_layJoint 81 = .ok (.iconst 1, 1) := by decide +kernel
theorem d_M_layJoint_82 : decode c_M_layJoint 82 = .ok (.goto 4, 3) := by decide +kernel
theorem d_M_layJoint_85 : decode c_M_layJoint 85 = .ok (.iconst 0, 1) := by decide +kernel
theorem d_M_layJoint_86 : decode c_M_layJoint 86 = .ok (.ireturn, 1) := by decide +kernel
theorem d_M_viewFrom_0 : decode c_M_viewFrom 0 = .ok (.iconst 0, 1) := by decide +kernel
theorem d_M_viewFrom_1 : decode c_M_viewFrom 1 = .ok (.istore_n 3, 1) := by decide +kernel
theorem d_M_viewFrom_2 : decode c_M_viewFrom 2 = .ok (.iconst 0, 1) := by decide +kernel
theorem d_M_viewFrom_3 : decode c_M_viewFrom 3 = .ok (.istore 4, 2) := by decide +kernel
theorem d_M_viewFrom_5 : decode c_M_viewFrom 5 = .ok (.iload 4, 2) := by decide +kernel
theorem d_M_viewFrom_7 : decode c_M_viewFrom 7 = .ok (.aload_n 0, 1) := by decide +kernel
theorem d_M_viewFrom_8 : decode c_M_viewFrom 8 = .ok (.getfield 111, 3) := by decide +kernel
theorem d_M_viewFrom_11 : decode c_M_viewFrom 11 = .ok (.if_icmp .ge 41, 3) := by decide +kernel
theorem d_M_viewFrom_14 : decode c_M_viewFrom 14 = .ok (.iload_n 3, 1) := by decide +kernel
theorem d_M_viewFrom_15 : decode c_M_viewFrom 15 = .ok (.aload_n 0, 1) := by decide +kernel
theorem d_M_viewFrom_16 : decode c_M_viewFrom 16 = .ok (.getfield 36, 3) := by decide +kernel
theorem d_M_viewFrom_19 : decode c_M_viewFrom 19 = .ok (.bipush 16, 2) := by decide +kernel
theorem d_M_viewFrom_21 : decode c_M_viewFrom 21 = .ok (.iload_n 2, 1) := by decide +kernel
theorem d_M_viewFrom_22 : decode c_M_viewFrom 22 = .ok (.imul, 1) := by decide +kernel
theorem d_M_viewFrom_23 : decode c_M_viewFrom 23 = .ok (.iload 4, 2) := by decide +kernel
theorem d_M_viewFrom_25 : decode c_M_viewFrom 25 = .ok (.iadd, 1) := by decide +kernel
theorem d_M_viewFrom_26 : decode c_M_viewFrom 26 = .ok (.iaload, 1) := by decide +kernel
theorem d_M_viewFrom_27 : decode c_M_viewFrom 27 = .ok (.aload_n 0, 1) := by decide +kernel
theorem d_M_viewFrom_28 : decode c_M_viewFrom 28 = .ok (.getfield 51, 3) := by decide +kernel
theorem d_M_viewFrom_31 : decode c_M_viewFrom 31 = .ok (.iload_n 1, 1) := by decide +kernel
theorem d_M_viewFrom_32 : decode c_M_viewFrom 32 = .ok (.iaload, 1) := by decide +kernel
theorem d_M_viewFrom_33 : decode c_M_viewFrom 33 = .ok (.if_icmp .gt 10, 3) := by decide +kernel
theorem d_M_viewFrom_36 : decode c_M_viewFrom 36 = .ok (.iconst 1, 1) := by decide +kernel
theorem d_M_viewFrom_37 : decode c_M_viewFrom 37 = .ok (.iload 4, 2) := by decide +kernel
theorem d_M_viewFrom_39 : decode c_M_viewFrom 39 = .ok (.ishl, 1) := by decide +kernel
theorem d_M_viewFrom_40 : decode c_M_viewFrom 40 = .ok (.goto 4, 3) := by decide +kernel
theorem d_M_viewFrom_43 : decode c_M_viewFrom 43 = .ok (.iconst 0, 1) := by decide +kernel
theorem d_M_viewFrom_44 : decode c_M_viewFrom 44 = .ok (.ior, 1) := by decide +kernel
theorem d_M_viewFrom_45 : decode c_M_viewFrom 45 = .ok (.istore_n 3, 1) := by decide +kernel
theorem d_M_viewFrom_46 : decode c_M_viewFrom 46 = .ok (.iinc 4 1, 3) := by decide +kernel
theorem d_M_viewFrom_49 : decode c_M_viewFrom 49 = .ok (.goto (-44), 3) := by decide +kernel
theorem d_M_viewFrom_52 : decode c_M_viewFrom 52 = .ok (.iload_n 3, 1) := by decide +kernel
theorem d_M_viewFrom_53 : decode c_M_viewFrom 53 = .ok (.ireturn, 1) := by decide +kernel
theorem d_M_lookOut_0 : decode c_M_lookOut 0 = .ok (.aload_n 0, 1) := by decide +kernel
theorem d_M_lookOut_1 : decode c_M_lookOut 1 = .ok (.getfield 39, 3) := by decide +kernel
theorem d_M_lookOut_4 : decode c_M_lookOut 4 = .ok (.iload_n 1, 1) := by decide +kernel
theorem d_M_lookOut_5 : decode c_M_lookOut 5 = .ok (.iaload, 1) := by decide +kernel
theorem d_M_lookOut_6 : decode c_M_lookOut 6 = .ok (.iconst 3, 1) := by decide +kernel
theorem d_M_lookOut_7 : decode c_M_lookOut 7 = .ok (.if_icmp .ne 40, 3) := by decide +kernel
theorem d_M_lookOut_10 : decode c_M_lookOut 10 = .ok (.iconst 0, 1) := by decide +kernel
theorem d_M_lookOut_11 : decode c_M_lookOut 11 = .ok (.istore_n 2, 1) := by decide +kernel
theorem d_M_lookOut_12 : decode c_M_lookOut 12 = .ok (.iload_n 2, 1) := by decide +kernel
theorem d_M_lookOut_13 : decode c_M_lookOut 13 = .ok (.aload_n 0, 1) := by decide +kernel
theorem d_M_lookOut_14 : decode c_M_lookOut 14 = .ok (.getfield 217, 3) := by decide +kernel
theorem d_M_lookOut_17 : decode c_M_lookOut 17 = .ok (.if_icmp .ge 29, 3) := by decide +kernel
theorem d_M_lookOut_20 : decode c_M_lookOut 20 = .ok (.aload_n 0, 1) := by decide +kernel
theorem d_M_lookOut_21 : decode c_M_lookOut 21 = .ok (.getfield 72, 3) := by decide +kernel
theorem d_M_lookOut_24 : decode c_M_lookOut 24 = .ok (.iload_n 2, 1) := by decide +kernel
theorem d_M_lookOut_25 : decode c_M_lookOut 25 = .ok (.dup2, 1) := by decide +kernel
theorem d_M_lookOut_26 : decode c_M_lookOut 26 = .ok (.iaload, 1) := by decide +kernel
theorem d_M_lookOut_27 : decode c_M_lookOut 27 = .ok (.aload_n 0, 1) := by decide +kernel
theorem d_M_lookOut_28 : decode c_M_lookOut 28 = .ok (.iload_n 1, 1) := by decide +kernel
theorem d_M_lookOut_29 : decode c_M_lookOut 29 = .ok (.aload_n 0, 1) := by decide +kernel
theorem d_M_lookOut_30 : decode c_M_lookOut 30 = .ok (.getfield 48, 3) := by decide +kernel
theorem d_M_lookOut_33 : decode c_M_lookOut 33 = .ok (.iload_n 1, 1) := by decide +kernel
theorem d_M_lookOut_34 : decode c_M_lookOut 34 = .ok (.iaload, 1) := by decide +kernel
theorem d_M_lookOut_35 : decode c_M_lookOut 35 = .ok (.invokevirtual 220, 3) := by decide +kernel
theorem d_M_lookOut_38 : decode c_M_lookOut 38 = .ok (.ior, 1) := by decide +kernel
theorem d_M_lookOut_39 : decode c_M_lookOut 39 = .ok (.iastore, 1) := by decide +kernel
theorem d_M_lookOut_40 : decode c_M_lookOut 40 = .ok (.iinc 2 1, 3) := by decide +kernel
theorem d_M_lookOut_43 : decode c_M_lookOut 43 = .ok (.goto (-31), 3) := by decide +kernel
theorem d_M_lookOut_46 : decode c_M_lookOut 46 = .ok (.return_, 1) := by decide +kernel
theorem d_M_lookOut_47 : decode c_M_lookOut 47 = .ok (.aload_n 0, 1) := by decide +kernel
theorem d_M_lookOut_48 : decode c_M_lookOut 48 = .ok (.iload_n 1, 1) := by decide +kernel
theorem d_M_lookOut_49 : decode c_M_lookOut 49 = .ok (.invokevirtual 196, 3) := by decide +kernel
theorem d_M_lookOut_52 : decode c_M_lookOut 52 = .ok (.istore_n 2, 1) := by decide +kernel
theorem d_M_lookOut_53 : decode c_M_lookOut 53 = .ok (.aload_n 0, 1) := by decide +kernel
theorem d_M_lookOut_54 : decode c_M_lookOut 54 = .ok (.getfield 69, 3) := by decide +kernel
theorem d_M_lookOut_57 : decode c_M_lookOut 57 = .ok (.iload_n 1, 1) := by decide +kernel
theorem d_M_lookOut_58 : decode c_M_lookOut 58 = .ok (.iaload, 1) := by decide +kernel
theorem d_M_lookOut_59 : decode c_M_lookOut 59 = .ok (.iload_n 2, 1) := by decide +kernel
theorem d_M_lookOut_60 : decode c_M_lookOut 60 = .ok (.irem, 1) := by decide +kernel
theorem d_M_lookOut_61 : decode c_M_lookOut 61 = .ok (.istore_n 3, 1) := by decide +kernel
theorem d_M_lookOut_62 : decode c_M_lookOut 62 = .ok (.iconst 0, 1) := by decide +kernel
theorem d_M_lookOut_63 : decode c_M_lookOut 63 = .ok (.istore 4, 2) := by decide +kernel
theorem d_M_lookOut_65 : decode c_M_lookOut 65 = .ok (.iload 4, 2) := by decide +kernel
theorem d_M_lookOut_67 : decode c_M_lookOut 67 = .ok (.aload_n 0, 1) := by decide +kernel
theorem d_M_lookOut_68 : decode c_M_lookOut 68 = .ok (.getfield 60, 3) := by decide +kernel
theorem d_M_lookOut_71 : decode c_M_lookOut 71 = .ok (.iload_n 1, 1) := by decide +kernel
theorem d_M_lookOut_72 : decode c_M_lookOut 72 = .ok (.iaload, 1) := by decide +kernel
theorem d_M_lookOut_73 : decode c_M_lookOut 73 = .ok (.if_icmp .ge 111, 3) := by decide +kernel
theorem d_M_lookOut_76 : decode c_M_lookOut 76 = .ok (.aload_n 0, 1) := by decide +kernel
theorem d_M_lookOut_77 : decode c_M_lookOut 77 = .ok (.iload_n 1, 1) := by decide +kernel
theorem d_M_lookOut_78 : decode c_M_lookOut 78 = .ok (.aload_n 0, 1) := by decide +kernel
theorem d_M_lookOut_79 : decode c_M_lookOut 79 = .ok (.iload_n 1, 1) := by decide +kernel
theorem d_M_lookOut_80 : decode c_M_lookOut 80 = .ok (.iload 4, 2) := by decide +kernel
theorem d_M_lookOut_82 : decode c_M_lookOut 82 = .ok (.invokevirtual 172, 3) := by decide +kernel
theorem d_M_lookOut_85 : decode c_M_lookOut 85 = .ok (.invokevirtual 220, 3) := by decide +kernel
theorem d_M_lookOut_88 : decode c_M_lookOut 88 = .ok (.istore 5, 2) := by decide +kernel
theorem d_M_lookOut_90 : decode c_M_lookOut 90 = .ok (.iconst 0, 1) := by decide +kernel
theorem d_M_lookOut_91 : decode c_M_lookOut 91 = .ok (.istore 6, 2) := by decide +kernel
theorem d_M_lookOut_93 : decode c_M_lookOut 93 = .ok (.iload 6, 2) := by decide +kernel
theorem d_M_lookOut_95 : decode c_M_lookOut 95 = .ok (.aload_n 0, 1) := by decide +kernel
theorem d_M_lookOut_96 : decode c_M_lookOut 96 = .ok (.iload_n 1, 1) := by decide +kernel
theorem d_M_lookOut_97 : decode c_M_lookOut 97 = .ok (.iload 4, 2) := by decide +kernel
theorem d_M_lookOut_99 : decode c_M_lookOut 99 = .ok (.invokevirtual 187, 3) := by decide +kernel
theorem d_M_lookOut_102 : decode c_M_lookOut 102 = .ok (.if_icmp .gt 47, 3) := by decide +kernel
theorem d_M_lookOut_105 : decode c_M_lookOut 105 = .ok (.iload_n 3, 1) := by decide +kernel
theorem d_M_lookOut_106 : decode c_M_lookOut 106 = .ok (.iload 6, 2) := by decide +kernel
theorem d_M_lookOut_108 : decode c_M_lookOut 108 = .ok (.iadd, 1) := by decide +kernel
theorem d_M_lookOut_109 : decode c_M_lookOut 109 = .ok (.iload_n 2, 1) := by decide +kernel
theorem d_M_lookOut_110 : decode c_M_lookOut 110 = .ok (.irem, 1) := by decide +kernel
theorem d_M_lookOut_111 : decode c_M_lookOut 111 = .ok (.istore 7, 2) := by decide +kernel
theorem d_M_lookOut_113 : decode c_M_lookOut 113 = .ok (.iload 7, 2) := by decide +kernel
theorem d_M_lookOut_115 : decode c_M_lookOut 115 = .ok (.aload_n 0, 1) := by decide +kernel
theorem d_M_lookOut_116 : decode c_M_lookOut 116 = .ok (.getfield 217, 3) := by decide +kernel
theorem d_M_lookOut_119 : decode c_M_lookOut 119 = .ok (.if_icmp .ge 24, 3) := by decide +kernel
theorem d_M_lookOut_122 : decode c_M_lookOut 122 = .ok (.aload_n 0, 1) := by decide +kernel
theorem d_M_lookOut_123 : decode c_M_lookOut 123 = .ok (.getfield 72, 3) := by decide +kernel
theorem d_M_lookOut_126 : decode c_M_lookOut 126 = .ok (.iload 7, 2) := by decide +kernel
theorem d_M_lookOut_128 : decode c_M_lookOut 128 = .ok (.dup2, 1) := by decide +kernel
theorem d_M_lookOut_129 : decode c_M_lookOut 129 = .ok (.iaload, 1) := by decide +kernel
theorem d_M_lookOut_130 : decode c_M_lookOut 130 = .ok (.iload 5, 2) := by decide +kernel
theorem d_M_lookOut_132 : decode c_M_lookOut 132 = .ok (.ior, 1) := by decide +kernel
theorem d_M_lookOut_133 : decode c_M_lookOut 133 = .ok (.iastore, 1) := by decide +kernel
theorem d_M_lookOut_134 : decode c_M_lookOut 134 = .ok (.iload 7, 2) := by decide +kernel
theorem d_M_lookOut_136 : decode c_M_lookOut 136 = .ok (.iload_n 2, 1) := by decide +kernel
theorem d_M_lookOut_137 : decode c_M_lookOut 137 = .ok (.iadd, 1) := by decide +kernel
theorem d_M_lookOut_138 : decode c_M_lookOut 138 = .ok (.istore 7, 2) := by decide +kernel
theorem d_M_lookOut_140 : decode c_M_lookOut 140 = .ok (.goto (-27), 3) := by decide +kernel
theorem d_M_lookOut_143 : decode c_M_lookOut 143 = .ok (.iinc 6 1, 3) := by decide +kernel
theorem d_M_lookOut_146 : decode c_M_lookOut 146 = .ok (.goto (-53), 3) := by decide +kernel
theorem d_M_lookOut_149 : decode c_M_lookOut 149 = .ok (.iload_n 3, 1) := by decide +kernel
theorem d_M_lookOut_150 : decode c_M_lookOut 150 = .ok (.aload_n 0, 1) := by decide +kernel
theorem d_M_lookOut_151 : decode c_M_lookOut 151 = .ok (.iload_n 1, 1) := by decide +kernel
theorem d_M_lookOut_152 : decode c_M_lookOut 152 = .ok (.iload 4, 2) := by decide +kernel
theorem d_M_lookOut_154 : decode c_M_lookOut 154 = .ok (.invokevirtual 187, 3) := by decide +kernel
theorem d_M_lookOut_157 : decode c_M_lookOut 157 = .ok (.aload_n 0, 1) := by decide +kernel
theorem d_M_lookOut_158 : decode c_M_lookOut 158 = .ok (.getfield 23, 3) := by decide +kernel
theorem d_M_lookOut_161 : decode c_M_lookOut 161 = .ok (.aload_n 0, 1) := by decide +kernel
theorem d_M_lookOut_162 : decode c_M_lookOut 162 = .ok (.iload_n 1, 1) := by decide +kernel
theorem d_M_lookOut_163 : decode c_M_lookOut 163 = .ok (.iload 4, 2) := by decide +kernel
theorem d_M_lookOut_165 : decode c_M_lookOut 165 = .ok (.invokevirtual 175, 3) := by decide +kernel
theorem d_M_lookOut_168 : decode c_M_lookOut 168 = .ok (.iaload, 1) := by decide +kernel
theorem d_M_lookOut_169 : decode c_M_lookOut 169 = .ok (.aload_n 0, 1) := by decide +kernel
theorem d_M_lookOut_170 : decode c_M_lookOut 170 = .ok (.iload_n 1, 1) := by decide +kernel
theorem d_M_lookOut_171 : decode c_M_lookOut 171 = .ok (.invokevirtual 190, 3) := by decide +kernel
theorem d_M_lookOut_174 : decode c_M_lookOut 174 = .ok (.imul, 1) := by decide +kernel
theorem d_M_lookOut_175 : decode c_M_lookOut 175 = .ok (.iadd, 1) := by decide +kernel
theorem d_M_lookOut_176 : decode c_M_lookOut 176 = .ok (.iadd, 1) := by decide +kernel
theorem d_M_lookOut_177 : decode c_M_lookOut 177 = .ok (.istore_n 3, 1) := by decide +kernel
theorem d_M_lookOut_178 : decode c_M_lookOut 178 = .ok (.iinc 4 1, 3) := by decide +kernel
theorem d_M_lookOut_181 : decode c_M_lookOut 181 = .ok (.goto (-116), 3) := by decide +kernel
theorem d_M_lookOut_184 : decode c_M_lookOut 184 = .ok (.return_, 1) := by decide +kernel
theorem d_M_laySeen_0 : decode c_M_laySeen 0 = .ok (.aload_n 0, 1) := by decide +kernel
theorem d_M_laySeen_1 : decode c_M_laySeen 1 = .ok (.invokevirtual 223, 3) := by decide +kernel
theorem d_M_laySeen_4 : decode c_M_laySeen 4 = .ok (.ifCond .ne 5, 3) := by decide +kernel
theorem d_M_laySeen_7 : decode c_M_laySeen 7 = .ok (.iconst 0, 1) := by decide +kernel
theorem d_M_laySeen_8 : decode c_M_laySeen 8 = .ok (.ireturn, 1) := by decide +kernel
theorem d_M_laySeen_9 : decode c_M_laySeen 9 = .ok (.aload_n 0, 1) := by decide +kernel
theorem d_M_laySeen_10 : decode c_M_laySeen 10 = .ok (.invokevirtual 159, 3) := by decide +kernel
theorem d_M_laySeen_13 : decode c_M_laySeen 13 = .ok (.iconst 0, 1) := by decide +kernel
theorem d_M_laySeen_14 : decode c_M_laySeen 14 = .ok (.istore_n 1, 1) := by decide +kernel
theorem d_M_laySeen_15 : decode c_M_laySeen 15 = .ok (.iload_n 1, 1) := by decide +kernel
theorem d_M_laySeen_16 : decode c_M_laySeen 16 = .ok (.aload_n 0, 1) := by decide +kernel
theorem d_M_laySeen_17 : decode c_M_laySeen 17 = .ok (.getfield 217, 3) := by decide +kernel
theorem d_M_laySeen_20 : decode c_M_laySeen 20 = .ok (.if_icmp .ge 16, 3) := by decide +kernel
theorem d_M_laySeen_23 : decode c_M_laySeen 23 = .ok (.aload_n 0, 1) := by decide +kernel
theorem d_M_laySeen_24 : decode c_M_laySeen 24 = .ok (.getfield 72, 3) := by decide +kernel
theorem d_M_laySeen_27 : decode c_M_laySeen 27 = .ok (.iload_n 1, 1) := by decide +kernel
theorem d_M_laySeen_28 : decode c_M_laySeen 28 = .ok (.iconst 0, 1) := by decide +kernel
theorem d_M_laySeen_29 : decode c_M_laySeen 29 = .ok (.iastore, 1) := by decide +kernel
theorem d_M_laySeen_30 : decode c_M_laySeen 30 = .ok (.iinc 1 1, 3) := by decide +kernel
theorem d_M_laySeen_33 : decode c_M_laySeen 33 = .ok (.goto (-18), 3) := by decide +kernel
theorem d_M_laySeen_36 : decode c_M_laySeen 36 = .ok (.iconst 0, 1) := by decide +kernel
theorem d_M_laySeen_37 : decode c_M_laySeen 37 = .ok (.istore_n 1, 1) := by decide +kernel
theorem d_M_laySeen_38 : decode c_M_laySeen 38 = .ok (.iload_n 1, 1) := by decide +kernel
theorem d_M_laySeen_39 : decode c_M_laySeen 39 = .ok (.aload_n 0, 1) := by decide +kernel
theorem d_M_laySeen_40 : decode c_M_laySeen 40 = .ok (.getfield 162, 3) := by decide +kernel
theorem d_M_laySeen_43 : decode c_M_laySeen 43 = .ok (.if_icmp .ge 22, 3) := by decide +kernel
theorem d_M_laySeen_46 : decode c_M_laySeen 46 = .ok (.aload_n 0, 1) := by decide +kernel
theorem d_M_laySeen_47 : decode c_M_laySeen 47 = .ok (.iload_n 1, 1) := by decide +kernel
theorem d_M_laySeen_48 : decode c_M_laySeen 48 = .ok (.invokevirtual 193, 3) := by decide +kernel
theorem d_M_laySeen_51 : decode c_M_laySeen 51 = .ok (.ifCond .eq 8, 3) := by decide +kernel
theorem d_M_laySeen_54 : decode c_M_laySeen 54 = .ok (.aload_n 0, 1) := by decide +kernel
theorem d_M_laySeen_55 : decode c_M_laySeen 55 = .ok (.iload_n 1, 1) := by decide +kernel
theorem d_M_laySeen_56 : decode c_M_laySeen 56 = .ok (.invokevirtual 227, 3) := by decide +kernel
theorem d_M_laySeen_59 : decode c_M_laySeen 59 = .ok (.iinc 1 1, 3) := by decide +kernel
theorem d_M_laySeen_62 : decode c_M_laySeen 62 = .ok (.goto (-24), 3) := by decide +kernel
theorem d_M_laySeen_65 : decode c_M_laySeen 65 = .ok (.iconst 1, 1) := by decide +kernel
theorem d_M_laySeen_66 : decode c_M_laySeen 66 = .ok (.ireturn, 1) := by decide +kernel
theorem d_M_joint_0 : decode c_M_joint 0 = .ok (.aload_n 0, 1) := by decide +kernel
theorem d_M_joint_1 : decode c_M_joint 1 = .ok (.invokevirtual 223, 3) := by decide +kernel
theorem d_M_joint_4 : decode c_M_joint 4 = .ok (.ifCond .eq 10, 3) := by decide +kernel
theorem d_M_joint_7 : decode c_M_joint 7 = .ok (.aload_n 0, 1) := by decide +kernel
theorem d_M_joint_8 : decode c_M_joint 8 = .ok (.getfield 217, 3) := by decide +kernel
theorem d_M_joint_11 : decode c_M_joint 11 = .ok (.goto 5, 3) := by decide +kernel
theorem d_M_joint_14 : decode c_M_joint 14 = .ok (.bipush (-6), 2) := by decide +kernel
theorem d_M_joint_16 : decode c_M_joint 16 = .ok (.ireturn, 1) := by decide +kernel
theorem d_M_seen_0 : decode c_M_seen 0 = .ok (.iload_n 1, 1) := by decide +kernel
theorem d_M_seen_1 : decode c_M_seen 1 = .ok (.iconst 0, 1) := by decide +kernel
theorem d_M_seen_2 : decode c_M_seen 2 = .ok (.ldc 211, 2) := by decide +kernel
theorem d_M_seen_4 : decode c_M_seen 4 = .ok (.invokestatic 117, 3) := by decide +kernel
theorem d_M_seen_7 : decode c_M_seen 7 = .ok (.ifCond .ne 5, 3) := by decide +kernel
theorem d_M_seen_10 : decode c_M_seen 10 = .ok (.iconst (-1), 1) := by decide +kernel
theorem d_M_seen_11 : decode c_M_seen 11 = .ok (.ireturn, 1) := by decide +kernel
theorem d_M_seen_12 : decode c_M_seen 12 = .ok (.aload_n 0, 1) := by decide +kernel
theorem d_M_seen_13 : decode c_M_seen 13 = .ok (.invokevirtual 231, 3) := by decide +kernel
theorem d_M_seen_16 : decode c_M_seen 16 = .ok (.ifCond .ne 6, 3) := by decide +kernel
theorem d_M_seen_19 : decode c_M_seen 19 = .ok (.bipush (-6), 2) := by decide +kernel
theorem d_M_seen_21 : decode c_M_seen 21 = .ok (.ireturn, 1) := by decide +kernel
theorem d_M_seen_22 : decode c_M_seen 22 = .ok (.aload_n 0, 1) := by decide +kernel
theorem d_M_seen_23 : decode c_M_seen 23 = .ok (.getfield 72, 3) := by decide +kernel
theorem d_M_seen_26 : decode c_M_seen 26 = .ok (.iload_n 1, 1) := by decide +kernel
theorem d_M_seen_27 : decode c_M_seen 27 = .ok (.aload_n 0, 1) := by decide +kernel
theorem d_M_seen_28 : decode c_M_seen 28 = .ok (.getfield 217, 3) := by decide +kernel
theorem d_M_seen_31 : decode c_M_seen 31 = .ok (.irem, 1) := by decide +kernel
theorem d_M_seen_32 : decode c_M_seen 32 = .ok (.iaload, 1) := by decide +kernel
theorem d_M_seen_33 : decode c_M_seen 33 = .ok (.istore_n 2, 1) := by decide +kernel
theorem d_M_seen_34 : decode c_M_seen 34 = .ok (.iconst 0, 1) := by decide +kernel
theorem d_M_seen_35 : decode c_M_seen 35 = .ok (.istore_n 3, 1) := by decide +kernel
theorem d_M_seen_36 : decode c_M_seen 36 = .ok (.iconst 0, 1) := by decide +kernel
theorem d_M_seen_37 : decode c_M_seen 37 = .ok (.istore 4, 2) := by decide +kernel
theorem d_M_seen_39 : decode c_M_seen 39 = .ok (.iload 4, 2) := by decide +kernel
theorem d_M_seen_41 : decode c_M_seen 41 = .ok (.aload_n 0, 1) := by decide +kernel
theorem d_M_seen_42 : decode c_M_seen 42 = .ok (.getfield 111, 3) := by decide +kernel
theorem d_M_seen_45 : decode c_M_seen 45 = .ok (.if_icmp .ge 18, 3) := by decide +kernel
theorem d_M_seen_48 : decode c_M_seen 48 = .ok (.iload_n 3, 1) := by decide +kernel
theorem d_M_seen_49 : decode c_M_seen 49 = .ok (.iload_n 2, 1) := by decide +kernel
theorem d_M_seen_50 : decode c_M_seen 50 = .ok (.iload 4, 2) := by decide +kernel
theorem d_M_seen_52 : decode c_M_seen 52 = .ok (.ishr, 1) := by decide +kernel
theorem d_M_seen_53 : decode c_M_seen 53 = .ok (.iconst 1, 1) := by decide +kernel
theorem d_M_seen_54 : decode c_M_seen 54 = .ok (.iand, 1) := by decide +kernel
theorem d_M_seen_55 : decode c_M_seen 55 = .ok (.iadd, 1) := by decide +kernel
theorem d_M_seen_56 : decode c_M_seen 56 = .ok (.istore_n 3, 1) := by decide +kernel
theorem d_M_seen_57 : decode c_M_seen 57 = .ok (.iinc 4 1, 3) := by decide +kernel
theorem d_M_seen_60 : decode c_M_seen 60 = .ok (.goto (-21), 3) := by decide +kernel
theorem d_M_seen_63 : decode c_M_seen 63 = .ok (.aload_n 0, 1) := by decide +kernel
theorem d_M_seen_64 : decode c_M_seen 64 = .ok (.iload_n 2, 1) := by decide +kernel
theorem d_M_seen_65 : decode c_M_seen 65 = .ok (.iload_n 3, 1) := by decide +kernel
theorem d_M_seen_66 : decode c_M_seen 66 = .ok (.invokevirtual 234, 3) := by decide +kernel
theorem d_M_seen_69 : decode c_M_seen 69 = .ok (.ireturn, 1) := by decide +kernel
theorem d_M_isSeen_0 : decode c_M_isSeen 0 = .ok (.aload_n 0, 1) := by decide +kernel
theorem d_M_isSeen_1 : decode c_M_isSeen 1 = .ok (.getfield 72, 3) := by decide +kernel
theorem d_M_isSeen_4 : decode c_M_isSeen 4 = .ok (.iload_n 2, 1) := by decide +kernel
theorem d_M_isSeen_5 : decode c_M_isSeen 5 = .ok (.aload_n 0, 1) := by decide +kernel
theorem d_M_isSeen_6 : decode c_M_isSeen 6 = .ok (.getfield 217, 3) := by decide +kernel
theorem d_M_isSeen_9 : decode c_M_isSeen 9 = .ok (.irem, 1) := by decide +kernel
theorem d_M_isSeen_10 : decode c_M_isSeen 10 = .ok (.iaload, 1) := by decide +kernel
theorem d_M_isSeen_11 : decode c_M_isSeen 11 = .ok (.iload_n 1, 1) := by decide +kernel
theorem d_M_isSeen_12 : decode c_M_isSeen 12 = .ok (.ishr, 1) := by decide +kernel
theorem d_M_isSeen_13 : decode c_M_isSeen 13 = .ok (.iconst 1, 1) := by decide +kernel
theorem d_M_isSeen_14 : decode c_M_isSeen 14 = .ok (.iand, 1) := by decide +kernel
theorem d_M_isSeen_15 : decode c_M_isSeen 15 = .ok (.iconst 1, 1) := by decide +kernel
theorem d_M_isSeen_16 : decode c_M_isSeen 16 = .ok (.if_icmp .ne 7, 3) := by decide +kernel
theorem d_M_isSeen_19 : decode c_M_isSeen 19 = .ok (.iconst 1, 1) := by decide +kernel
theorem d_M_isSeen_20 : decode c_M_isSeen 20 = .ok (.goto 4, 3) := by decide +kernel
theorem d_M_isSeen_23 : decode c_M_isSeen 23 = .ok (.iconst 0, 1) := by decide +kernel
theorem d_M_isSeen_24 : decode c_M_isSeen 24 = .ok (.ireturn, 1) := by decide +kernel
theorem d_M_layRows_0 : decode c_M_layRows 0 = .ok (.aload_n 0, 1) := by decide +kernel
theorem d_M_layRows_1 : decode c_M_layRows 1 = .ok (.iconst 0, 1) := by decide +kernel
theorem d_M_layRows_2 : decode c_M_layRows 2 = .ok (.putfield 237, 3) := by decide +kernel
theorem d_M_layRows_5 : decode c_M_layRows 5 = .ok (.aload_n 0, 1) := by decide +kernel
theorem d_M_layRows_6 : decode c_M_layRows 6 = .ok (.bipush (-9), 2) := by decide +kernel
theorem d_M_layRows_8 : decode c_M_layRows 8 = .ok (.putfield 240, 3) := by decide +kernel
theorem d_M_layRows_11 : decode c_M_layRows 11 = .ok (.aload_n 0, 1) := by decide +kernel
theorem d_M_layRows_12 : decode c_M_layRows 12 = .ok (.iconst 0, 1) := by decide +kernel
theorem d_M_layRows_13 : decode c_M_layRows 13 = .ok (.putfield 243, 3) := by decide +kernel
theorem d_M_layRows_16 : decode c_M_layRows 16 = .ok (.iconst 0, 1) := by decide +kernel
theorem d_M_layRows_17 : decode c_M_layRows 17 = .ok (.istore_n 3, 1) := by decide +kernel
theorem d_M_layRows_18 : decode c_M_layRows 18 = .ok (.iload_n 3, 1) := by decide +kernel
theorem d_M_layRows_19 : decode c_M_layRows 19 = .ok (.aload_n 0, 1) := by decide +kernel
theorem d_M_layRows_20 : decode c_M_layRows 20 = .ok (.getfield 217, 3) := by decide +kernel
theorem d_M_layRows_23 : decode c_M_layRows 23 = .ok (.if_icmp .ge 18, 3) := by decide +kernel
theorem d_M_layRows_26 : decode c_M_layRows 26 = .ok (.aload_n 0, 1) := by decide +kernel
theorem d_M_layRows_27 : decode c_M_layRows 27 = .ok (.iload_n 1, 1) := by decide +kernel
theorem d_M_layRows_28 : decode c_M_layRows 28 = .ok (.iload_n 3, 1) := by decide +kernel
theorem d_M_layRows_29 : decode c_M_layRows 29 = .ok (.invokevirtual 246, 3) := by decide +kernel
theorem d_M_layRows_32 : decode c_M_layRows 32 = .ok (.ifCond .ne 9, 3) := by decide +kernel
theorem d_M_layRows_35 : decode c_M_layRows 35 = .ok (.iinc 3 1, 3) := by decide +kernel
theorem d_M_layRows_38 : decode c_M_layRows 38 = .ok (.goto (-20), 3) := by decide +kernel
theorem d_M_layRows_41 : decode c_M_layRows 41 = .ok (.iload_n 3, 1) := by decide +kernel
theorem d_M_layRows_42 : decode c_M_layRows 42 = .ok (.aload_n 0, 1) := by decide +kernel
theorem d_M_layRows_43 : decode c_M_layRows 43 = .ok (.getfield 217, 3) := by decide +kernel
theorem d_M_layRows_46 : decode c_M_layRows 46 = .ok (.if_icmp .ne 18, 3) := by decide +kernel
theorem d_M_layRows_49 : decode c_M_layRows 49 = .ok (.aload_n 0, 1) := by decide +kernel
theorem d_M_layRows_50 : decode c_M_layRows 50 = .ok (.bipush (-9), 2) := by decide +kernel
theorem d_M_layRows_52 : decode c_M_layRows 52 = .ok (.putfield 237, 3) := by decide +kernel
theorem d_M_layRows_55 : decode c_M_layRows 55 = .ok (.aload_n 0, 1) := by decide +kernel
theorem d_M_layRows_56 : decode c_M_layRows 56 = .ok (.aload_n 0, 1) := by decide +kernel
theorem d_M_layRows_57 : decode c_M_layRows 57 = .ok (.getfield 217, 3) := by decide +kernel
theorem d_M_layRows_60 : decode c_M_layRows 60 = .ok (.putfield 243, 3) := by decide +kernel
theorem d_M_layRows_63 : decode c_M_layRows 63 = .ok (.return_, 1) := by decide +kernel
theorem d_M_layRows_64 : decode c_M_layRows 64 = .ok (.iconst 0, 1) := by decide +kernel
theorem d_M_layRows_65 : decode c_M_layRows 65 = .ok (.istore 4, 2) := by decide +kernel
theorem d_M_layRows_67 : decode c_M_layRows 67 = .ok (.iload_n 3, 1) := by decide +kernel
theorem d_M_layRows_68 : decode c_M_layRows 68 = .ok (.iconst 1, 1) := by decide +kernel
theorem d_M_layRows_69 : decode c_M_layRows 69 = .ok (.iadd, 1) := by decide +kernel
theorem d_M_layRows_70 : decode c_M_layRows 70 = .ok (.istore 5, 2) := by decide +kernel
theorem d_M_layRows_72 : decode c_M_layRows 72 = .ok (.iload 5, 2) := by decide +kernel
theorem d_M_layRows_74 : decode c_M_layRows 74 = .ok (.iload_n 3, 1) := by decide +kernel
theorem d_M_layRows_75 : decode c_M_layRows 75 = .ok (.aload_n 0, 1) := by decide +kernel
theorem d_M_layRows_76 : decode c_M_layRows 76 = .ok (.getfield 217, 3) := by decide +kernel
theorem d_M_layRows_79 : decode c_M_layRows 79 = .ok (.iadd, 1) := by decide +kernel
theorem d_M_layRows_80 : decode c_M_layRows 80 = .ok (.if_icmp .gt 40, 3) := by decide +kernel
theorem d_M_layRows_83 : decode c_M_layRows 83 = .ok (.aload_n 0, 1) := by decide +kernel
theorem d_M_layRows_84 : decode c_M_layRows 84 = .ok (.iload_n 1, 1) := by decide +kernel
theorem d_M_layRows_85 : decode c_M_layRows 85 = .ok (.iload 5, 2) := by decide +kernel
theorem d_M_layRows_87 : decode c_M_layRows 87 = .ok (.invokevirtual 246, 3) := by decide +kernel
theorem d_M_layRows_90 : decode c_M_layRows 90 = .ok (.ifCond .eq 21, 3) := by decide +kernel
theorem d_M_layRows_93 : decode c_M_layRows 93 = .ok (.aload_n 0, 1) := by decide +kernel
theorem d_M_layRows_94 : decode c_M_layRows 94 = .ok (.iload 4, 2) := by decide +kernel
theorem d_M_layRows_96 : decode c_M_layRows 96 = .ok (.iload 5, 2) := by decide +kernel
theorem d_M_layRows_98 : decode c_M_layRows 98 = .ok (.iload 4, 2) := by decide +kernel
theorem d_M_layRows_100 : decode c_M_layRows 100 = .ok (.isub, 1) := by decide +kernel
theorem d_M_layRows_101 : decode c_M_layRows 101 = .ok (.iload_n 2, 1) := by decide +kernel
theorem d_M_layRows_102 : decode c_M_layRows 102 = .ok (.invokevirtual 250, 3) := by decide +kernel
theorem d_M_layRows_105 : decode c_M_layRows 105 = .ok (.iconst 0, 1) := by decide +kernel
theorem d_M_layRows_106 : decode c_M_layRows 106 = .ok (.istore 4, 2) := by decide +kernel
theorem d_M_layRows_108 : decode c_M_layRows 108 = .ok (.goto 6, 3) := by decide +kernel
theorem d_M_layRows_111 : decode c_M_layRows 111 = .ok (.iinc 4 1, 3) := by decide +kernel
theorem d_M_layRows_114 : decode c_M_layRows 114 = .ok (.iinc 5 1, 3) := by decide +kernel
theorem d_M_layRows_117 : decode c_M_layRows 117 = .ok (.goto (-45), 3) := by decide +kernel
theorem d_M_layRows_120 : decode c_M_layRows 120 = .ok (.return_, 1) := by decide +kernel
theorem d_M_closeRow_0 : decode c_M_closeRow 0 = .ok (.iload_n 2, 1) := by decide +kernel
theorem d_M_closeRow_1 : decode c_M_closeRow 1 = .ok (.aload_n 0, 1) := by decide +kernel
theorem d_M_closeRow_2 : decode c_M_closeRow 2 = .ok (.getfield 217, 3) := by decide +kernel
theorem d_M_closeRow_5 : decode c_M_closeRow 5 = .ok (.irem, 1) := by decide +kernel
theorem d_M_closeRow_6 : decode c_M_closeRow 6 = .ok (.istore 4, 2) := by decide +kernel
theorem d_M_closeRow_8 : decode c_M_closeRow 8 = .ok (.iload_n 1, 1) := by decide +kernel
theorem d_M_closeRow_9 : decode c_M_closeRow 9 = .ok (.aload_n 0, 1) := by decide +kernel
theorem d_M_closeRow_10 : decode c_M_closeRow 10 = .ok (.getfield 237, 3) := by decide +kernel
theorem d_M_closeRow_13 : decode c_M_closeRow 13 = .ok (.if_icmp .gt 24, 3) := by decide +kernel
theorem d_M_closeRow_16 : decode c_M_closeRow 16 = .ok (.iload_n 1, 1) := by decide +kernel
theorem d_M_closeRow_17 : decode c_M_closeRow 17 = .ok (.ifCond .le 31, 3) := by decide +kernel
theorem d_M_closeRow_20 : decode c_M_closeRow 20 = .ok (.iload_n 1, 1) := by decide +kernel
theorem d_M_closeRow_21 : decode c_M_closeRow 21 = .ok (.aload_n 0, 1) := by decide +kernel
theorem d_M_closeRow_22 : decode c_M_closeRow 22 = .ok (.getfield 237, 3) := by decide +kernel
theorem d_M_closeRow_25 : decode c_M_closeRow 25 = .ok (.if_icmp .ne 23, 3) := by decide +kernel
theorem d_M_closeRow_28 : decode c_M_closeRow 28 = .ok (.iload 4, 2) := by decide +kernel
theorem d_M_closeRow_30 : decode c_M_closeRow 30 = .ok (.aload_n 0, 1) := by decide +kernel
theorem d_M_closeRow_31 : decode c_M_closeRow 31 = .ok (.getfield 240, 3) := by decide +kernel
theorem d_M_closeRow_34 : decode c_M_closeRow 34 = .ok (.if_icmp .ge 14, 3) := by decide +kernel
theorem d_M_closeRow_37 : decode c_M_closeRow 37 = .ok (.aload_n 0, 1) := by decide +kernel
theorem d_M_closeRow_38 : decode c_M_closeRow 38 = .ok (.iload_n 1, 1) := by decide +kernel
theorem d_M_closeRow_39 : decode c_M_closeRow 39 = .ok (.putfield 237, 3) := by decide +kernel
theorem d_M_closeRow_42 : decode c_M_closeRow 42 = .ok (.aload_n 0, 1) := by decide +kernel
theorem d_M_closeRow_43 : decode c_M_closeRow 43 = .ok (.iload 4, 2) := by decide +kernel
theorem d_M_closeRow_45 : decode c_M_closeRow 45 = .ok (.putfield 240, 3) := by decide +kernel
theorem d_M_closeRow_48 : decode c_M_closeRow 48 = .ok (.aload_n 0, 1) := by decide +kernel
theorem d_M_closeRow_49 : decode c_M_closeRow 49 = .ok (.dup, 1) := by decide +kernel
theorem d_M_closeRow_50 : decode c_M_closeRow 50 = .ok (.getfield 243, 3) := by decide +kernel
theorem d_M_closeRow_53 : decode c_M_closeRow 53 = .ok (.iload_n 1, 1) := by decide +kernel
theorem d_M_closeRow_54 : decode c_M_closeRow 54 = .ok (.iload_n 3, 1) := by decide +kernel
theorem d_M_closeRow_55 : decode c_M_closeRow 55 = .ok (.if_icmp .lt 11, 3) := by decide +kernel
theorem d_M_closeRow_58 : decode c_M_closeRow 58 = .ok (.iload_n 1, 1) := by decide +kernel
theorem d_M_closeRow_59 : decode c_M_closeRow 59 = .ok (.iload_n 3, 1) := by decide +kernel
theorem d_M_closeRow_60 : decode c_M_closeRow 60 = .ok (.isub, 1) := by decide +kernel
theorem d_M_closeRow_61 : decode c_M_closeRow 61 = .ok (.iconst 1, 1) := by decide +kernel
theorem d_M_closeRow_62 : decode c_M_closeRow 62 = .ok (.iadd, 1) := by decide +kernel
theorem d_M_closeRow_63 : decode c_M_closeRow 63 = .ok (.goto 4, 3) := by decide +kernel
theorem d_M_closeRow_66 : decode c_M_closeRow 66 = .ok (.iconst 0, 1) := by decide +kernel
theorem d_M_closeRow_67 : decode c_M_closeRow 67 = .ok (.iadd, 1) := by decide +kernel
theorem d_M_closeRow_68 : decode c_M_closeRow 68 = .ok (.putfield 243, 3) := by decide +kernel
theorem d_M_closeRow_71 : decode c_M_closeRow 71 = .ok (.return_, 1) := by decide +kernel
theorem d_M_idle_0 : decode c_M_idle 0 = .ok (.aload_n 0, 1) := by decide +kernel
theorem d_M_idle_1 : decode c_M_idle 1 = .ok (.iload_n 1, 1) := by decide +kernel
theorem d_M_idle_2 : decode c_M_idle 2 = .ok (.invokevirtual 151, 3) := by decide +kernel
theorem d_M_idle_5 : decode c_M_idle 5 = .ok (.ifCond .ne 5, 3) := by decide +kernel
theorem d_M_idle_8 : decode c_M_idle 8 = .ok (.iconst (-1), 1) := by decide +kernel
theorem d_M_idle_9 : decode c_M_idle 9 = .ok (.ireturn, 1) := by decide +kernel
theorem d_M_idle_10 : decode c_M_idle 10 = .ok (.aload_n 0, 1) := by decide +kernel
theorem d_M_idle_11 : decode c_M_idle 11 = .ok (.invokevirtual 231, 3) := by decide +kernel
theorem d_M_idle_14 : decode c_M_idle 14 = .ok (.ifCond .ne 6, 3) := by decide +kernel
theorem d_M_idle_17 : decode c_M_idle 17 = .ok (.bipush (-6), 2) := by decide +kernel
theorem d_M_idle_19 : decode c_M_idle 19 = .ok (.ireturn, 1) := by decide +kernel
theorem d_M_idle_20 : decode c_M_idle 20 = .ok (.aload_n 0, 1) := by decide +kernel
theorem d_M_idle_21 : decode c_M_idle 21 = .ok (.iload_n 1, 1) := by decide +kernel
theorem d_M_idle_22 : decode c_M_idle 22 = .ok (.iconst 1, 1) := by decide +kernel
theorem d_M_idle_23 : decode c_M_idle 23 = .ok (.invokevirtual 253, 3) := by decide +kernel
theorem d_M_idle_26 : decode c_M_idle 26 = .ok (.aload_n 0, 1) := by decide +kernel
theorem d_M_idle_27 : decode c_M_idle 27 = .ok (.getfield 237, 3) := by decide +kernel
theorem d_M_idle_30 : decode c_M_idle 30 = .ok (.ireturn, 1) := by decide +kernel
theorem d_M_idleFrom_0 : decode c_M_idleFrom 0 = .ok (.aload_n 0, 1) := by decide +kernel
theorem d_M_idleFrom_1 : decode c_M_idleFrom 1 = .ok (.iload_n 1, 1) := by decide +kernel
theorem d_M_idleFrom_2 : decode c_M_idleFrom 2 = .ok (.invokevirtual 151, 3) := by decide +kernel
theorem d_M_idleFrom_5 : decode c_M_idleFrom 5 = .ok (.ifCond .ne 5, 3) := by decide +kernel
theorem d_M_idleFrom_8 : decode c_M_idleFrom 8 = .ok (.iconst (-1), 1) := by decide +kernel
theorem d_M_idleFrom_9 : decode c_M_idleFrom 9 = .ok (.ireturn, 1) := by decide +kernel
theorem d_M_idleFrom_10 : decode c_M_idleFrom 10 = .ok (.aload_n 0, 1) := by decide +kernel
theorem d_M_idleFrom_11 : decode c_M_idleFrom 11 = .ok (.invokevirtual 231, 3) := by decide +kernel
theorem d_M_idleFrom_14 : decode c_M_idleFrom 14 = .ok (.ifCond .ne 6, 3) := by decide +kernel
theorem d_M_idleFrom_17 : decode c_M_idleFrom 17 = .ok (.bipush (-6), 2) := by decide +kernel
theorem d_M_idleFrom_19 : decode c_M_idleFrom 19 = .ok (.ireturn, 1) := by decide +kernel
theorem d_M_idleFrom_20 : decode c_M_idleFrom 20 = .ok (.aload_n 0, 1) := by decide +kernel
theorem d_M_idleFrom_21 : decode c_M_idleFrom 21 = .ok (.iload_n 1, 1) := by decide +kernel
theorem d_M_idleFrom_22 : decode c_M_idleFrom 22 = .ok (.iconst 1, 1) := by decide +kernel
theorem d_M_idleFrom_23 : decode c_M_idleFrom 23 = .ok (.invokevirtual 253, 3) := by decide +kernel
theorem d_M_idleFrom_26 : decode c_M_idleFrom 26 = .ok (.aload_n 0, 1) := by decide +kernel
theorem d_M_idleFrom_27 : decode c_M_idleFrom 27 = .ok (.getfield 240, 3) := by decide +kernel
theorem d_M_idleFrom_30 : decode c_M_idleFrom 30 = .ok (.ireturn, 1) := by decide +kernel
theorem d_M_layWorst_0 : decode c_M_layWorst 0 = .ok (.aload_n 0, 1) := by decide +kernel
theorem d_M_layWorst_1 : decode c_M_layWorst 1 = .ok (.bipush (-9), 2) := by decide +kernel
theorem d_M_layWorst_3 : decode c_M_layWorst 3 = .ok (.putfield 256, 3) := by decide +kernel
theorem d_M_layWorst_6 : decode c_M_layWorst 6 = .ok (.aload_n 0, 1) := by decide +kernel
theorem d_M_layWorst_7 : decode c_M_layWorst 7 = .ok (.iconst 0, 1) := by decide +kernel
theorem d_M_layWorst_8 : decode c_M_layWorst 8 = .ok (.putfield 259, 3) := by decide +kernel
theorem d_M_layWorst_11 : decode c_M_layWorst 11 = .ok (.iconst 0, 1) := by decide +kernel
theorem d_M_layWorst_12 : decode c_M_layWorst 12 = .ok (.istore_n 1, 1) := by decide +kernel
theorem d_M_layWorst_13 : decode c_M_layWorst 13 = .ok (.iload_n 1, 1) := by decide +kernel
theorem d_M_layWorst_14 : decode c_M_layWorst 14 = .ok (.aload_n 0, 1) := by decide +kernel
theorem d_M_layWorst_15 : decode c_M_layWorst 15 = .ok (.getfield 111, 3) := by decide +kernel
theorem d_M_layWorst_18 : decode c_M_layWorst 18 = .ok (.if_icmp .ge 103, 3) := by decide +kernel
theorem d_M_layWorst_21 : decode c_M_layWorst 21 = .ok (.aload_n 0, 1) := by decide +kernel
theorem d_M_layWorst_22 : decode c_M_layWorst 22 = .ok (.getfield 30, 3) := by decide +kernel
theorem d_M_layWorst_25 : decode c_M_layWorst 25 = .ok (.iload_n 1, 1) := by decide +kernel
theorem d_M_layWorst_26 : decode c_M_layWorst 26 = .ok (.iaload, 1) := by decide +kernel
theorem d_M_layWorst_27 : decode c_M_layWorst 27 = .ok (.ifCond .le 88, 3) := by decide +kernel
theorem d_M_layWorst_30 : decode c_M_layWorst 30 = .ok (.aload_n 0, 1) := by decide +kernel
theorem d_M_layWorst_31 : decode c_M_layWorst 31 = .ok (.getfield 259, 3) := by decide +kernel
theorem d_M_layWorst_34 : decode c_M_layWorst 34 = .ok (.bipush (-9), 2) := by decide +kernel
theorem d_M_layWorst_36 : decode c_M_layWorst 36 = .ok (.if_icmp .eq 79, 3) := by decide +kernel
theorem d_M_layWorst_39 : decode c_M_layWorst 39 = .ok (.aload_n 0, 1) := by decide +kernel
theorem d_M_layWorst_40 : decode c_M_layWorst 40 = .ok (.iload_n 1, 1) := by decide +kernel
theorem d_M_layWorst_41 : decode c_M_layWorst 41 = .ok (.iconst 1, 1) := by decide +kernel
theorem d_M_layWorst_42 : decode c_M_layWorst 42 = .ok (.invokevirtual 253, 3) := by decide +kernel
theorem d_M_layWorst_45 : decode c_M_layWorst 45 = .ok (.aload_n 0, 1) := by decide +kernel
theorem d_M_layWorst_46 : decode c_M_layWorst 46 = .ok (.getfield 237, 3) := by decide +kernel
theorem d_M_layWorst_49 : decode c_M_layWorst 49 = .ok (.bipush (-9), 2) := by decide +kernel
theorem d_M_layWorst_51 : decode c_M_layWorst 51 = .ok (.if_icmp .ne 17, 3) := by decide +kernel
theorem d_M_layWorst_54 : decode c_M_layWorst 54 = .ok (.aload_n 0, 1) := by decide +kernel
theorem d_M_layWorst_55 : decode c_M_layWorst 55 = .ok (.iload_n 1, 1) := by decide +kernel
theorem d_M_layWorst_56 : decode c_M_layWorst 56 = .ok (.putfield 256, 3) := by decide +kernel
theorem d_M_layWorst_59 : decode c_M_layWorst 59 = .ok (.aload_n 0, 1) := by decide +kernel
theorem d_M_layWorst_60 : decode c_M_layWorst 60 = .ok (.bipush (-9), 2) := by decide +kernel
theorem d_M_layWorst_62 : decode c_M_layWorst 62 = .ok (.putfield 259, 3) := by decide +kernel
theorem d_M_layWorst_65 : decode c_M_layWorst 65 = .ok (.goto 50, 3) := by decide +kernel
theorem d_M_layWorst_68 : decode c_M_layWorst 68 = .ok (.aload_n 0, 1) := by decide +kernel
theorem d_M_layWorst_69 : decode c_M_layWorst 69 = .ok (.getfield 256, 3) := by decide +kernel
theorem d_M_layWorst_72 : decode c_M_layWorst 72 = .ok (.bipush (-9), 2) := by decide +kernel
theorem d_M_layWorst_74 : decode c_M_layWorst 74 = .ok (.if_icmp .eq 21, 3) := by decide +kernel
theorem d_M_layWorst_77 : decode c_M_layWorst 77 = .ok (.aload_n 0, 1) := by decide +kernel
theorem d_M_layWorst_78 : decode c_M_layWorst 78 = .ok (.getfield 30, 3) := by decide +kernel
theorem d_M_layWorst_81 : decode c_M_layWorst 81 = .ok (.iload_n 1, 1) := by decide +kernel
theorem d_M_layWorst_82 : decode c_M_layWorst 82 = .ok (.iaload, 1) := by decide +kernel
theorem d_M_layWorst_83 : decode c_M_layWorst 83 = .ok (.aload_n 0, 1) := by decide +kernel
theorem d_M_layWorst_84 : decode c_M_layWorst 84 = .ok (.getfield 237, 3) := by decide +kernel
theorem d_M_layWorst_87 : decode c_M_layWorst 87 = .ok (.imul, 1) := by decide +kernel
theorem d_M_layWorst_88 : decode c_M_layWorst 88 = .ok (.aload_n 0, 1) := by decide +kernel
theorem d_M_layWorst_89 : decode c_M_layWorst 89 = .ok (.getfield 259, 3) := by decide +kernel
theorem d_M_layWorst_92 : decode c_M_layWorst 92 = .ok (.if_icmp .le 23, 3) := by decide +kernel
theorem d_M_layWorst_95 : decode c_M_layWorst 95 = .ok (.aload_n 0, 1) := by decide +kernel
theorem d_M_layWorst_96 : decode c_M_layWorst 96 = .ok (.iload_n 1, 1) := by decide +kernel
theorem d_M_layWorst_97 : decode c_M_layWorst 97 = .ok (.putfield 256, 3) := by decide +kernel
theorem d_M_layWorst_100 : decode c_M_layWorst 100 = .ok (.aload_n 0, 1) := by decide +kernel
theorem d_M_layWorst_101 : decode c_M_layWorst 101 = .ok (.aload_n 0, 1) := by decide +kernel
theorem d_M_layWorst_102 : decode c_M_layWorst 102 = .ok (.getfield 30, 3) := by decide +kernel
theorem d_M_layWorst_105 : decode c_M_layWorst 105 = .ok (.iload_n 1, 1) := by decide +kernel
theorem d_M_layWorst_106 : decode c_M_layWorst 106 = .ok (.iaload, 1) := by decide +kernel
theorem d_M_layWorst_107 : decode c_M_layWorst 107 = .ok (.aload_n 0, 1) := by decide +kernel
theorem d_M_layWorst_108 : decode c_M_layWorst 108 = .ok (.getfield 237, 3) := by decide +kernel
theorem d_M_layWorst_111 : decode c_M_layWorst 111 = .ok (.imul, 1) := by decide +kernel
theorem d_M_layWorst_112 : decode c_M_layWorst 112 = .ok (.putfield 259, 3) := by decide +kernel
theorem d_M_layWorst_115 : decode c_M_layWorst 115 = .ok (.iinc 1 1, 3) := by decide +kernel
theorem d_M_layWorst_118 : decode c_M_layWorst 118 = .ok (.goto (-105), 3) := by decide +kernel
theorem d_M_layWorst_121 : decode c_M_layWorst 121 = .ok (.return_, 1) := by decide +kernel
theorem d_M_worst_0 : decode c_M_worst 0 = .ok (.aload_n 0, 1) := by decide +kernel
theorem d_M_worst_1 : decode c_M_worst 1 = .ok (.invokevirtual 231, 3) := by decide +kernel
theorem d_M_worst_4 : decode c_M_worst 4 = .ok (.ifCond .ne 6, 3) := by decide +kernel
theorem d_M_worst_7 : decode c_M_worst 7 = .ok (.bipush (-6), 2) := by decide +kernel
theorem d_M_worst_9 : decode c_M_worst 9 = .ok (.ireturn, 1) := by decide +kernel
theorem d_M_worst_10 : decode c_M_worst 10 = .ok (.aload_n 0, 1) := by decide +kernel
theorem d_M_worst_11 : decode c_M_worst 11 = .ok (.invokevirtual 262, 3) := by decide +kernel
theorem d_M_worst_14 : decode c_M_worst 14 = .ok (.aload_n 0, 1) := by decide +kernel
theorem d_M_worst_15 : decode c_M_worst 15 = .ok (.getfield 256, 3) := by decide +kernel
theorem d_M_worst_18 : decode c_M_worst 18 = .ok (.bipush (-9), 2) := by decide +kernel
theorem d_M_worst_20 : decode c_M_worst 20 = .ok (.if_icmp .ne 8, 3) := by decide +kernel
theorem d_M_worst_23 : decode c_M_worst 23 = .ok (.bipush (-9), 2) := by decide +kernel
theorem d_M_worst_25 : decode c_M_worst 25 = .ok (.goto 15, 3) := by decide +kernel
theorem d_M_worst_28 : decode c_M_worst 28 = .ok (.aload_n 0, 1) := by decide +kernel
theorem d_M_worst_29 : decode c_M_worst 29 = .ok (.aload_n 0, 1) := by decide +kernel
theorem d_M_worst_30 : decode c_M_worst 30 = .ok (.getfield 259, 3) := by decide +kernel
theorem d_M_worst_33 : decode c_M_worst 33 = .ok (.aload_n 0, 1) := by decide +kernel
theorem d_M_worst_34 : decode c_M_worst 34 = .ok (.getfield 256, 3) := by decide +kernel
theorem d_M_worst_37 : decode c_M_worst 37 = .ok (.invokevirtual 234, 3) := by decide +kernel
theorem d_M_worst_40 : decode c_M_worst 40 = .ok (.ireturn, 1) := by decide +kernel
theorem d_M_share_0 : decode c_M_share 0 = .ok (.aload_n 0, 1) := by decide +kernel
theorem d_M_share_1 : decode c_M_share 1 = .ok (.iload_n 1, 1) := by decide +kernel
theorem d_M_share_2 : decode c_M_share 2 = .ok (.invokevirtual 151, 3) := by decide +kernel
theorem d_M_share_5 : decode c_M_share 5 = .ok (.ifCond .ne 5, 3) := by decide +kernel
theorem d_M_share_8 : decode c_M_share 8 = .ok (.iconst (-1), 1) := by decide +kernel
theorem d_M_share_9 : decode c_M_share 9 = .ok (.ireturn, 1) := by decide +kernel
theorem d_M_share_10 : decode c_M_share 10 = .ok (.aload_n 0, 1) := by decide +kernel
theorem d_M_share_11 : decode c_M_share 11 = .ok (.invokevirtual 231, 3) := by decide +kernel
theorem d_M_share_14 : decode c_M_share 14 = .ok (.ifCond .ne 6, 3) := by decide +kernel
theorem d_M_share_17 : decode c_M_share 17 = .ok (.bipush (-6), 2) := by decide +kernel
theorem d_M_share_19 : decode c_M_share 19 = .ok (.ireturn, 1) := by decide +kernel
theorem d_M_share_20 : decode c_M_share 20 = .ok (.iconst 0, 1) := by decide +kernel
theorem d_M_share_21 : decode c_M_share 21 = .ok (.istore_n 2, 1) := by decide +kernel
theorem d_M_share_22 : decode c_M_share 22 = .ok (.iconst 0, 1) := by decide +kernel
theorem d_M_share_23 : decode c_M_share 23 = .ok (.istore_n 3, 1) := by decide +kernel
theorem d_M_share_24 : decode c_M_share 24 = .ok (.iload_n 3, 1) := by decide +kernel
theorem d_M_share_25 : decode c_M_share 25 = .ok (.aload_n 0, 1) := by decide +kernel
theorem d_M_share_26 : decode c_M_share 26 = .ok (.getfield 217, 3) := by decide +kernel
theorem d_M_share_29 : decode c_M_share 29 = .ok (.if_icmp .ge 26, 3) := by decide +kernel
theorem d_M_share_32 : decode c_M_share 32 = .ok (.iload_n 2, 1) := by decide +kernel
theorem d_M_share_33 : decode c_M_share 33 = .ok (.aload_n 0, 1) := by decide +kernel
theorem d_M_share_34 : decode c_M_share 34 = .ok (.iload_n 1, 1) := by decide +kernel
theorem d_M_share_35 : decode c_M_share 35 = .ok (.iload_n 3, 1) := by decide +kernel
theorem d_M_share_36 : decode c_M_share 36 = .ok (.invokevirtual 246, 3) := by decide +kernel
theorem d_M_share_39 : decode c_M_share 39 = .ok (.ifCond .eq 7, 3) := by decide +kernel
theorem d_M_share_42 : decode c_M_share 42 = .ok (.iconst 1, 1) := by decide +kernel
theorem d_M_share_43 : decode c_M_share 43 = .ok (.goto 4, 3) := by decide +kernel
theorem d_M_share_46 : decode c_M_share 46 = .ok (.iconst 0, 1) := by decide +kernel
theorem d_M_share_47 : decode c_M_share 47 = .ok (.iadd, 1) := by decide +kernel
theorem d_M_share_48 : decode c_M_share 48 = .ok (.istore_n 2, 1) := by decide +kernel
theorem d_M_share_49 : decode c_M_share 49 = .ok (.iinc 3 1, 3) := by decide +kernel
theorem d_M_share_52 : decode c_M_share 52 = .ok (.goto (-28), 3) := by decide +kernel
theorem d_M_share_55 : decode c_M_share 55 = .ok (.aload_n 0, 1) := by decide +kernel
theorem d_M_share_56 : decode c_M_share 56 = .ok (.iload_n 2, 1) := by decide +kernel
theorem d_M_share_57 : decode c_M_share 57 = .ok (.i2l, 1) := by decide +kernel
theorem d_M_share_58 : decode c_M_share 58 = .ok (.aload_n 0, 1) := by decide +kernel
theorem d_M_share_59 : decode c_M_share 59 = .ok (.getfield 217, 3) := by decide +kernel
theorem d_M_share_62 : decode c_M_share 62 = .ok (.i2l, 1) := by decide +kernel
theorem d_M_share_63 : decode c_M_share 63 = .ok (.iconst 1, 1) := by decide +kernel
theorem d_M_share_64 : decode c_M_share 64 = .ok (.invokevirtual 265, 3) := by decide +kernel
theorem d_M_share_67 : decode c_M_share 67 = .ok (.ireturn, 1) := by decide +kernel
theorem d_M_isNeed_0 : decode c_M_isNeed 0 = .ok (.iload_n 0, 1) := by decide +kernel
theorem d_M_isNeed_1 : decode c_M_isNeed 1 = .ok (.iconst 1, 1) := by decide +kernel
theorem d_M_isNeed_2 : decode c_M_isNeed 2 = .ok (.sipush 14400, 3) := by decide +kernel
theorem d_M_isNeed_5 : decode c_M_isNeed 5 = .ok (.invokestatic 117, 3) := by decide +kernel
theorem d_M_isNeed_8 : decode c_M_isNeed 8 = .ok (.ireturn, 1) := by decide +kernel
theorem d_M_chance_0 : decode c_M_chance 0 = .ok (.aload_n 0, 1) := by decide +kernel
theorem d_M_chance_1 : decode c_M_chance 1 = .ok (.iload_n 1, 1) := by decide +kernel
theorem d_M_chance_2 : decode c_M_chance 2 = .ok (.invokevirtual 151, 3) := by decide +kernel
theorem d_M_chance_5 : decode c_M_chance 5 = .ok (.ifCond .eq 10, 3) := by decide +kernel
theorem d_M_chance_8 : decode c_M_chance 8 = .ok (.iload_n 2, 1) := by decide +kernel
theorem d_M_chance_9 : decode c_M_chance 9 = .ok (.invokestatic 269, 3) := by decide +kernel
theorem d_M_chance_12 : decode c_M_chance 12 = .ok (.ifCond .ne 5, 3) := by decide +kernel
theorem d_M_chance_15 : decode c_M_chance 15 = .ok (.iconst (-1), 1) := by decide +kernel
theorem d_M_chance_16 : decode c_M_chance 16 = .ok (.ireturn, 1) := by decide +kernel
theorem d_M_chance_17 : decode c_M_chance 17 = .ok (.aload_n 0, 1) := by decide +kernel
theorem d_M_chance_18 : decode c_M_chance 18 = .ok (.invokevirtual 231, 3) := by decide +kernel
theorem d_M_chance_21 : decode c_M_chance 21 = .ok (.ifCond .ne 6, 3) := by decide +kernel
theorem d_M_chance_24 : decode c_M_chance 24 = .ok (.bipush (-6), 2) := by decide +kernel
theorem d_M_chance_26 : decode c_M_chance 26 = .ok (.ireturn, 1) := by decide +kernel
theorem d_M_chance_27 : decode c_M_chance 27 = .ok (.aload_n 0, 1) := by decide +kernel
theorem d_M_chance_28 : decode c_M_chance 28 = .ok (.iload_n 1, 1) := by decide +kernel
theorem d_M_chance_29 : decode c_M_chance 29 = .ok (.iload_n 2, 1) := by decide +kernel
theorem d_M_chance_30 : decode c_M_chance 30 = .ok (.invokevirtual 253, 3) := by decide +kernel
theorem d_M_chance_33 : decode c_M_chance 33 = .ok (.aload_n 0, 1) := by decide +kernel
theorem d_M_chance_34 : decode c_M_chance 34 = .ok (.aload_n 0, 1) := by decide +kernel
theorem d_M_chance_35 : decode c_M_chance 35 = .ok (.getfield 243, 3) := by decide +kernel
theorem d_M_chance_38 : decode c_M_chance 38 = .ok (.i2l, 1) := by decide +kernel
theorem d_M_chance_39 : decode c_M_chance 39 = .ok (.aload_n 0, 1) := by decide +kernel
theorem d_M_chance_40 : decode c_M_chance 40 = .ok (.getfield 217, 3) := by decide +kernel
theorem d_M_chance_43 : decode c_M_chance 43 = .ok (.i2l, 1) := by decide +kernel
theorem d_M_chance_44 : decode c_M_chance 44 = .ok (.iconst 1, 1) := by decide +kernel
theorem d_M_chance_45 : decode c_M_chance 45 = .ok (.invokevirtual 265, 3) := by decide +kernel
theorem d_M_chance_48 : decode c_M_chance 48 = .ok (.ireturn, 1) := by decide +kernel
theorem d_M_thief_0 : decode c_M_thief 0 = .ok (.iload_n 1, 1) := by decide +kernel
theorem d_M_thief_1 : decode c_M_thief 1 = .ok (.invokestatic 269, 3) := by decide +kernel
theorem d_M_thief_4 : decode c_M_thief 4 = .ok (.ifCond .ne 5, 3) := by decide +kernel
theorem d_M_thief_7 : decode c_M_thief 7 = .ok (.iconst (-1), 1) := by decide +kernel
theorem d_M_thief_8 : decode c_M_thief 8 = .ok (.ireturn, 1) := by decide +kernel
theorem d_M_thief_9 : decode c_M_thief 9 = .ok (.aload_n 0, 1) := by decide +kernel
theorem d_M_thief_10 : decode c_M_thief 10 = .ok (.invokevirtual 231, 3) := by decide +kernel
theorem d_M_thief_13 : decode c_M_thief 13 = .ok (.ifCond .ne 6, 3) := by decide +kernel
theorem d_M_thief_16 : decode c_M_thief 16 = .ok (.bipush (-6), 2) := by decide +kernel
theorem d_M_thief_18 : decode c_M_thief 18 = .ok (.ireturn, 1) := by decide +kernel
theorem d_M_thief_19 : decode c_M_thief 19 = .ok (.bipush (-9), 2) := by decide +kernel
theorem d_M_thief_21 : decode c_M_thief 21 = .ok (.istore_n 2, 1) := by decide +kernel
theorem d_M_thief_22 : decode c_M_thief 22 = .ok (.iconst 0, 1) := by decide +kernel
theorem d_M_thief_23 : decode c_M_thief 23 = .ok (.istore_n 3, 1) := by decide +kernel
theorem d_M_thief_24 : decode c_M_thief 24 = .ok (.iconst 0, 1) := by decide +kernel
theorem d_M_thief_25 : decode c_M_thief 25 = .ok (.istore 4, 2) := by decide +kernel
theorem d_M_thief_27 : decode c_M_thief 27 = .ok (.iload 4, 2) := by decide +kernel
theorem d_M_thief_29 : decode c_M_thief 29 = .ok (.aload_n 0, 1) := by decide +kernel
theorem d_M_thief_30 : decode c_M_thief 30 = .ok (.getfield 111, 3) := by decide +kernel
theorem d_M_thief_33 : decode c_M_thief 33 = .ok (.if_icmp .ge 48, 3) := by decide +kernel
theorem d_M_thief_36 : decode c_M_thief 36 = .ok (.aload_n 0, 1) := by decide +kernel
theorem d_M_thief_37 : decode c_M_thief 37 = .ok (.iload 4, 2) := by decide +kernel
theorem d_M_thief_39 : decode c_M_thief 39 = .ok (.iload_n 1, 1) := by decide +kernel
theorem d_M_thief_40 : decode c_M_thief 40 = .ok (.invokevirtual 253, 3) := by decide +kernel
theorem d_M_thief_43 : decode c_M_thief 43 = .ok (.aload_n 0, 1) := by decide +kernel
theorem d_M_thief_44 : decode c_M_thief 44 = .ok (.getfield 30, 3) := by decide +kernel
theorem d_M_thief_47 : decode c_M_thief 47 = .ok (.iload 4, 2) := by decide +kernel
theorem d_M_thief_49 : decode c_M_thief 49 = .ok (.iaload, 1) := by decide +kernel
theorem d_M_thief_50 : decode c_M_thief 50 = .ok (.aload_n 0, 1) := by decide +kernel
theorem d_M_thief_51 : decode c_M_thief 51 = .ok (.getfield 243, 3) := by decide +kernel
theorem d_M_thief_54 : decode c_M_thief 54 = .ok (.imul, 1) := by decide +kernel
theorem d_M_thief_55 : decode c_M_thief 55 = .ok (.iload_n 3, 1) := by decide +kernel
theorem d_M_thief_56 : decode c_M_thief 56 = .ok (.if_icmp .le 19, 3) := by decide +kernel
theorem d_M_thief_59 : decode c_M_thief 59 = .ok (.iload 4, 2) := by decide +kernel
theorem d_M_thief_61 : decode c_M_thief 61 = .ok (.istore_n 2, 1) := by decide +kernel
theorem d_M_thief_62 : decode c_M_thief 62 = .ok (.aload_n 0, 1) := by decide +kernel
theorem d_M_thief_63 : decode c_M_thief 63 = .ok (.getfield 30, 3) := by decide +kernel
theorem d_M_thief_66 : decode c_M_thief 66 = .ok (.iload 4, 2) := by decide +kernel
theorem d_M_thief_68 : decode c_M_thief 68 = .ok (.iaload, 1) := by decide +kernel
theorem d_M_thief_69 : decode c_M_thief 69 = .ok (.aload_n 0, 1) := by decide +kernel
theorem d_M_thief_70 : decode c_M_thief 70 = .ok (.getfield 243, 3) := by decide +kernel
theorem d_M_thief_73 : decode c_M_thief 73 = .ok (.imul, 1) := by decide +kernel
theorem d_M_thief_74 : decode c_M_thief 74 = .ok (.istore_n 3, 1) := by decide +kernel
theorem d_M_thief_75 : decode c_M_thief 75 = .ok (.iinc 4 1, 3) := by decide +kernel
theorem d_M_thief_78 : decode c_M_thief 78 = .ok (.goto (-51), 3) := by decide +kernel
theorem d_M_thief_81 : decode c_M_thief 81 = .ok (.iload_n 2, 1) := by decide +kernel
theorem d_M_thief_82 : decode c_M_thief 82 = .ok (.bipush (-9), 2) := by decide +kernel
theorem d_M_thief_84 : decode c_M_thief 84 = .ok (.if_icmp .ne 8, 3) := by decide +kernel
theorem d_M_thief_87 : decode c_M_thief 87 = .ok (.bipush (-9), 2) := by decide +kernel
theorem d_M_thief_89 : decode c_M_thief 89 = .ok (.goto 15, 3) := by decide +kernel
theorem d_M_thief_92 : decode c_M_thief 92 = .ok (.aload_n 0, 1) := by decide +kernel
theorem d_M_thief_93 : decode c_M_thief 93 = .ok (.iload_n 3, 1) := by decide +kernel
theorem d_M_thief_94 : decode c_M_thief 94 = .ok (.i2l, 1) := by decide +kernel
theorem d_M_thief_95 : decode c_M_thief 95 = .ok (.aload_n 0, 1) := by decide +kernel
theorem d_M_thief_96 : decode c_M_thief 96 = .ok (.getfield 217, 3) := by decide +kernel
theorem d_M_thief_99 : decode c_M_thief 99 = .ok (.i2l, 1) := by decide +kernel
theorem d_M_thief_100 : decode c_M_thief 100 = .ok (.iload_n 2, 1) := by decide +kernel
theorem d_M_thief_101 : decode c_M_thief 101 = .ok (.invokevirtual 265, 3) := by decide +kernel
theorem d_M_thief_104 : decode c_M_thief 104 = .ok (.ireturn, 1) := by decide +kernel
theorem d_M_safe_0 : decode c_M_safe 0 = .ok (.aload_n 0, 1) := by decide +kernel
theorem d_M_safe_1 : decode c_M_safe 1 = .ok (.invokevirtual 231, 3) := by decide +kernel
theorem d_M_safe_4 : decode c_M_safe 4 = .ok (.ifCond .ne 6, 3) := by decide +kernel
theorem d_M_safe_7 : decode c_M_safe 7 = .ok (.bipush (-6), 2) := by decide +kernel
theorem d_M_safe_9 : decode c_M_safe 9 = .ok (.ireturn, 1) := by decide +kernel
theorem d_M_safe_10 : decode c_M_safe 10 = .ok (.iconst 0, 1) := by decide +kernel
theorem d_M_safe_11 : decode c_M_safe 11 = .ok (.istore_n 1, 1) := by decide +kernel
theorem d_M_safe_12 : decode c_M_safe 12 = .ok (.iconst 0, 1) := by decide +kernel
theorem d_M_safe_13 : decode c_M_safe 13 = .ok (.istore_n 2, 1) := by decide +kernel
theorem d_M_safe_14 : decode c_M_safe 14 = .ok (.iload_n 2, 1) := by decide +kernel
theorem d_M_safe_15 : decode c_M_safe 15 = .ok (.aload_n 0, 1) := by decide +kernel
theorem d_M_safe_16 : decode c_M_safe 16 = .ok (.getfield 111, 3) := by decide +kernel
theorem d_M_safe_19 : decode c_M_safe 19 = .ok (.if_icmp .ge 61, 3) := by decide +kernel
theorem d_M_safe_22 : decode c_M_safe 22 = .ok (.aload_n 0, 1) := by decide +kernel
theorem d_M_safe_23 : decode c_M_safe 23 = .ok (.getfield 30, 3) := by decide +kernel
theorem d_M_safe_26 : decode c_M_safe 26 = .ok (.iload_n 2, 1) := by decide +kernel
theorem d_M_safe_27 : decode c_M_safe 27 = .ok (.iaload, 1) := by decide +kernel
theorem d_M_safe_28 : decode c_M_safe 28 = .ok (.ifCond .le 46, 3) := by decide +kernel
theorem d_M_safe_31 : decode c_M_safe 31 = .ok (.iload_n 1, 1) := by decide +kernel
theorem d_M_safe_32 : decode c_M_safe 32 = .ok (.bipush (-9), 2) := by decide +kernel
theorem d_M_safe_34 : decode c_M_safe 34 = .ok (.if_icmp .eq 40, 3) := by decide +kernel
theorem d_M_safe_37 : decode c_M_safe 37 = .ok (.aload_n 0, 1) := by decide +kernel
theorem d_M_safe_38 : decode c_M_safe 38 = .ok (.iload_n 2, 1) := by decide +kernel
theorem d_M_safe_39 : decode c_M_safe 39 = .ok (.iconst 1, 1) := by decide +kernel
theorem d_M_safe_40 : decode c_M_safe 40 = .ok (.invokevirtual 253, 3) := by decide +kernel
theorem d_M_safe_43 : decode c_M_safe 43 = .ok (.aload_n 0, 1) := by decide +kernel
theorem d_M_safe_44 : decode c_M_safe 44 = .ok (.getfield 237, 3) := by decide +kernel
theorem d_M_safe_47 : decode c_M_safe 47 = .ok (.bipush (-9), 2) := by decide +kernel
theorem d_M_safe_49 : decode c_M_safe 49 = .ok (.if_icmp .ne 8, 3) := by decide +kernel
theorem d_M_safe_52 : decode c_M_safe 52 = .ok (.bipush (-9), 2) := by decide +kernel
theorem d_M_safe_54 : decode c_M_safe 54 = .ok (.goto 19, 3) := by decide +kernel
theorem d_M_safe_57 : decode c_M_safe 57 = .ok (.aload_n 0, 1) := by decide +kernel
theorem d_M_safe_58 : decode c_M_safe 58 = .ok (.getfield 237, 3) := by decide +kernel
theorem d_M_safe_61 : decode c_M_safe 61 = .ok (.iload_n 1, 1) := by decide +kernel
theorem d_M_safe_62 : decode c_M_safe 62 = .ok (.if_icmp .le 10, 3) := by decide +kernel
theorem d_M_safe_65 : decode c_M_safe 65 = .ok (.aload_n 0, 1) := by decide +kernel
theorem d_M_safe_66 : decode c_M_safe 66 = .ok (.getfield 237, 3) := by decide +kernel
theorem d_M_safe_69 : decode c_M_safe 69 = .ok (.goto 4, 3) := by decide +kernel
theorem d_M_safe_72 : decode c_M_safe 72 = .ok (.iload_n 1, 1) := by decide +kernel
theorem d_M_safe_73 : decode c_M_safe 73 = .ok (.istore_n 1, 1) := by decide +kernel
theorem d_M_safe_74 : decode c_M_safe 74 = .ok (.iinc 2 1, 3) := by decide +kernel
theorem d_M_safe_77 : decode c_M_safe 77 = .ok (.goto (-63), 3) := by decide +kernel
theorem d_M_safe_80 : decode c_M_safe 80 = .ok (.iload_n 1, 1) := by decide +kernel
theorem d_M_safe_81 : decode c_M_safe 81 = .ok (.ireturn, 1) := by decide +kernel
theorem d_M_bitsOf_0 : decode c_M_bitsOf 0 = .ok (.iconst 0, 1) := by decide +kernel
theorem d_M_bitsOf_1 : decode c_M_bitsOf 1 = .ok (.istore_n 1, 1) := by decide +kernel
theorem d_M_bitsOf_2 : decode c_M_bitsOf 2 = .ok (.iconst 0, 1) := by decide +kernel
theorem d_M_bitsOf_3 : decode c_M_bitsOf 3 = .ok (.istore_n 2, 1) := by decide +kernel
theorem d_M_bitsOf_4 : decode c_M_bitsOf 4 = .ok (.iload_n 2, 1) := by decide +kernel
theorem d_M_bitsOf_5 : decode c_M_bitsOf 5 = .ok (.bipush 8, 2) := by decide +kernel
theorem d_M_bitsOf_7 : decode c_M_bitsOf 7 = .ok (.if_icmp .ge 17, 3) := by decide +kernel
theorem d_M_bitsOf_10 : decode c_M_bitsOf 10 = .ok (.iload_n 1, 1) := by decide +kernel
theorem d_M_bitsOf_11 : decode c_M_bitsOf 11 = .ok (.iload_n 0, 1) := by decide +kernel
theorem d_M_bitsOf_12 : decode c_M_bitsOf 12 = .ok (.iload_n 2, 1) := by decide +kernel
theorem d_M_bitsOf_13 : decode c_M_bitsOf 13 = .ok (.ishr, 1) := by decide +kernel
theorem d_M_bitsOf_14 : decode c_M_bitsOf 14 = .ok (.iconst 1, 1) := by decide +kernel
theorem d_M_bitsOf_15 : decode c_M_bitsOf 15 = .ok (.iand, 1) := by decide +kernel
theorem d_M_bitsOf_16 : decode c_M_bitsOf 16 = .ok (.iadd, 1) := by decide +kernel
theorem d_M_bitsOf_17 : decode c_M_bitsOf 17 = .ok (.istore_n 1, 1) := by decide +kernel
theorem d_M_bitsOf_18 : decode c_M_bitsOf 18 = .ok (.iinc 2 1, 3) := by decide +kernel
theorem d_M_bitsOf_21 : decode c_M_bitsOf 21 = .ok (.goto (-17), 3) := by decide +kernel
theorem d_M_bitsOf_24 : decode c_M_bitsOf 24 = .ok (.iload_n 1, 1) := by decide +kernel
theorem d_M_bitsOf_25 : decode c_M_bitsOf 25 = .ok (.ireturn, 1) := by decide +kernel
theorem d_M_peril_0 : decode c_M_peril 0 = .ok (.iload_n 1, 1) := by decide +kernel
theorem d_M_peril_1 : decode c_M_peril 1 = .ok (.iconst 0, 1) := by decide +kernel
theorem d_M_peril_2 : decode c_M_peril 2 = .ok (.iconst 3, 1) := by decide +kernel
theorem d_M_peril_3 : decode c_M_peril 3 = .ok (.invokestatic 117, 3) := by decide +kernel
theorem d_M_peril_6 : decode c_M_peril 6 = .ok (.ifCond .ne 5, 3) := by decide +kernel
theorem d_M_peril_9 : decode c_M_peril 9 = .ok (.iconst (-1), 1) := by decide +kernel
theorem d_M_peril_10 : decode c_M_peril 10 = .ok (.ireturn, 1) := by decide +kernel
theorem d_M_peril_11 : decode c_M_peril 11 = .ok (.aload_n 0, 1) := by decide +kernel
theorem d_M_peril_12 : decode c_M_peril 12 = .ok (.iconst 0, 1) := by decide +kernel
theorem d_M_peril_13 : decode c_M_peril 13 = .ok (.putfield 181, 3) := by decide +kernel
theorem d_M_peril_16 : decode c_M_peril 16 = .ok (.iconst 0, 1) := by decide +kernel
theorem d_M_peril_17 : decode c_M_peril 17 = .ok (.istore_n 2, 1) := by decide +kernel
theorem d_M_peril_18 : decode c_M_peril 18 = .ok (.iconst 0, 1) := by decide +kernel
theorem d_M_peril_19 : decode c_M_peril 19 = .ok (.istore_n 3, 1) := by decide +kernel
theorem d_M_peril_20 : decode c_M_peril 20 = .ok (.iload_n 3, 1) := by decide +kernel
theorem d_M_peril_21 : decode c_M_peril 21 = .ok (.aload_n 0, 1) := by decide +kernel
theorem d_M_peril_22 : decode c_M_peril 22 = .ok (.getfield 162, 3) := by decide +kernel
theorem d_M_peril_25 : decode c_M_peril 25 = .ok (.if_icmp .ge 27, 3) := by decide +kernel
theorem d_M_peril_28 : decode c_M_peril 28 = .ok (.iload_n 2, 1) := by decide +kernel
theorem d_M_peril_29 : decode c_M_peril 29 = .ok (.aload_n 0, 1) := by decide +kernel
theorem d_M_peril_30 : decode c_M_peril 30 = .ok (.iload_n 3, 1) := by decide +kernel
theorem d_M_peril_31 : decode c_M_peril 31 = .ok (.invokevirtual 193, 3) := by decide +kernel
theorem d_M_peril_34 : decode c_M_peril 34 = .ok (.ifCond .eq 9, 3) := by decide +kernel
theorem d_M_peril_37 : decode c_M_peril 37 = .ok (.iconst 1, 1) := by decide +kernel
theorem d_M_peril_38 : decode c_M_peril 38 = .ok (.iload_n 3, 1) := by decide +kernel
theorem d_M_peril_39 : decode c_M_peril 39 = .ok (.ishl, 1) := by decide +kernel
theorem d_M_peril_40 : decode c_M_peril 40 = .ok (.goto 4, 3) := by decide +kernel
theorem d_M_peril_43 : decode c_M_peril 43 = .ok (.iconst 0, 1) := by decide +kernel
theorem d_M_peril_44 : decode c_M_peril 44 = .ok (.ior, 1) := by decide +kernel
theorem d_M_peril_45 : decode c_M_peril 45 = .ok (.istore_n 2, 1) := by decide +kernel
theorem d_M_peril_46 : decode c_M_peril 46 = .ok (.iinc 3 1, 3) := by decide +kernel
theorem d_M_peril_49 : decode c_M_peril 49 = .ok (.goto (-29), 3) := by decide +kernel
theorem d_M_peril_52 : decode c_M_peril 52 = .ok (.iload_n 2, 1) := by decide +kernel
theorem d_M_peril_53 : decode c_M_peril 53 = .ok (.invokestatic 272, 3) := by decide +kernel
theorem d_M_peril_56 : decode c_M_peril 56 = .ok (.iload_n 1, 1) := by decide +kernel
theorem d_M_peril_57 : decode c_M_peril 57 = .ok (.if_icmp .ge 10, 3) := by decide +kernel
theorem d_M_peril_60 : decode c_M_peril 60 = .ok (.iload_n 2, 1) := by decide +kernel
theorem d_M_peril_61 : decode c_M_peril 61 = .ok (.invokestatic 272, 3) := by decide +kernel
theorem d_M_peril_64 : decode c_M_peril 64 = .ok (.goto 4, 3) := by decide +kernel
theorem d_M_peril_67 : decode c_M_peril 67 = .ok (.iload_n 1, 1) := by decide +kernel
theorem d_M_peril_68 : decode c_M_peril 68 = .ok (.istore_n 3, 1) := by decide +kernel
theorem d_M_peril_69 : decode c_M_peril 69 = .ok (.bipush (-9), 2) := by decide +kernel
theorem d_M_peril_71 : decode c_M_peril 71 = .ok (.istore 4, 2) := by decide +kernel
theorem d_M_peril_73 : decode c_M_peril 73 = .ok (.iconst 0, 1) := by decide +kernel
theorem d_M_peril_74 : decode c_M_peril 74 = .ok (.istore 5, 2) := by decide +kernel
theorem d_M_peril_76 : decode c_M_peril 76 = .ok (.bipush (-9), 2) := by decide +kernel
theorem d_M_peril_78 : decode c_M_peril 78 = .ok (.istore 6, 2) := by decide +kernel
theorem d_M_peril_80 : decode c_M_peril 80 = .ok (.iconst 0, 1) := by decide +kernel
theorem d_M_peril_81 : decode c_M_peril 81 = .ok (.istore 7, 2) := by decide +kernel
theorem d_M_peril_83 : decode c_M_peril 83 = .ok (.iconst 0, 1) := by decide +kernel
theorem d_M_peril_84 : decode c_M_peril 84 = .ok (.istore 8, 2) := by decide +kernel
theorem d_M_peril_86 : decode c_M_peril 86 = .ok (.iload 8, 2) := by decide +kernel
theorem d_M_peril_88 : decode c_M_peril 88 = .ok (.iconst 1, 1) := by decide +kernel
theorem d_M_peril_89 : decode c_M_peril 89 = .ok (.aload_n 0, 1) := by decide +kernel
theorem d_M_peril_90 : decode c_M_peril 90 = .ok (.getfield 162, 3) := by decide +kernel
theorem d_M_peril_93 : decode c_M_peril 93 = .ok (.ishl, 1) := by decide +kernel
theorem d_M_peril_94 : decode c_M_peril 94 = .ok (.if_icmp .ge 121, 3) := by decide +kernel
theorem d_M_peril_97 : decode c_M_peril 97 = .ok (.iload 7, 2) := by decide +kernel
theorem d_M_peril_99 : decode c_M_peril 99 = .ok (.ifCond .ne 116, 3) := by decide +kernel
theorem d_M_peril_102 : decode c_M_peril 102 = .ok (.iload 8, 2) := by decide +kernel
theorem d_M_peril_104 : decode c_M_peril 104 = .ok (.iload_n 2, 1) := by decide +kernel
theorem d_M_peril_105 : decode c_M_peril 105 = .ok (.iconst (-1), 1) := by decide +kernel
theorem d_M_peril_106 : decode c_M_peril 106 = .ok (.ixor, 1) := by decide +kernel
theorem d_M_peril_107 : decode c_M_peril 107 = .ok (.iand, 1) := by decide +kernel
theorem d_M_peril_108 : decode c_M_peril 108 = .ok (.ifCond .ne 101, 3) := by decide +kernel
theorem d_M_peril_111 : decode c_M_peril 111 = .ok (.iload 8, 2) := by decide +kernel
theorem d_M_peril_113 : decode c_M_peril 113 = .ok (.invokestatic 272, 3) := by decide +kernel
theorem d_M_peril_116 : decode c_M_peril 116 = .ok (.iload_n 3, 1) := by decide +kernel
theorem d_M_peril_117 : decode c_M_peril 117 = .ok (.if_icmp .ne 92, 3) := by decide +kernel
theorem d_M_peril_120 : decode c_M_peril 120 = .ok (.aload_n 0, 1) := by decide +kernel
theorem d_M_peril_121 : decode c_M_peril 121 = .ok (.iload 8, 2) := by decide +kernel
theorem d_M_peril_123 : decode c_M_peril 123 = .ok (.putfield 181, 3) := by decide +kernel
theorem d_M_peril_126 : decode c_M_peril 126 = .ok (.aload_n 0, 1) := by decide +kernel
theorem d_M_peril_127 : decode c_M_peril 127 = .ok (.invokevirtual 231, 3) := by decide +kernel
theorem d_M_peril_130 : decode c_M_peril 130 = .ok (.ifCond .ne 7, 3) := by decide +kernel
theorem d_M_peril_133 : decode c_M_peril 133 = .ok (.iconst 1, 1) := by decide +kernel
theorem d_M_peril_134 : decode c_M_peril 134 = .ok (.goto 4, 3) := by decide +kernel
theorem d_M_peril_137 : decode c_M_peril 137 = .ok (.iconst 0, 1) := by decide +kernel
theorem d_M_peril_138 : decode c_M_peril 138 = .ok (.istore 7, 2) := by decide +kernel
theorem d_M_peril_140 : decode c_M_peril 140 = .ok (.iload 7, 2) := by decide +kernel
theorem d_M_peril_142 : decode c_M_peril 142 = .ok (.ifCond .ne 67, 3) := by decide +kernel
theorem d_M_peril_145 : decode c_M_peril 145 = .ok (.aload_n 0, 1) := by decide +kernel
theorem d_M_peril_146 : decode c_M_peril 146 = .ok (.invokevirtual 262, 3) := by decide +kernel
theorem d_M_peril_149 : decode c_M_peril 149 = .ok (.iload 6, 2) := by decide +kernel
theorem d_M_peril_151 : decode c_M_peril 151 = .ok (.bipush (-9), 2) := by decide +kernel
theorem d_M_peril_153 : decode c_M_peril 153 = .ok (.if_icmp .ne 17, 3) := by decide +kernel
theorem d_M_peril_156 : decode c_M_peril 156 = .ok (.aload_n 0, 1) := by decide +kernel
theorem d_M_peril_157 : decode c_M_peril 157 = .ok (.getfield 259, 3) := by decide +kernel
theorem d_M_peril_160 : decode c_M_peril 160 = .ok (.bipush (-9), 2) := by decide +kernel
theorem d_M_peril_162 : decode c_M_peril 162 = .ok (.if_icmp .ne 8, 3) := by decide +kernel
theorem d_M_peril_165 : decode c_M_peril 165 = .ok (.iload 8, 2) := by decide +kernel
theorem d_M_peril_167 : decode c_M_peril 167 = .ok (.goto 5, 3) := by decide +kernel
theorem d_M_peril_170 : decode c_M_peril 170 = .ok (.iload 6, 2) := by decide +kernel
theorem d_M_peril_172 : decode c_M_peril 172 = .ok (.istore 6, 2) := by decide +kernel
theorem d_M_peril_174 : decode c_M_peril 174 = .ok (.aload_n 0, 1) := by decide +kernel
theorem d_M_peril_175 : decode c_M_peril 175 = .ok (.getfield 259, 3) := by decide +kernel
theorem d_M_peril_178 : decode c_M_peril 178 = .ok (.bipush (-9), 2) := by decide +kernel
theorem d_M_peril_180 : decode c_M_peril 180 = .ok (.if_icmp .eq 29, 3) := by decide +kernel
theorem d_M_peril_183 : decode c_M_peril 183 = .ok (.iload 4, 2) := by decide +kernel
theorem d_M_peril_185 : decode c_M_peril 185 = .ok (.bipush (-9), 2) := by decide +kernel
theorem d_M_peril_187 : decode c_M_peril 187 = .ok (.if_icmp .eq 12, 3) := by decide +kernel
theorem d_M_peril_190 : decode c_M_peril 190 = .ok (.aload_n 0, 1) := by decide +kernel
theorem d_M_peril_191 : decode c_M_peril 191 = .ok (.getfield 259, 3) := by decide +kernel
theorem d_M_peril_194 : decode c_M_peril 194 = .ok (.iload 5, 2) := by decide +kernel
theorem d_M_peril_196 : decode c_M_peril 196 = .ok (.if_icmp .le 13, 3) := by decide +kernel
theorem d_M_peril_199 : decode c_M_peril 199 = .ok (.iload 8, 2) := by decide +kernel
theorem d_M_peril_201 : decode c_M_peril 201 = .ok (.istore 4, 2) := by decide +kernel
theorem d_M_peril_203 : decode c_M_peril 203 = .ok (.aload_n 0, 1) := by decide +kernel
theorem d_M_peril_204 : decode c_M_peril 204 = .ok (.getfield 259, 3) := by decide +kernel
theorem d_M_peril_207 : decode c_M_peril 207 = .ok (.istore 5, 2) := by decide +kernel
theorem d_M_peril_209 : decode c_M_peril 209 = .ok (.iinc 8 1, 3) := by decide +kernel
theorem d_M_peril_212 : decode c_M_peril 212 = .ok (.goto (-126), 3) := by decide +kernel
theorem d_M_peril_215 : decode c_M_peril 215 = .ok (.aload_n 0, 1) := by decide +kernel
theorem d_M_peril_216 : decode c_M_peril 216 = .ok (.iconst 0, 1) := by decide +kernel
theorem d_M_peril_217 : decode c_M_peril 217 = .ok (.putfield 181, 3) := by decide +kernel
theorem d_M_peril_220 : decode c_M_peril 220 = .ok (.iload 7, 2) := by decide +kernel
theorem d_M_peril_222 : decode c_M_peril 222 = .ok (.ifCond .eq 6, 3) := by decide +kernel
theorem d_M_peril_225 : decode c_M_peril 225 = .ok (.bipush (-6), 2) := by decide +kernel
theorem d_M_peril_227 : decode c_M_peril 227 = .ok (.ireturn, 1) := by decide +kernel
theorem d_M_peril_228 : decode c_M_peril 228 = .ok (.iload 6, 2) := by decide +kernel
theorem d_M_peril_230 : decode c_M_peril 230 = .ok (.bipush (-9), 2) := by decide +kernel
theorem d_M_peril_232 : decode c_M_peril 232 = .ok (.if_icmp .eq 14, 3) := by decide +kernel
theorem d_M_peril_235 : decode c_M_peril 235 = .ok (.aload_n 0, 1) := by decide +kernel
theorem d_M_peril_236 : decode c_M_peril 236 = .ok (.iload 6, 2) := by decide +kernel
theorem d_M_peril_238 : decode c_M_peril 238 = .ok (.bipush (-9), 2) := by decide +kernel
theorem d_M_peril_240 : decode c_M_peril 240 = .ok (.invokevirtual 234, 3) := by decide +kernel
theorem d_M_peril_243 : decode c_M_peril 243 = .ok (.goto 11, 3) := by decide +kernel
theorem d_M_peril_246 : decode c_M_peril 246 = .ok (.aload_n 0, 1) := by decide +kernel
theorem d_M_peril_247 : decode c_M_peril 247 = .ok (.iload 4, 2) := by decide +kernel
theorem d_M_peril_249 : decode c_M_peril 249 = .ok (.iload 5, 2) := by decide +kernel
theorem d_M_peril_251 : decode c_M_peril 251 = .ok (.invokevirtual 234, 3) := by decide +kernel
theorem d_M_peril_254 : decode c_M_peril 254 = .ok (.ireturn, 1) := by decide +kernel
theorem d_M_walk_0 : decode c_M_walk 0 = .ok (.aload_n 0, 1) := by decide +kernel
theorem d_M_walk_1 : decode c_M_walk 1 = .ok (.iload_n 1, 1) := by decide +kernel
theorem d_M_walk_2 : decode c_M_walk 2 = .ok (.iload_n 2, 1) := by decide +kernel
theorem d_M_walk_3 : decode c_M_walk 3 = .ok (.invokevirtual 212, 3) := by decide +kernel
theorem d_M_walk_6 : decode c_M_walk 6 = .ok (.aload_n 0, 1) := by decide +kernel
theorem d_M_walk_7 : decode c_M_walk 7 = .ok (.getfield 205, 3) := by decide +kernel
theorem d_M_walk_10 : decode c_M_walk 10 = .ok (.istore 4, 2) := by decide +kernel
theorem d_M_walk_12 : decode c_M_walk 12 = .ok (.aload_n 0, 1) := by decide +kernel
theorem d_M_walk_13 : decode c_M_walk 13 = .ok (.getfield 208, 3) := by decide +kernel
theorem d_M_walk_16 : decode c_M_walk 16 = .ok (.istore 5, 2) := by decide +kernel
theorem d_M_walk_18 : decode c_M_walk 18 = .ok (.aload_n 0, 1) := by decide +kernel
theorem d_M_walk_19 : decode c_M_walk 19 = .ok (.getfield 202, 3) := by decide +kernel
theorem d_M_walk_22 : decode c_M_walk 22 = .ok (.istore 6, 2) := by decide +kernel
theorem d_M_walk_24 : decode c_M_walk 24 = .ok (.iload 5, 2) := by decide +kernel
theorem d_M_walk_26 : decode c_M_walk 26 = .ok (.iload 4, 2) := by decide +kernel
theorem d_M_walk_28 : decode c_M_walk 28 = .ok (.if_icmp .ne 51, 3) := by decide +kernel
theorem d_M_walk_31 : decode c_M_walk 31 = .ok (.aload_n 0, 1) := by decide +kernel
theorem d_M_walk_32 : decode c_M_walk 32 = .ok (.iload_n 1, 1) := by decide +kernel
theorem d_M_walk_33 : decode c_M_walk 33 = .ok (.iload_n 2, 1) := by decide +kernel
theorem d_M_walk_34 : decode c_M_walk 34 = .ok (.iconst 1, 1) := by decide +kernel
theorem d_M_walk_35 : decode c_M_walk 35 = .ok (.iadd, 1) := by decide +kernel
theorem d_M_walk_36 : decode c_M_walk 36 = .ok (.invokevirtual 212, 3) := by decide +kernel
theorem d_M_walk_39 : decode c_M_walk 39 = .ok (.aload_n 0, 1) := by decide +kernel
theorem d_M_walk_40 : decode c_M_walk 40 = .ok (.getfield 202, 3) := by decide +kernel
theorem d_M_walk_43 : decode c_M_walk 43 = .ok (.ifCond .le 10, 3) := by decide +kernel
theorem d_M_walk_46 : decode c_M_walk 46 = .ok (.aload_n 0, 1) := by decide +kernel
theorem d_M_walk_47 : decode c_M_walk 47 = .ok (.getfield 208, 3) := by decide +kernel
theorem d_M_walk_50 : decode c_M_walk 50 = .ok (.goto 5, 3) := by decide +kernel
theorem d_M_walk_53 : decode c_M_walk 53 = .ok (.iload 4, 2) := by decide +kernel
theorem d_M_walk_55 : decode c_M_walk 55 = .ok (.istore 5, 2) := by decide +kernel
theorem d_M_walk_57 : decode c_M_walk 57 = .ok (.aload_n 0, 1) := by decide +kernel
theorem d_M_walk_58 : decode c_M_walk 58 = .ok (.getfield 202, 3) := by decide +kernel
theorem d_M_walk_61 : decode c_M_walk 61 = .ok (.ifCond .ne 18, 3) := by decide +kernel
theorem d_M_walk_64 : decode c_M_walk 64 = .ok (.aload_n 0, 1) := by decide +kernel
theorem d_M_walk_65 : decode c_M_walk 65 = .ok (.getfield 205, 3) := by decide +kernel
theorem d_M_walk_68 : decode c_M_walk 68 = .ok (.iload 4, 2) := by decide +kernel
theorem d_M_walk_70 : decode c_M_walk 70 = .ok (.if_icmp .eq 9, 3) := by decide +kernel
theorem d_M_walk_73 : decode c_M_walk 73 = .ok (.aload_n 0, 1) := by decide +kernel
theorem d_M_walk_74 : decode c_M_walk 74 = .ok (.getfield 205, 3) := by decide +kernel
theorem d_M_walk_77 : decode c_M_walk 77 = .ok (.istore 5, 2) := by decide +kernel
theorem d_M_walk_79 : decode c_M_walk 79 = .ok (.bipush (-9), 2) := by decide +kernel
theorem d_M_walk_81 : decode c_M_walk 81 = .ok (.istore 7, 2) := by decide +kernel
theorem d_M_walk_83 : decode c_M_walk 83 = .ok (.iconst 0, 1) := by decide +kernel
theorem d_M_walk_84 : decode c_M_walk 84 = .ok (.istore 8, 2) := by decide +kernel
theorem d_M_walk_86 : decode c_M_walk 86 = .ok (.iconst 0, 1) := by decide +kernel
theorem d_M_walk_87 : decode c_M_walk 87 = .ok (.istore 9, 2) := by decide +kernel
theorem d_M_walk_89 : decode c_M_walk 89 = .ok (.iload 5, 2) := by decide +kernel
theorem d_M_walk_91 : decode c_M_walk 91 = .ok (.iload 4, 2) := by decide +kernel
theorem d_M_walk_93 : decode c_M_walk 93 = .ok (.if_icmp .eq 126, 3) := by decide +kernel
theorem d_M_walk_96 : decode c_M_walk 96 = .ok (.iload 4, 2) := by decide +kernel
theorem d_M_walk_98 : decode c_M_walk 98 = .ok (.iload 5, 2) := by decide +kernel
theorem d_M_walk_100 : decode c_M_walk 100 = .ok (.if_icmp .ge 8, 3) := by decide +kernel
theorem d_M_walk_103 : decode c_M_walk 103 = .ok (.iload 4, 2) := by decide +kernel
theorem d_M_walk_105 : decode c_M_walk 105 = .ok (.goto 5, 3) := by decide +kernel
theorem d_M_walk_108 : decode c_M_walk 108 = .ok (.iload 5, 2) := by decide +kernel
theorem d_M_walk_110 : decode c_M_walk 110 = .ok (.istore 10, 2) := by decide +kernel
theorem d_M_walk_112 : decode c_M_walk 112 = .ok (.iload 4, 2) := by decide +kernel
theorem d_M_walk_114 : decode c_M_walk 114 = .ok (.iload 5, 2) := by decide +kernel
theorem d_M_walk_116 : decode c_M_walk 116 = .ok (.if_icmp .ge 8, 3) := by decide +kernel
theorem d_M_walk_119 : decode c_M_walk 119 = .ok (.iload 5, 2) := by decide +kernel
theorem d_M_walk_121 : decode c_M_walk 121 = .ok (.goto 5, 3) := by decide +kernel
theorem d_M_walk_124 : decode c_M_walk 124 = .ok (.iload 4, 2) := by decide +kernel
theorem d_M_walk_126 : decode c_M_walk 126 = .ok (.istore 11, 2) := by decide +kernel
theorem d_M_walk_128 : decode c_M_walk 128 = .ok (.bipush 60, 2) := by decide +kernel
theorem d_M_walk_130 : decode c_M_walk 130 = .ok (.aload_n 0, 1) := by decide +kernel
theorem d_M_walk_131 : decode c_M_walk 131 = .ok (.getfield 23, 3) := by decide +kernel
theorem d_M_walk_134 : decode c_M_walk 134 = .ok (.bipush 16, 2) := by decide +kernel
theorem d_M_walk_136 : decode c_M_walk 136 = .ok (.iload 10, 2) := by decide +kernel
theorem d_M_walk_138 : decode c_M_walk 138 = .ok (.imul, 1) := by decide +kernel
theorem d_M_walk_139 : decode c_M_walk 139 = .ok (.iload 11, 2) := by decide +kernel
theorem d_M_walk_141 : decode c_M_walk 141 = .ok (.iadd, 1) := by decide +kernel
theorem d_M_walk_142 : decode c_M_walk 142 = .ok (.iaload, 1) := by decide +kernel
theorem d_M_walk_143 : decode c_M_walk 143 = .ok (.imul, 1) := by decide +kernel
theorem d_M_walk_144 : decode c_M_walk 144 = .ok (.istore 12, 2) := by decide +kernel
theorem d_M_walk_146 : decode c_M_walk 146 = .ok (.bipush 16, 2) := by decide +kernel
theorem d_M_walk_148 : decode c_M_walk 148 = .ok (.iload 10, 2) := by decide +kernel
theorem d_M_walk_150 : decode c_M_walk 150 = .ok (.imul, 1) := by decide +kernel
theorem d_M_walk_151 : decode c_M_walk 151 = .ok (.iload 11, 2) := by decide +kernel
theorem d_M_walk_153 : decode c_M_walk 153 = .ok (.iadd, 1) := by decide +kernel
theorem d_M_walk_154 : decode c_M_walk 154 = .ok (.istore 7, 2) := by decide +kernel
theorem d_M_walk_156 : decode c_M_walk 156 = .ok (.iload 4, 2) := by decide +kernel
theorem d_M_walk_158 : decode c_M_walk 158 = .ok (.iload 5, 2) := by decide +kernel
theorem d_M_walk_160 : decode c_M_walk 160 = .ok (.if_icmp .ge 15, 3) := by decide +kernel
theorem d_M_walk_163 : decode c_M_walk 163 = .ok (.iload 6, 2) := by decide +kernel
theorem d_M_walk_165 : decode c_M_walk 165 = .ok (.aload_n 0, 1) := by decide +kernel
theorem d_M_walk_166 : decode c_M_walk 166 = .ok (.getfield 42, 3) := by decide +kernel
theorem d_M_walk_169 : decode c_M_walk 169 = .ok (.iload_n 1, 1) := by decide +kernel
theorem d_M_walk_170 : decode c_M_walk 170 = .ok (.iaload, 1) := by decide +kernel
theorem d_M_walk_171 : decode c_M_walk 171 = .ok (.imul, 1) := by decide +kernel
theorem d_M_walk_172 : decode c_M_walk 172 = .ok (.goto 15, 3) := by decide +kernel
theorem d_M_walk_175 : decode c_M_walk 175 = .ok (.iload 12, 2) := by decide +kernel
theorem d_M_walk_177 : decode c_M_walk 177 = .ok (.iload 6, 2) := by decide +kernel
theorem d_M_walk_179 : decode c_M_walk 179 = .ok (.aload_n 0, 1) := by decide +kernel
theorem d_M_walk_180 : decode c_M_walk 180 = .ok (.getfield 42, 3) := by decide +kernel
theorem d_M_walk_183 : decode c_M_walk 183 = .ok (.iload_n 1, 1) := by decide +kernel
theorem d_M_walk_184 : decode c_M_walk 184 = .ok (.iaload, 1) := by decide +kernel
theorem d_M_walk_185 : decode c_M_walk 185 = .ok (.imul, 1) := by decide +kernel
theorem d_M_walk_186 : decode c_M_walk 186 = .ok (.isub, 1) := by decide +kernel
theorem d_M_walk_187 : decode c_M_walk 187 = .ok (.istore 8, 2) := by decide +kernel
theorem d_M_walk_189 : decode c_M_walk 189 = .ok (.iload 4, 2) := by decide +kernel
theorem d_M_walk_191 : decode c_M_walk 191 = .ok (.iload 5, 2) := by decide +kernel
theorem d_M_walk_193 : decode c_M_walk 193 = .ok (.if_icmp .ge 15, 3) := by decide +kernel
theorem d_M_walk_196 : decode c_M_walk 196 = .ok (.iload 8, 2) := by decide +kernel
theorem d_M_walk_198 : decode c_M_walk 198 = .ok (.aload_n 0, 1) := by decide +kernel
theorem d_M_walk_199 : decode c_M_walk 199 = .ok (.getfield 42, 3) := by decide +kernel
theorem d_M_walk_202 : decode c_M_walk 202 = .ok (.iload_n 1, 1) := by decide +kernel
theorem d_M_walk_203 : decode c_M_walk 203 = .ok (.iaload, 1) := by decide +kernel
theorem d_M_walk_204 : decode c_M_walk 204 = .ok (.iadd, 1) := by decide +kernel
theorem d_M_walk_205 : decode c_M_walk 205 = .ok (.goto 12, 3) := by decide +kernel
theorem d_M_walk_208 : decode c_M_walk 208 = .ok (.iload 8, 2) := by decide +kernel
theorem d_M_walk_210 : decode c_M_walk 210 = .ok (.aload_n 0, 1) := by decide +kernel
theorem d_M_walk_211 : decode c_M_walk 211 = .ok (.getfield 42, 3) := by decide +kernel
theorem d_M_walk_214 : decode c_M_walk 214 = .ok (.iload_n 1, 1) := by decide +kernel
theorem d_M_walk_215 : decode c_M_walk 215 = .ok (.iaload, 1) := by decide +kernel
theorem d_M_walk_216 : decode c_M_walk 216 = .ok (.isub, 1) := by decide +kernel
theorem d_M_walk_217 : decode c_M_walk 217 = .ok (.istore 9, 2) := by decide +kernel
theorem d_M_walk_219 : decode c_M_walk 219 = .ok (.iload_n 3, 1) := by decide +kernel
theorem d_M_walk_220 : decode c_M_walk 220 = .ok (.ifCond .eq 24, 3) := by decide +kernel
theorem d_M_walk_223 : decode c_M_walk 223 = .ok (.aload_n 0, 1) := by decide +kernel
theorem d_M_walk_224 : decode c_M_walk 224 = .ok (.iload 7, 2) := by decide +kernel
theorem d_M_walk_226 : decode c_M_walk 226 = .ok (.putfield 275, 3) := by decide +kernel
theorem d_M_walk_229 : decode c_M_walk 229 = .ok (.aload_n 0, 1) := by decide +kernel
theorem d_M_walk_230 : decode c_M_walk 230 = .ok (.iload 8, 2) := by decide +kernel
theorem d_M_walk_232 : decode c_M_walk 232 = .ok (.putfield 278, 3) := by decide +kernel
theorem d_M_walk_235 : decode c_M_walk 235 = .ok (.aload_n 0, 1) := by decide +kernel
theorem d_M_walk_236 : decode c_M_walk 236 = .ok (.iload 9, 2) := by decide +kernel
theorem d_M_walk_238 : decode c_M_walk 238 = .ok (.putfield 281, 3) := by decide +kernel
theorem d_M_walk_241 : decode c_M_walk 241 = .ok (.goto 21, 3) := by decide +kernel
theorem d_M_walk_244 : decode c_M_walk 244 = .ok (.aload_n 0, 1) := by decide +kernel
theorem d_M_walk_245 : decode c_M_walk 245 = .ok (.iload 7, 2) := by decide +kernel
theorem d_M_walk_247 : decode c_M_walk 247 = .ok (.putfield 284, 3) := by decide +kernel
theorem d_M_walk_250 : decode c_M_walk 250 = .ok (.aload_n 0, 1) := by decide +kernel
theorem d_M_walk_251 : decode c_M_walk 251 = .ok (.iload 8, 2) := by decide +kernel
theorem d_M_walk_253 : decode c_M_walk 253 = .ok (.putfield 287, 3) := by decide +kernel
theorem d_M_walk_256 : decode c_M_walk 256 = .ok (.aload_n 0, 1) := by decide +kernel
theorem d_M_walk_257 : decode c_M_walk 257 = .ok (.iload 9, 2) := by decide +kernel
theorem d_M_walk_259 : decode c_M_walk 259 = .ok (.putfield 290, 3) := by decide +kernel
theorem d_M_walk_262 : decode c_M_walk 262 = .ok (.return_, 1) := by decide +kernel
theorem d_M_areTogether_0 : decode c_M_areTogether 0 = .ok (.aload_n 0, 1) := by decide +kernel
theorem d_M_areTogether_1 : decode c_M_areTogether 1 = .ok (.iload_n 1, 1) := by decide +kernel
theorem d_M_areTogether_2 : decode c_M_areTogether 2 = .ok (.iload_n 3, 1) := by decide +kernel
theorem d_M_areTogether_3 : decode c_M_areTogether 3 = .ok (.invokevirtual 212, 3) := by decide +kernel
theorem d_M_areTogether_6 : decode c_M_areTogether 6 = .ok (.aload_n 0, 1) := by decide +kernel
theorem d_M_areTogether_7 : decode c_M_areTogether 7 = .ok (.getfield 205, 3) := by decide +kernel
theorem d_M_areTogether_10 : decode c_M_areTogether 10 = .ok (.istore 4, 2) := by decide +kernel
theorem d_M_areTogether_12 : decode c_M_areTogether 12 = .ok (.aload_n 0, 1) := by decide +kernel
theorem d_M_areTogether_13 : decode c_M_areTogether 13 = .ok (.getfield 208, 3) := by decide +kernel
theorem d_M_areTogether_16 : decode c_M_areTogether 16 = .ok (.istore 5, 2) := by decide +kernel
theorem d_M_areTogether_18 : decode c_M_areTogether 18 = .ok (.aload_n 0, 1) := by decide +kernel
theorem d_M_areTogether_19 : decode c_M_areTogether 19 = .ok (.getfield 202, 3) := by decide +kernel
theorem d_M_areTogether_22 : decode c_M_areTogether 22 = .ok (.istore 6, 2) := by decide +kernel
theorem d_M_areTogether_24 : decode c_M_areTogether 24 = .ok (.aload_n 0, 1) := by decide +kernel
theorem d_M_areTogether_25 : decode c_M_areTogether 25 = .ok (.iload_n 2, 1) := by decide +kernel
theorem d_M_areTogether_26 : decode c_M_areTogether 26 = .ok (.iload_n 3, 1) := by decide +kernel
theorem d_M_areTogether_27 : decode c_M_areTogether 27 = .ok (.invokevirtual 212, 3) := by decide +kernel
theorem d_M_areTogether_30 : decode c_M_areTogether 30 = .ok (.iload 6, 2) := by decide +kernel
theorem d_M_areTogether_32 : decode c_M_areTogether 32 = .ok (.ifCond .eq 10, 3) := by decide +kernel
theorem d_M_areTogether_35 : decode c_M_areTogether 35 = .ok (.aload_n 0, 1) := by decide +kernel
theorem d_M_areTogether_36 : decode c_M_areTogether 36 = .ok (.getfield 202, 3) := by decide +kernel
theorem d_M_areTogether_39 : decode c_M_areTogether 39 = .ok (.ifCond .ne 30, 3) := by decide +kernel
theorem d_M_areTogether_42 : decode c_M_areTogether 42 = .ok (.iload 6, 2) := by decide +kernel
theorem d_M_areTogether_44 : decode c_M_areTogether 44 = .ok (.ifCond .ne 23, 3) := by decide +kernel
theorem d_M_areTogether_47 : decode c_M_areTogether 47 = .ok (.aload_n 0, 1) := by decide +kernel
theorem d_M_areTogether_48 : decode c_M_areTogether 48 = .ok (.getfield 202, 3) := by decide +kernel
theorem d_M_areTogether_51 : decode c_M_areTogether 51 = .ok (.ifCond .ne 16, 3) := by decide +kernel
theorem d_M_areTogether_54 : decode c_M_areTogether 54 = .ok (.iload 4, 2) := by decide +kernel
theorem d_M_areTogether_56 : decode c_M_areTogether 56 = .ok (.aload_n 0, 1) := by decide +kernel
theorem d_M_areTogether_57 : decode c_M_areTogether 57 = .ok (.getfield 205, 3) := by decide +kernel
theorem d_M_areTogether_60 : decode c_M_areTogether 60 = .ok (.if_icmp .ne 7, 3) := by decide +kernel
theorem d_M_areTogether_63 : decode c_M_areTogether 63 = .ok (.iconst 1, 1) := by decide +kernel
theorem d_M_areTogether_64 : decode c_M_areTogether 64 = .ok (.goto 4, 3) := by decide +kernel
theorem d_M_areTogether_67 : decode c_M_areTogether 67 = .ok (.iconst 0, 1) := by decide +kernel
theorem d_M_areTogether_68 : decode c_M_areTogether 68 = .ok (.ireturn, 1) := by decide +kernel
theorem d_M_areTogether_69 : decode c_M_areTogether 69 = .ok (.bipush 60, 2) := by decide +kernel
theorem d_M_areTogether_71 : decode c_M_areTogether 71 = .ok (.aload_n 0, 1) := by decide +kernel
theorem d_M_areTogether_72 : decode c_M_areTogether 72 = .ok (.getfield 23, 3) := by decide +kernel
theorem d_M_areTogether_75 : decode c_M_areTogether 75 = .ok (.bipush 16, 2) := by decide +kernel
theorem d_M_areTogether_77 : decode c_M_areTogether 77 = .ok (.iload 4, 2) := by decide +kernel
theorem d_M_areTogether_79 : decode c_M_areTogether 79 = .ok (.imul, 1) := by decide +kernel
theorem d_M_areTogether_80 : decode c_M_areTogether 80 = .ok (.iload 5, 2) := by decide +kernel
theorem d_M_areTogether_82 : decode c_M_areTogether 82 = .ok (.iadd, 1) := by decide +kernel
theorem d_M_areTogether_83 : decode c_M_areTogether 83 = .ok (.iaload, 1) := by decide +kernel
theorem d_M_areTogether_84 : decode c_M_areTogether 84 = .ok (.imul, 1) := by decide +kernel
theorem d_M_areTogether_85 : decode c_M_areTogether 85 = .ok (.istore 7, 2) := by decide +kernel
theorem d_M_areTogether_87 : decode c_M_areTogether 87 = .ok (.iload 4, 2) := by decide +kernel
theorem d_M_areTogether_89 : decode c_M_areTogether 89 = .ok (.aload_n 0, 1) := by decide +kernel
theorem d_M_areTogether_90 : decode c_M_areTogether 90 = .ok (.getfield 205, 3) := by decide +kernel
theorem d_M_areTogether_93 : decode c_M_areTogether 93 = .ok (.if_icmp .ne 41, 3) := by decide +kernel
theorem d_M_areTogether_96 : decode c_M_areTogether 96 = .ok (.iload 5, 2) := by decide +kernel
theorem d_M_areTogether_98 : decode c_M_areTogether 98 = .ok (.aload_n 0, 1) := by decide +kernel
theorem d_M_areTogether_99 : decode c_M_areTogether 99 = .ok (.getfield 208, 3) := by decide +kernel
theorem d_M_areTogether_102 : decode c_M_areTogether 102 = .ok (.if_icmp .ne 32, 3) := by decide +kernel
theorem d_M_areTogether_105 : decode c_M_areTogether 105 = .ok (.iload 6, 2) := by decide +kernel
theorem d_M_areTogether_107 : decode c_M_areTogether 107 = .ok (.aload_n 0, 1) := by decide +kernel
theorem d_M_areTogether_108 : decode c_M_areTogether 108 = .ok (.getfield 42, 3) := by decide +kernel
theorem d_M_areTogether_111 : decode c_M_areTogether 111 = .ok (.iload_n 1, 1) := by decide +kernel
theorem d_M_areTogether_112 : decode c_M_areTogether 112 = .ok (.iaload, 1) := by decide +kernel
theorem d_M_areTogether_113 : decode c_M_areTogether 113 = .ok (.imul, 1) := by decide +kernel
theorem d_M_areTogether_114 : decode c_M_areTogether 114 = .ok (.aload_n 0, 1) := by decide +kernel
theorem d_M_areTogether_115 : decode c_M_areTogether 115 = .ok (.getfield 202, 3) := by decide +kernel
theorem d_M_areTogether_118 : decode c_M_areTogether 118 = .ok (.aload_n 0, 1) := by decide +kernel
theorem d_M_areTogether_119 : decode c_M_areTogether 119 = .ok (.getfield 42, 3) := by decide +kernel
theorem d_M_areTogether_122 : decode c_M_areTogether 122 = .ok (.iload_n 2, 1) := by decide +kernel
theorem d_M_areTogether_123 : decode c_M_areTogether 123 = .ok (.iaload, 1) := by decide +kernel
theorem d_M_areTogether_124 : decode c_M_areTogether 124 = .ok (.imul, 1) := by decide +kernel
theorem d_M_areTogether_125 : decode c_M_areTogether 125 = .ok (.if_icmp .ne 7, 3) := by decide +kernel
theorem d_M_areTogether_128 : decode c_M_areTogether 128 = .ok (.iconst 1, 1) := by decide +kernel
theorem d_M_areTogether_129 : decode c_M_areTogether 129 = .ok (.goto 4, 3) := by decide +kernel
theorem d_M_areTogether_132 : decode c_M_areTogether 132 = .ok (.iconst 0, 1) := by decide +kernel
theorem d_M_areTogether_133 : decode c_M_areTogether 133 = .ok (.ireturn, 1) := by decide +kernel
theorem d_M_areTogether_134 : decode c_M_areTogether 134 = .ok (.iload 4, 2) := by decide +kernel
theorem d_M_areTogether_136 : decode c_M_areTogether 136 = .ok (.aload_n 0, 1) := by decide +kernel
theorem d_M_areTogether_137 : decode c_M_areTogether 137 = .ok (.getfield 208, 3) := by decide +kernel
theorem d_M_areTogether_140 : decode c_M_areTogether 140 = .ok (.if_icmp .ne 42, 3) := by decide +kernel
theorem d_M_areTogether_143 : decode c_M_areTogether 143 = .ok (.iload 5, 2) := by decide +kernel
theorem d_M_areTogether_145 : decode c_M_areTogether 145 = .ok (.aload_n 0, 1) := by decide +kernel
theorem d_M_areTogether_146 : decode c_M_areTogether 146 = .ok (.getfield 205, 3) := by decide +kernel
theorem d_M_areTogether_149 : decode c_M_areTogether 149 = .ok (.if_icmp .ne 33, 3) := by decide +kernel
theorem d_M_areTogether_152 : decode c_M_areTogether 152 = .ok (.iload 6, 2) := by decide +kernel
theorem d_M_areTogether_154 : decode c_M_areTogether 154 = .ok (.aload_n 0, 1) := by decide +kernel
theorem d_M_areTogether_155 : decode c_M_areTogether 155 = .ok (.getfield 42, 3) := by decide +kernel
theorem d_M_areTogether_158 : decode c_M_areTogether 158 = .ok (.iload_n 1, 1) := by decide +kernel
theorem d_M_areTogether_159 : decode c_M_areTogether 159 = .ok (.iaload, 1) := by decide +kernel
theorem d_M_areTogether_160 : decode c_M_areTogether 160 = .ok (.imul, 1) := by decide +kernel
theorem d_M_areTogether_161 : decode c_M_areTogether 161 = .ok (.iload 7, 2) := by decide +kernel
theorem d_M_areTogether_163 : decode c_M_areTogether 163 = .ok (.aload_n 0, 1) := by decide +kernel
theorem d_M_areTogether_164 : decode c_M_areTogether 164 = .ok (.getfield 202, 3) := by decide +kernel
theorem d_M_areTogether_167 : decode c_M_areTogether 167 = .ok (.aload_n 0, 1) := by decide +kernel
theorem d_M_areTogether_168 : decode c_M_areTogether 168 = .ok (.getfield 42, 3) := by decide +kernel
theorem d_M_areTogether_171 : decode c_M_areTogether 171 = .ok (.iload_n 2, 1) := by decide +kernel
theorem d_M_areTogether_172 : decode c_M_areTogether 172 = .ok (.iaload, 1) := by decide +kernel
theorem d_M_areTogether_173 : decode c_M_areTogether 173 = .ok (.imul, 1) := by decide +kernel
theorem d_M_areTogether_174 : decode c_M_areTogether 174 = .ok (.isub, 1) := by decide +kernel
theorem d_M_areTogether_175 : decode c_M_areTogether 175 = .ok (.if_icmp .ne 7, 3) := by decide +kernel
theorem d_M_areTogether_178 : decode c_M_areTogether 178 = .ok (.iconst 1, 1) := by decide +kernel
theorem d_M_areTogether_179 : decode c_M_areTogether 179 = .ok (.goto 4, 3) := by decide +kernel
theorem d_M_areTogether_182 : decode c_M_areTogether 182 = .ok (.iconst 0, 1) := by decide +kernel
theorem d_M_areTogether_183 : decode c_M_areTogether 183 = .ok (.ireturn, 1) := by decide +kernel
theorem d_M_jointOf_0 : decode c_M_jointOf 0 = .ok (.aload_n 0, 1) := by decide +kernel
theorem d_M_jointOf_1 : decode c_M_jointOf 1 = .ok (.iload_n 1, 1) := by decide +kernel
theorem d_M_jointOf_2 : decode c_M_jointOf 2 = .ok (.invokevirtual 196, 3) := by decide +kernel
theorem d_M_jointOf_5 : decode c_M_jointOf 5 = .ok (.i2l, 1) := by decide +kernel
theorem d_M_jointOf_6 : decode c_M_jointOf 6 = .ok (.lstore_n 3, 1) := by decide +kernel
theorem d_M_jointOf_7 : decode c_M_jointOf 7 = .ok (.aload_n 0, 1) := by decide +kernel
theorem d_M_jointOf_8 : decode c_M_jointOf 8 = .ok (.iload_n 2, 1) := by decide +kernel
theorem d_M_jointOf_9 : decode c_M_jointOf 9 = .ok (.invokevirtual 196, 3) := by decide +kernel
theorem d_M_jointOf_12 : decode c_M_jointOf 12 = .ok (.i2l, 1) := by decide +kernel
theorem d_M_jointOf_13 : decode c_M_jointOf 13 = .ok (.lstore 5, 2) := by decide +kernel
theorem d_M_jointOf_15 : decode c_M_jointOf 15 = .ok (.lload_n 3, 1) := by decide +kernel
theorem d_M_jointOf_16 : decode c_M_jointOf 16 = .ok (.lload_n 3, 1) := by decide +kernel
theorem d_M_jointOf_17 : decode c_M_jointOf 17 = .ok (.lload 5, 2) := by decide +kernel
theorem d_M_jointOf_19 : decode c_M_jointOf 19 = .ok (.invokestatic 124, 3) := by decide +kernel
theorem d_M_jointOf_22 : decode c_M_jointOf 22 = .ok (.ldiv, 1) := by decide +kernel
theorem d_M_jointOf_23 : decode c_M_jointOf 23 = .ok (.lload 5, 2) := by decide +kernel
theorem d_M_jointOf_25 : decode c_M_jointOf 25 = .ok (.lmul, 1) := by decide +kernel
theorem d_M_jointOf_26 : decode c_M_jointOf 26 = .ok (.lreturn, 1) := by decide +kernel
theorem d_M_meetFrom_0 : decode c_M_meetFrom 0 = .ok (.aload_n 0, 1) := by decide +kernel
theorem d_M_meetFrom_1 : decode c_M_meetFrom 1 = .ok (.iload_n 1, 1) := by decide +kernel
theorem d_M_meetFrom_2 : decode c_M_meetFrom 2 = .ok (.iload_n 2, 1) := by decide +kernel
theorem d_M_meetFrom_3 : decode c_M_meetFrom 3 = .ok (.invokevirtual 293, 3) := by decide +kernel
theorem d_M_meetFrom_6 : decode c_M_meetFrom 6 = .ok (.lstore 5, 2) := by decide +kernel
theorem d_M_meetFrom_8 : decode c_M_meetFrom 8 = .ok (.lload_n 3, 1) := by decide +kernel
theorem d_M_meetFrom_9 : decode c_M_meetFrom 9 = .ok (.ldc2_w 297, 3) := by decide +kernel
theorem d_M_meetFrom_12 : decode c_M_meetFrom 12 = .ok (.ldiv, 1) := by decide +kernel
theorem d_M_meetFrom_13 : decode c_M_meetFrom 13 = .ok (.l2i, 1) := by decide +kernel
theorem d_M_meetFrom_14 : decode c_M_meetFrom 14 = .ok (.istore 7, 2) := by decide +kernel
theorem d_M_meetFrom_16 : decode c_M_meetFrom 16 = .ok (.iload 7, 2) := by decide +kernel
theorem d_M_meetFrom_18 : decode c_M_meetFrom 18 = .ok (.istore 8, 2) := by decide +kernel
theorem d_M_meetFrom_20 : decode c_M_meetFrom 20 = .ok (.iload 8, 2) := by decide +kernel
theorem d_M_meetFrom_22 : decode c_M_meetFrom 22 = .ok (.i2l, 1) := by decide +kernel
theorem d_M_meetFrom_23 : decode c_M_meetFrom 23 = .ok (.iload 7, 2) := by decide +kernel
theorem d_M_meetFrom_25 : decode c_M_meetFrom 25 = .ok (.i2l, 1) := by decide +kernel
theorem d_M_meetFrom_26 : decode c_M_meetFrom 26 = .ok (.lload 5, 2) := by decide +kernel
theorem d_M_meetFrom_28 : decode c_M_meetFrom 28 = .ok (.ladd, 1) := by decide +kernel
theorem d_M_meetFrom_29 : decode c_M_meetFrom 29 = .ok (.lcmp, 1) := by decide +kernel
theorem d_M_meetFrom_30 : decode c_M_meetFrom 30 = .ok (.ifCond .gt 194, 3) := by decide +kernel
theorem d_M_meetFrom_33 : decode c_M_meetFrom 33 = .ok (.iload 8, 2) := by decide +kernel
theorem d_M_meetFrom_35 : decode c_M_meetFrom 35 = .ok (.i2l, 1) := by decide +kernel
theorem d_M_meetFrom_36 : decode c_M_meetFrom 36 = .ok (.ldc2_w 297, 3) := by decide +kernel
theorem d_M_meetFrom_39 : decode c_M_meetFrom 39 = .ok (.lmul, 1) := by decide +kernel
theorem d_M_meetFrom_40 : decode c_M_meetFrom 40 = .ok (.lload_n 3, 1) := by decide +kernel
theorem d_M_meetFrom_41 : decode c_M_meetFrom 41 = .ok (.lcmp, 1) := by decide +kernel
theorem d_M_meetFrom_42 : decode c_M_meetFrom 42 = .ok (.ifCond .lt 22, 3) := by decide +kernel
theorem d_M_meetFrom_45 : decode c_M_meetFrom 45 = .ok (.aload_n 0, 1) := by decide +kernel
theorem d_M_meetFrom_46 : decode c_M_meetFrom 46 = .ok (.iload_n 1, 1) := by decide +kernel
theorem d_M_meetFrom_47 : decode c_M_meetFrom 47 = .ok (.iload_n 2, 1) := by decide +kernel
theorem d_M_meetFrom_48 : decode c_M_meetFrom 48 = .ok (.iload 8, 2) := by decide +kernel
theorem d_M_meetFrom_50 : decode c_M_meetFrom 50 = .ok (.invokevirtual 299, 3) := by decide +kernel
theorem d_M_meetFrom_53 : decode c_M_meetFrom 53 = .ok (.ifCond .eq 11, 3) := by decide +kernel
theorem d_M_meetFrom_56 : decode c_M_meetFrom 56 = .ok (.iload 8, 2) := by decide +kernel
theorem d_M_meetFrom_58 : decode c_M_meetFrom 58 = .ok (.i2l, 1) := by decide +kernel
theorem d_M_meetFrom_59 : decode c_M_meetFrom 59 = .ok (.ldc2_w 297, 3) := by decide +kernel
theorem d_M_meetFrom_62 : decode c_M_meetFrom 62 = .ok (.lmul, 1) := by decide +kernel
theorem d_M_meetFrom_63 : decode c_M_meetFrom 63 = .ok (.lreturn, 1) := by decide +kernel
theorem d_M_meetFrom_64 : decode c_M_meetFrom 64 = .ok (.aload_n 0, 1) := by decide +kernel
theorem d_M_meetFrom_65 : decode c_M_meetFrom 65 = .ok (.iload_n 1, 1) := by decide +kernel
theorem d_M_meetFrom_66 : decode c_M_meetFrom 66 = .ok (.iload 8, 2) := by decide +kernel
theorem d_M_meetFrom_68 : decode c_M_meetFrom 68 = .ok (.iconst 0, 1) := by decide +kernel
theorem d_M_meetFrom_69 : decode c_M_meetFrom 69 = .ok (.invokevirtual 302, 3) := by decide +kernel
theorem d_M_meetFrom_72 : decode c_M_meetFrom 72 = .ok (.aload_n 0, 1) := by decide +kernel
theorem d_M_meetFrom_73 : decode c_M_meetFrom 73 = .ok (.iload_n 2, 1) := by decide +kernel
theorem d_M_meetFrom_74 : decode c_M_meetFrom 74 = .ok (.iload 8, 2) := by decide +kernel
theorem d_M_meetFrom_76 : decode c_M_meetFrom 76 = .ok (.iconst 1, 1) := by decide +kernel
theorem d_M_meetFrom_77 : decode c_M_meetFrom 77 = .ok (.invokevirtual 302, 3) := by decide +kernel
theorem d_M_meetFrom_80 : decode c_M_meetFrom 80 = .ok (.aload_n 0, 1) := by decide +kernel
theorem d_M_meetFrom_81 : decode c_M_meetFrom 81 = .ok (.getfield 284, 3) := by decide +kernel
theorem d_M_meetFrom_84 : decode c_M_meetFrom 84 = .ok (.bipush (-9), 2) := by decide +kernel
theorem d_M_meetFrom_86 : decode c_M_meetFrom 86 = .ok (.if_icmp .eq 132, 3) := by decide +kernel
theorem d_M_meetFrom_89 : decode c_M_meetFrom 89 = .ok (.aload_n 0, 1) := by decide +kernel
theorem d_M_meetFrom_90 : decode c_M_meetFrom 90 = .ok (.getfield 284, 3) := by decide +kernel
theorem d_M_meetFrom_93 : decode c_M_meetFrom 93 = .ok (.aload_n 0, 1) := by decide +kernel
theorem d_M_meetFrom_94 : decode c_M_meetFrom 94 = .ok (.getfield 275, 3) := by decide +kernel
theorem d_M_meetFrom_97 : decode c_M_meetFrom 97 = .ok (.if_icmp .ne 121, 3) := by decide +kernel
theorem d_M_meetFrom_100 : decode c_M_meetFrom 100 = .ok (.aload_n 0, 1) := by decide +kernel
theorem d_M_meetFrom_101 : decode c_M_meetFrom 101 = .ok (.getfield 287, 3) := by decide +kernel
theorem d_M_meetFrom_104 : decode c_M_meetFrom 104 = .ok (.aload_n 0, 1) := by decide +kernel
theorem d_M_meetFrom_105 : decode c_M_meetFrom 105 = .ok (.getfield 278, 3) := by decide +kernel
theorem d_M_meetFrom_108 : decode c_M_meetFrom 108 = .ok (.isub, 1) := by decide +kernel
theorem d_M_meetFrom_109 : decode c_M_meetFrom 109 = .ok (.i2l, 1) := by decide +kernel
theorem d_M_meetFrom_110 : decode c_M_meetFrom 110 = .ok (.lstore 9, 2) := by decide +kernel
theorem d_M_meetFrom_112 : decode c_M_meetFrom 112 = .ok (.aload_n 0, 1) := by decide +kernel
theorem d_M_meetFrom_113 : decode c_M_meetFrom 113 = .ok (.getfield 290, 3) := by decide +kernel
theorem d_M_meetFrom_116 : decode c_M_meetFrom 116 = .ok (.aload_n 0, 1) := by decide +kernel
theorem d_M_meetFrom_117 : decode c_M_meetFrom 117 = .ok (.getfield 281, 3) := by decide +kernel
theorem d_M_meetFrom_120 : decode c_M_meetFrom 120 = .ok (.isub, 1) := by decide +kernel
theorem d_M_meetFrom_121 : decode c_M_meetFrom 121 = .ok (.i2l, 1) := by decide +kernel
theorem d_M_meetFrom_122 : decode c_M_meetFrom 122 = .ok (.lstore 11, 2) := by decide +kernel
theorem d_M_meetFrom_124 : decode c_M_meetFrom 124 = .ok (.lload 9, 2) := by decide +kernel
theorem d_M_meetFrom_126 : decode c_M_meetFrom 126 = .ok (.lconst 0, 1) := by decide +kernel
theorem d_M_meetFrom_127 : decode c_M_meetFrom 127 = .ok (.lcmp, 1) := by decide +kernel
theorem d_M_meetFrom_128 : decode c_M_meetFrom 128 = .ok (.ifCond .ge 10, 3) := by decide +kernel
theorem d_M_meetFrom_131 : decode c_M_meetFrom 131 = .ok (.lload 11, 2) := by decide +kernel
theorem d_M_meetFrom_133 : decode c_M_meetFrom 133 = .ok (.lconst 0, 1) := by decide +kernel
theorem d_M_meetFrom_134 : decode c_M_meetFrom 134 = .ok (.lcmp, 1) := by decide +kernel
theorem d_M_meetFrom_135 : decode c_M_meetFrom 135 = .ok (.ifCond .gt 17, 3) := by decide +kernel
theorem d_M_meetFrom_138 : decode c_M_meetFrom 138 = .ok (.lload 9, 2) := by decide +kernel
theorem d_M_meetFrom_140 : decode c_M_meetFrom 140 = .ok (.lconst 0, 1) := by decide +kernel
theorem d_M_meetFrom_141 : decode c_M_meetFrom 141 = .ok (.lcmp, 1) := by decide +kernel
theorem d_M_meetFrom_142 : decode c_M_meetFrom 142 = .ok (.ifCond .le 76, 3) := by decide +kernel
theorem d_M_meetFrom_145 : decode c_M_meetFrom 145 = .ok (.lload 11, 2) := by decide +kernel
theorem d_M_meetFrom_147 : decode c_M_meetFrom 147 = .ok (.lconst 0, 1) := by decide +kernel
theorem d_M_meetFrom_148 : decode c_M_meetFrom 148 = .ok (.lcmp, 1) := by decide +kernel
theorem d_M_meetFrom_149 : decode c_M_meetFrom 149 = .ok (.ifCond .ge 69, 3) := by decide +kernel
theorem d_M_meetFrom_152 : decode c_M_meetFrom 152 = .ok (.lload 9, 2) := by decide +kernel
theorem d_M_meetFrom_154 : decode c_M_meetFrom 154 = .ok (.lconst 0, 1) := by decide +kernel
theorem d_M_meetFrom_155 : decode c_M_meetFrom 155 = .ok (.lcmp, 1) := by decide +kernel
theorem d_M_meetFrom_156 : decode c_M_meetFrom 156 = .ok (.ifCond .ge 9, 3) := by decide +kernel
theorem d_M_meetFrom_159 : decode c_M_meetFrom 159 = .ok (.lload 9, 2) := by decide +kernel
theorem d_M_meetFrom_161 : decode c_M_meetFrom 161 = .ok (.lneg, 1) := by decide +kernel
theorem d_M_meetFrom_162 : decode c_M_meetFrom 162 = .ok (.goto 5, 3) := by decide +kernel
theorem d_M_meetFrom_165 : decode c_M_meetFrom 165 = .ok (.lload 9, 2) := by decide +kernel
theorem d_M_meetFrom_167 : decode c_M_meetFrom 167 = .ok (.lstore 13, 2) := by decide +kernel
theorem d_M_meetFrom_169 : decode c_M_meetFrom 169 = .ok (.lload 11, 2) := by decide +kernel
theorem d_M_meetFrom_171 : decode c_M_meetFrom 171 = .ok (.lconst 0, 1) := by decide +kernel
theorem d_M_meetFrom_172 : decode c_M_meetFrom 172 = .ok (.lcmp, 1) := by decide +kernel
theorem d_M_meetFrom_173 : decode c_M_meetFrom 173 = .ok (.ifCond .ge 9, 3) := by decide +kernel
theorem d_M_meetFrom_176 : decode c_M_meetFrom 176 = .ok (.lload 11, 2) := by decide +kernel
theorem d_M_meetFrom_178 : decode c_M_meetFrom 178 = .ok (.lneg, 1) := by decide +kernel
theorem d_M_meetFrom_179 : decode c_M_meetFrom 179 = .ok (.goto 5, 3) := by decide +kernel
theorem d_M_meetFrom_182 : decode c_M_meetFrom 182 = .ok (.lload 11, 2) := by decide +kernel
theorem d_M_meetFrom_184 : decode c_M_meetFrom 184 = .ok (.lstore 15, 2) := by decide +kernel
theorem d_M_meetFrom_186 : decode c_M_meetFrom 186 = .ok (.iload 8, 2) := by decide +kernel
theorem d_M_meetFrom_188 : decode c_M_meetFrom 188 = .ok (.i2l, 1) := by decide +kernel
theorem d_M_meetFrom_189 : decode c_M_meetFrom 189 = .ok (.ldc2_w 297, 3) := by decide +kernel
theorem d_M_meetFrom_192 : decode c_M_meetFrom 192 = .ok (.lmul, 1) := by decide +kernel
theorem d_M_meetFrom_193 : decode c_M_meetFrom 193 = .ok (.ldc2_w 297, 3) := by decide +kernel
theorem d_M_meetFrom_196 : decode c_M_meetFrom 196 = .ok (.lload 13, 2) := by decide +kernel
theorem d_M_meetFrom_198 : decode c_M_meetFrom 198 = .ok (.lload 15, 2) := by decide +kernel
theorem d_M_meetFrom_200 : decode c_M_meetFrom 200 = .ok (.ladd, 1) := by decide +kernel
theorem d_M_meetFrom_201 : decode c_M_meetFrom 201 = .ok (.ldiv, 1) := by decide +kernel
theorem d_M_meetFrom_202 : decode c_M_meetFrom 202 = .ok (.lload 13, 2) := by decide +kernel
theorem d_M_meetFrom_204 : decode c_M_meetFrom 204 = .ok (.lmul, 1) := by decide +kernel
theorem d_M_meetFrom_205 : decode c_M_meetFrom 205 = .ok (.ladd, 1) := by decide +kernel
theorem d_M_meetFrom_206 : decode c_M_meetFrom 206 = .ok (.lstore 17, 2) := by decide +kernel
theorem d_M_meetFrom_208 : decode c_M_meetFrom 208 = .ok (.lload 17, 2) := by decide +kernel
theorem d_M_meetFrom_210 : decode c_M_meetFrom 210 = .ok (.lload_n 3, 1) := by decide +kernel
theorem d_M_meetFrom_211 : decode c_M_meetFrom 211 = .ok (.lcmp, 1) := by decide +kernel
theorem d_M_meetFrom_212 : decode c_M_meetFrom 212 = .ok (.ifCond .lt 6, 3) := by decide +kernel
theorem d_M_meetFrom_215 : decode c_M_meetFrom 215 = .ok (.lload 17, 2) := by decide +kernel
theorem d_M_meetFrom_217 : decode c_M_meetFrom 217 = .ok (.lreturn, 1) := by decide +kernel
theorem d_M_meetFrom_218 : decode c_M_meetFrom 218 = .ok (.iinc 8 1, 3) := by decide +kernel
theorem d_M_meetFrom_221 : decode c_M_meetFrom 221 = .ok (.goto (-201), 3) := by decide +kernel
theorem d_M_meetFrom_224 : decode c_M_meetFrom 224 = .ok (.ldc2_w 306, 3) := by decide +kernel
theorem d_M_meetFrom_227 : decode c_M_meetFrom 227 = .ok (.lreturn, 1) := by decide +kernel
theorem d_M_needTwo_0 : decode c_M_needTwo 0 = .ok (.aload_n 0, 1) := by decide +kernel
theorem d_M_needTwo_1 : decode c_M_needTwo 1 = .ok (.iload_n 1, 1) := by decide +kernel
theorem d_M_needTwo_2 : decode c_M_needTwo 2 = .ok (.invokevirtual 165, 3) := by decide +kernel
theorem d_M_needTwo_5 : decode c_M_needTwo 5 = .ok (.ifCond .eq 27, 3) := by decide +kernel
theorem d_M_needTwo_8 : decode c_M_needTwo 8 = .ok (.aload_n 0, 1) := by decide +kernel
theorem d_M_needTwo_9 : decode c_M_needTwo 9 = .ok (.iload_n 2, 1) := by decide +kernel
theorem d_M_needTwo_10 : decode c_M_needTwo 10 = .ok (.invokevirtual 165, 3) := by decide +kernel
theorem d_M_needTwo_13 : decode c_M_needTwo 13 = .ok (.ifCond .eq 19, 3) := by decide +kernel
theorem d_M_needTwo_16 : decode c_M_needTwo 16 = .ok (.iload_n 1, 1) := by decide +kernel
theorem d_M_needTwo_17 : decode c_M_needTwo 17 = .ok (.iload_n 2, 1) := by decide +kernel
theorem d_M_needTwo_18 : decode c_M_needTwo 18 = .ok (.if_icmp .eq 14, 3) := by decide +kernel
theorem d_M_needTwo_21 : decode c_M_needTwo 21 = .ok (.iload_n 3, 1) := by decide +kernel
theorem d_M_needTwo_22 : decode c_M_needTwo 22 = .ok (.iconst 0, 1) := by decide +kernel
theorem d_M_needTwo_23 : decode c_M_needTwo 23 = .ok (.sipush 14399, 3) := by decide +kernel
theorem d_M_needTwo_26 : decode c_M_needTwo 26 = .ok (.invokestatic 117, 3) := by decide +kernel
theorem d_M_needTwo_29 : decode c_M_needTwo 29 = .ok (.ifCond .ne 5, 3) := by decide +kernel
theorem d_M_needTwo_32 : decode c_M_needTwo 32 = .ok (.iconst (-1), 1) := by decide +kernel
theorem d_M_needTwo_33 : decode c_M_needTwo 33 = .ok (.ireturn, 1) := by decide +kernel
theorem d_M_needTwo_34 : decode c_M_needTwo 34 = .ok (.aload_n 0, 1) := by decide +kernel
theorem d_M_needTwo_35 : decode c_M_needTwo 35 = .ok (.getfield 57, 3) := by decide +kernel
theorem d_M_needTwo_38 : decode c_M_needTwo 38 = .ok (.iload_n 1, 1) := by decide +kernel
theorem d_M_needTwo_39 : decode c_M_needTwo 39 = .ok (.baload, 1) := by decide +kernel
theorem d_M_needTwo_40 : decode c_M_needTwo 40 = .ok (.ifCond .ne 12, 3) := by decide +kernel
theorem d_M_needTwo_43 : decode c_M_needTwo 43 = .ok (.aload_n 0, 1) := by decide +kernel
theorem d_M_needTwo_44 : decode c_M_needTwo 44 = .ok (.getfield 57, 3) := by decide +kernel
theorem d_M_needTwo_47 : decode c_M_needTwo 47 = .ok (.iload_n 2, 1) := by decide +kernel
theorem d_M_needTwo_48 : decode c_M_needTwo 48 = .ok (.baload, 1) := by decide +kernel
theorem d_M_needTwo_49 : decode c_M_needTwo 49 = .ok (.ifCond .eq 9, 3) := by decide +kernel
theorem d_M_needTwo_52 : decode c_M_needTwo 52 = .ok (.aload_n 0, 1) := by decide +kernel
theorem d_M_needTwo_53 : decode c_M_needTwo 53 = .ok (.iconst 1, 1) := by decide +kernel
theorem d_M_needTwo_54 : decode c_M_needTwo 54 = .ok (.invokevirtual 135, 3) := by decide +kernel
theorem d_M_needTwo_57 : decode c_M_needTwo 57 = .ok (.ireturn, 1) := by decide +kernel
theorem d_M_needTwo_58 : decode c_M_needTwo 58 = .ok (.aload_n 0, 1) := by decide +kernel
theorem d_M_needTwo_59 : decode c_M_needTwo 59 = .ok (.iload_n 1, 1) := by decide +kernel
theorem d_M_needTwo_60 : decode c_M_needTwo 60 = .ok (.invokevirtual 193, 3) := by decide +kernel
theorem d_M_needTwo_63 : decode c_M_needTwo 63 = .ok (.ifCond .eq 11, 3) := by decide +kernel
theorem d_M_needTwo_66 : decode c_M_needTwo 66 = .ok (.aload_n 0, 1) := by decide +kernel
theorem d_M_needTwo_67 : decode c_M_needTwo 67 = .ok (.iload_n 2, 1) := by decide +kernel
theorem d_M_needTwo_68 : decode c_M_needTwo 68 = .ok (.invokevirtual 193, 3) := by decide +kernel
theorem d_M_needTwo_71 : decode c_M_needTwo 71 = .ok (.ifCond .ne 6, 3) := by decide +kernel
theorem d_M_needTwo_74 : decode c_M_needTwo 74 = .ok (.bipush (-4), 2) := by decide +kernel
theorem d_M_needTwo_76 : decode c_M_needTwo 76 = .ok (.ireturn, 1) := by decide +kernel
theorem d_M_needTwo_77 : decode c_M_needTwo 77 = .ok (.iload 4, 2) := by decide +kernel
theorem d_M_needTwo_79 : decode c_M_needTwo 79 = .ok (.ifCond .eq 19, 3) := by decide +kernel
theorem d_M_needTwo_82 : decode c_M_needTwo 82 = .ok (.aload_n 0, 1) := by decide +kernel
theorem d_M_needTwo_83 : decode c_M_needTwo 83 = .ok (.invokevirtual 308, 3) := by decide +kernel
theorem d_M_needTwo_86 : decode c_M_needTwo 86 = .ok (.ifCond .eq 7, 3) := by decide +kernel
theorem d_M_needTwo_89 : decode c_M_needTwo 89 = .ok (.iconst 0, 1) := by decide +kernel
theorem d_M_needTwo_90 : decode c_M_needTwo 90 = .ok (.goto 27, 3) := by decide +kernel
theorem d_M_needTwo_93 : decode c_M_needTwo 93 = .ok (.bipush (-6), 2) := by decide +kernel
theorem d_M_needTwo_95 : decode c_M_needTwo 95 = .ok (.goto 22, 3) := by decide +kernel
theorem d_M_needTwo_98 : decode c_M_needTwo 98 = .ok (.aload_n 0, 1) := by decide +kernel
theorem d_M_needTwo_99 : decode c_M_needTwo 99 = .ok (.iload_n 1, 1) := by decide +kernel
theorem d_M_needTwo_100 : decode c_M_needTwo 100 = .ok (.iload_n 2, 1) := by decide +kernel
theorem d_M_needTwo_101 : decode c_M_needTwo 101 = .ok (.invokevirtual 293, 3) := by decide +kernel
theorem d_M_needTwo_104 : decode c_M_needTwo 104 = .ok (.ldc2_w 215, 3) := by decide +kernel
theorem d_M_needTwo_107 : decode c_M_needTwo 107 = .ok (.lcmp, 1) := by decide +kernel
theorem d_M_needTwo_108 : decode c_M_needTwo 108 = .ok (.ifCond .le 8, 3) := by decide +kernel
theorem d_M_needTwo_111 : decode c_M_needTwo 111 = .ok (.bipush (-6), 2) := by decide +kernel
theorem d_M_needTwo_113 : decode c_M_needTwo 113 = .ok (.goto 4, 3) := by decide +kernel
theorem d_M_needTwo_116 : decode c_M_needTwo 116 = .ok (.iconst 0, 1) := by decide +kernel
theorem d_M_needTwo_117 : decode c_M_needTwo 117 = .ok (.ireturn, 1) := by decide +kernel
theorem d_M_areShort_0 : decode c_M_areShort 0 = .ok (.iconst 1, 1) := by decide +kernel
theorem d_M_areShort_1 : decode c_M_areShort 1 = .ok (.istore_n 1, 1) := by decide +kernel
theorem d_M_areShort_2 : decode c_M_areShort 2 = .ok (.iconst 0, 1) := by decide +kernel
theorem d_M_areShort_3 : decode c_M_areShort 3 = .ok (.istore_n 2, 1) := by decide +kernel
theorem d_M_areShort_4 : decode c_M_areShort 4 = .ok (.iload_n 2, 1) := by decide +kernel
theorem d_M_areShort_5 : decode c_M_areShort 5 = .ok (.aload_n 0, 1) := by decide +kernel
theorem d_M_areShort_6 : decode c_M_areShort 6 = .ok (.getfield 162, 3) := by decide +kernel
theorem d_M_areShort_9 : decode c_M_areShort 9 = .ok (.if_icmp .ge 61, 3) := by decide +kernel
theorem d_M_areShort_12 : decode c_M_areShort 12 = .ok (.iconst 0, 1) := by decide +kernel
theorem d_M_areShort_13 : decode c_M_areShort 13 = .ok (.istore_n 3, 1) := by decide +kernel
theorem d_M_areShort_14 : decode c_M_areShort 14 = .ok (.iload_n 3, 1) := by decide +kernel
theorem d_M_areShort_15 : decode c_M_areShort 15 = .ok (.iload_n 2, 1) := by decide +kernel
theorem d_M_areShort_16 : decode c_M_areShort 16 = .ok (.if_icmp .ge 48, 3) := by decide +kernel
theorem d_M_areShort_19 : decode c_M_areShort 19 = .ok (.iload_n 1, 1) := by decide +kernel
theorem d_M_areShort_20 : decode c_M_areShort 20 = .ok (.ifCond .eq 36, 3) := by decide +kernel
theorem d_M_areShort_23 : decode c_M_areShort 23 = .ok (.aload_n 0, 1) := by decide +kernel
theorem d_M_areShort_24 : decode c_M_areShort 24 = .ok (.iload_n 2, 1) := by decide +kernel
theorem d_M_areShort_25 : decode c_M_areShort 25 = .ok (.invokevirtual 193, 3) := by decide +kernel
theorem d_M_areShort_28 : decode c_M_areShort 28 = .ok (.ifCond .eq 24, 3) := by decide +kernel
theorem d_M_areShort_31 : decode c_M_areShort 31 = .ok (.aload_n 0, 1) := by decide +kernel
theorem d_M_areShort_32 : decode c_M_areShort 32 = .ok (.iload_n 3, 1) := by decide +kernel
theorem d_M_areShort_33 : decode c_M_areShort 33 = .ok (.invokevirtual 193, 3) := by decide +kernel
theorem d_M_areShort_36 : decode c_M_areShort 36 = .ok (.ifCond .eq 16, 3) := by decide +kernel
theorem d_M_areShort_39 : decode c_M_areShort 39 = .ok (.aload_n 0, 1) := by decide +kernel
theorem d_M_areShort_40 : decode c_M_areShort 40 = .ok (.iload_n 2, 1) := by decide +kernel
theorem d_M_areShort_41 : decode c_M_areShort 41 = .ok (.iload_n 3, 1) := by decide +kernel
theorem d_M_areShort_42 : decode c_M_areShort 42 = .ok (.invokevirtual 293, 3) := by decide +kernel
theorem d_M_areShort_45 : decode c_M_areShort 45 = .ok (.ldc2_w 215, 3) := by decide +kernel
theorem d_M_areShort_48 : decode c_M_areShort 48 = .ok (.lcmp, 1) := by decide +kernel
theorem d_M_areShort_49 : decode c_M_areShort 49 = .ok (.ifCond .gt 7, 3) := by decide +kernel
theorem d_M_areShort_52 : decode c_M_areShort 52 = .ok (.iconst 1, 1) := by decide +kernel
theorem d_M_areShort_53 : decode c_M_areShort 53 = .ok (.goto 4, 3) := by decide +kernel
theorem d_M_areShort_56 : decode c_M_areShort 56 = .ok (.iconst 0, 1) := by decide +kernel
theorem d_M_areShort_57 : decode c_M_areShort 57 = .ok (.istore_n 1, 1) := by decide +kernel
theorem d_M_areShort_58 : decode c_M_areShort 58 = .ok (.iinc 3 1, 3) := by decide +kernel
theorem d_M_areShort_61 : decode c_M_areShort 61 = .ok (.goto (-47), 3) := by decide +kernel
theorem d_M_areShort_64 : decode c_M_areShort 64 = .ok (.iinc 2 1, 3) := by decide +kernel
theorem d_M_areShort_67 : decode c_M_areShort 67 = .ok (.goto (-63), 3) := by decide +kernel
theorem d_M_areShort_70 : decode c_M_areShort 70 = .ok (.iload_n 1, 1) := by decide +kernel
theorem d_M_areShort_71 : decode c_M_areShort 71 = .ok (.ireturn, 1) := by decide +kernel
theorem d_M_meet_0 : decode c_M_meet 0 = .ok (.aload_n 0, 1) := by decide +kernel
theorem d_M_meet_1 : decode c_M_meet 1 = .ok (.iload_n 1, 1) := by decide +kernel
theorem d_M_meet_2 : decode c_M_meet 2 = .ok (.iload_n 2, 1) := by decide +kernel
theorem d_M_meet_3 : decode c_M_meet 3 = .ok (.iload_n 3, 1) := by decide +kernel
theorem d_M_meet_4 : decode c_M_meet 4 = .ok (.iconst 0, 1) := by decide +kernel
theorem d_M_meet_5 : decode c_M_meet 5 = .ok (.invokevirtual 311, 3) := by decide +kernel
theorem d_M_meet_8 : decode c_M_meet 8 = .ok (.istore 4, 2) := by decide +kernel
theorem d_M_meet_10 : decode c_M_meet 10 = .ok (.iload 4, 2) := by decide +kernel
theorem d_M_meet_12 : decode c_M_meet 12 = .ok (.ifCond .ge 6, 3) := by decide +kernel
theorem d_M_meet_15 : decode c_M_meet 15 = .ok (.iload 4, 2) := by decide +kernel
theorem d_M_meet_17 : decode c_M_meet 17 = .ok (.ireturn, 1) := by decide +kernel
theorem d_M_meet_18 : decode c_M_meet 18 = .ok (.aload_n 0, 1) := by decide +kernel
theorem d_M_meet_19 : decode c_M_meet 19 = .ok (.iload_n 1, 1) := by decide +kernel
theorem d_M_meet_20 : decode c_M_meet 20 = .ok (.iload_n 2, 1) := by decide +kernel
theorem d_M_meet_21 : decode c_M_meet 21 = .ok (.iload_n 3, 1) := by decide +kernel
theorem d_M_meet_22 : decode c_M_meet 22 = .ok (.i2l, 1) := by decide +kernel
theorem d_M_meet_23 : decode c_M_meet 23 = .ok (.ldc2_w 297, 3) := by decide +kernel
theorem d_M_meet_26 : decode c_M_meet 26 = .ok (.lmul, 1) := by decide +kernel
theorem d_M_meet_27 : decode c_M_meet 27 = .ok (.invokevirtual 315, 3) := by decide +kernel
theorem d_M_meet_30 : decode c_M_meet 30 = .ok (.lstore 5, 2) := by decide +kernel
theorem d_M_meet_32 : decode c_M_meet 32 = .ok (.lload 5, 2) := by decide +kernel
theorem d_M_meet_34 : decode c_M_meet 34 = .ok (.lconst 0, 1) := by decide +kernel
theorem d_M_meet_35 : decode c_M_meet 35 = .ok (.lcmp, 1) := by decide +kernel
theorem d_M_meet_36 : decode c_M_meet 36 = .ok (.ifCond .ge 8, 3) := by decide +kernel
theorem d_M_meet_39 : decode c_M_meet 39 = .ok (.bipush (-9), 2) := by decide +kernel
theorem d_M_meet_41 : decode c_M_meet 41 = .ok (.goto 13, 3) := by decide +kernel
theorem d_M_meet_44 : decode c_M_meet 44 = .ok (.aload_n 0, 1) := by decide +kernel
theorem d_M_meet_45 : decode c_M_meet 45 = .ok (.lload 5, 2) := by decide +kernel
theorem d_M_meet_47 : decode c_M_meet 47 = .ok (.ldc2_w 297, 3) := by decide +kernel
theorem d_M_meet_50 : decode c_M_meet 50 = .ok (.iconst 1, 1) := by decide +kernel
theorem d_M_meet_51 : decode c_M_meet 51 = .ok (.invokevirtual 265, 3) := by decide +kernel
theorem d_M_meet_54 : decode c_M_meet 54 = .ok (.ireturn, 1) := by decide +kernel
theorem d_M_layWord_0 : decode c_M_layWord 0 = .ok (.iconst 0, 1) := by decide +kernel
theorem d_M_layWord_1 : decode c_M_layWord 1 = .ok (.istore_n 3, 1) := by decide +kernel
theorem d_M_layWord_2 : decode c_M_layWord 2 = .ok (.iload_n 3, 1) := by decide +kernel
theorem d_M_layWord_3 : decode c_M_layWord 3 = .ok (.aload_n 0, 1) := by decide +kernel
theorem d_M_layWord_4 : decode c_M_layWord 4 = .ok (.getfield 162, 3) := by decide +kernel
theorem d_M_layWord_7 : decode c_M_layWord 7 = .ok (.if_icmp .ge 25, 3) := by decide +kernel
theorem d_M_layWord_10 : decode c_M_layWord 10 = .ok (.aload_n 0, 1) := by decide +kernel
theorem d_M_layWord_11 : decode c_M_layWord 11 = .ok (.getfield 75, 3) := by decide +kernel
theorem d_M_layWord_14 : decode c_M_layWord 14 = .ok (.iload_n 3, 1) := by decide +kernel
theorem d_M_layWord_15 : decode c_M_layWord 15 = .ok (.ldc2_w 306, 3) := by decide +kernel
theorem d_M_layWord_18 : decode c_M_layWord 18 = .ok (.lastore, 1) := by decide +kernel
theorem d_M_layWord_19 : decode c_M_layWord 19 = .ok (.aload_n 0, 1) := by decide +kernel
theorem d_M_layWord_20 : decode c_M_layWord 20 = .ok (.getfield 79, 3) := by decide +kernel
theorem d_M_layWord_23 : decode c_M_layWord 23 = .ok (.iload_n 3, 1) := by decide +kernel
theorem d_M_layWord_24 : decode c_M_layWord 24 = .ok (.iconst 0, 1) := by decide +kernel
theorem d_M_layWord_25 : decode c_M_layWord 25 = .ok (.bastore, 1) := by decide +kernel
theorem d_M_layWord_26 : decode c_M_layWord 26 = .ok (.iinc 3 1, 3) := by decide +kernel
theorem d_M_layWord_29 : decode c_M_layWord 29 = .ok (.goto (-27), 3) := by decide +kernel
theorem d_M_layWord_32 : decode c_M_layWord 32 = .ok (.aload_n 0, 1) := by decide +kernel
theorem d_M_layWord_33 : decode c_M_layWord 33 = .ok (.getfield 75, 3) := by decide +kernel
theorem d_M_layWord_36 : decode c_M_layWord 36 = .ok (.iload_n 2, 1) := by decide +kernel
theorem d_M_layWord_37 : decode c_M_layWord 37 = .ok (.iload_n 1, 1) := by decide +kernel
theorem d_M_layWord_38 : decode c_M_layWord 38 = .ok (.i2l, 1) := by decide +kernel
theorem d_M_layWord_39 : decode c_M_layWord 39 = .ok (.ldc2_w 297, 3) := by decide +kernel
theorem d_M_layWord_42 : decode c_M_layWord 42 = .ok (.lmul, 1) := by decide +kernel
theorem d_M_layWord_43 : decode c_M_layWord 43 = .ok (.lastore, 1) := by decide +kernel
theorem d_M_layWord_44 : decode c_M_layWord 44 = .ok (.iload_n 2, 1) := by decide +kernel
theorem d_M_layWord_45 : decode c_M_layWord 45 = .ok (.istore_n 3, 1) := by decide +kernel
theorem d_M_layWord_46 : decode c_M_layWord 46 = .ok (.iload_n 3, 1) := by decide +kernel
theorem d_M_layWord_47 : decode c_M_layWord 47 = .ok (.bipush (-9), 2) := by decide +kernel
theorem d_M_layWord_49 : decode c_M_layWord 49 = .ok (.if_icmp .eq 189, 3) := by decide +kernel
theorem d_M_layWord_52 : decode c_M_layWord 52 = .ok (.aload_n 0, 1) := by decide +kernel
theorem d_M_layWord_53 : decode c_M_layWord 53 = .ok (.getfield 79, 3) := by decide +kernel
theorem d_M_layWord_56 : decode c_M_layWord 56 = .ok (.iload_n 3, 1) := by decide +kernel
theorem d_M_layWord_57 : decode c_M_layWord 57 = .ok (.iconst 1, 1) := by decide +kernel
theorem d_M_layWord_58 : decode c_M_layWord 58 = .ok (.bastore, 1) := by decide +kernel
theorem d_M_layWord_59 : decode c_M_layWord 59 = .ok (.iconst 0, 1) := by decide +kernel
theorem d_M_layWord_60 : decode c_M_layWord 60 = .ok (.istore 4, 2) := by decide +kernel
theorem d_M_layWord_62 : decode c_M_layWord 62 = .ok (.iload 4, 2) := by decide +kernel
theorem d_M_layWord_64 : decode c_M_layWord 64 = .ok (.aload_n 0, 1) := by decide +kernel
theorem d_M_layWord_65 : decode c_M_layWord 65 = .ok (.getfield 162, 3) := by decide +kernel
theorem d_M_layWord_68 : decode c_M_layWord 68 = .ok (.if_icmp .ge 94, 3) := by decide +kernel
theorem d_M_layWord_71 : decode c_M_layWord 71 = .ok (.aload_n 0, 1) := by decide +kernel
theorem d_M_layWord_72 : decode c_M_layWord 72 = .ok (.iload 4, 2) := by decide +kernel
theorem d_M_layWord_74 : decode c_M_layWord 74 = .ok (.invokevirtual 193, 3) := by decide +kernel
theorem d_M_layWord_77 : decode c_M_layWord 77 = .ok (.ifCond .eq 79, 3) := by decide +kernel
theorem d_M_layWord_80 : decode c_M_layWord 80 = .ok (.aload_n 0, 1) := by decide +kernel
theorem d_M_layWord_81 : decode c_M_layWord 81 = .ok (.getfield 79, 3) := by decide +kernel
theorem d_M_layWord_84 : decode c_M_layWord 84 = .ok (.iload 4, 2) := by decide +kernel
theorem d_M_layWord_86 : decode c_M_layWord 86 = .ok (.baload, 1) := by decide +kernel
theorem d_M_layWord_87 : decode c_M_layWord 87 = .ok (.ifCond .ne 69, 3) := by decide +kernel
theorem d_M_layWord_90 : decode c_M_layWord 90 = .ok (.aload_n 0, 1) := by decide +kernel
theorem d_M_layWord_91 : decode c_M_layWord 91 = .ok (.iload_n 3, 1) := by decide +kernel
theorem d_M_layWord_92 : decode c_M_layWord 92 = .ok (.iload 4, 2) := by decide +kernel
theorem d_M_layWord_94 : decode c_M_layWord 94 = .ok (.aload_n 0, 1) := by decide +kernel
theorem d_M_layWord_95 : decode c_M_layWord 95 = .ok (.getfield 75, 3) := by decide +kernel
theorem d_M_layWord_98 : decode c_M_layWord 98 = .ok (.iload_n 3, 1) := by decide +kernel
theorem d_M_layWord_99 : decode c_M_layWord 99 = .ok (.laload, 1) := by decide +kernel
theorem d_M_layWord_100 : decode c_M_layWord 100 = .ok (.invokevirtual 315, 3) := by decide +kernel
theorem d_M_layWord_103 : decode c_M_layWord 103 = .ok (.lstore 5, 2) := by decide +kernel
theorem d_M_layWord_105 : decode c_M_layWord 105 = .ok (.aload_n 0, 1) := by decide +kernel
theorem d_M_layWord_106 : decode c_M_layWord 106 = .ok (.getfield 75, 3) := by decide +kernel
theorem d_M_layWord_109 : decode c_M_layWord 109 = .ok (.iload 4, 2) := by decide +kernel
theorem d_M_layWord_111 : decode c_M_layWord 111 = .ok (.lload 5, 2) := by decide +kernel
theorem d_M_layWord_113 : decode c_M_layWord 113 = .ok (.lconst 0, 1) := by decide +kernel
theorem d_M_layWord_114 : decode c_M_layWord 114 = .ok (.lcmp, 1) := by decide +kernel
theorem d_M_layWord_115 : decode c_M_layWord 115 = .ok (.ifCond .lt 33, 3) := by decide +kernel
theorem d_M_layWord_118 : decode c_M_layWord 118 = .ok (.aload_n 0, 1) := by decide +kernel
theorem d_M_layWord_119 : decode c_M_layWord 119 = .ok (.getfield 75, 3) := by decide +kernel
theorem d_M_layWord_122 : decode c_M_layWord 122 = .ok (.iload 4, 2) := by decide +kernel
theorem d_M_layWord_124 : decode c_M_layWord 124 = .ok (.laload, 1) := by decide +kernel
theorem d_M_layWord_125 : decode c_M_layWord 125 = .ok (.lconst 0, 1) := by decide +kernel
theorem d_M_layWord_126 : decode c_M_layWord 126 = .ok (.lcmp, 1) := by decide +kernel
theorem d_M_layWord_127 : decode c_M_layWord 127 = .ok (.ifCond .lt 16, 3) := by decide +kernel
theorem d_M_layWord_130 : decode c_M_layWord 130 = .ok (.lload 5, 2) := by decide +kernel
theorem d_M_layWord_132 : decode c_M_layWord 132 = .ok (.aload_n 0, 1) := by decide +kernel
theorem d_M_layWord_133 : decode c_M_layWord 133 = .ok (.getfield 75, 3) := by decide +kernel
theorem d_M_layWord_136 : decode c_M_layWord 136 = .ok (.iload 4, 2) := by decide +kernel
theorem d_M_layWord_138 : decode c_M_layWord 138 = .ok (.laload, 1) := by decide +kernel
theorem d_M_layWord_139 : decode c_M_layWord 139 = .ok (.lcmp, 1) := by decide +kernel
theorem d_M_layWord_140 : decode c_M_layWord 140 = .ok (.ifCond .ge 8, 3) := by decide +kernel
theorem d_M_layWord_143 : decode c_M_layWord 143 = .ok (.lload 5, 2) := by decide +kernel
theorem d_M_layWord_145 : decode c_M_layWord 145 = .ok (.goto 10, 3) := by decide +kernel
theorem d_M_layWord_148 : decode c_M_layWord 148 = .ok (.aload_n 0, 1) := by decide +kernel
theorem d_M_layWord_149 : decode c_M_layWord 149 = .ok (.getfield 75, 3) := by decide +kernel
theorem d_M_layWord_152 : decode c_M_layWord 152 = .ok (.iload 4, 2) := by decide +kernel
theorem d_M_layWord_154 : decode c_M_layWord 154 = .ok (.laload, 1) := by decide +kernel
theorem d_M_layWord_155 : decode c_M_layWord 155 = .ok (.lastore, 1) := by decide +kernel
theorem d_M_layWord_156 : decode c_M_layWord 156 = .ok (.iinc 4 1, 3) := by decide +kernel
theorem d_M_layWord_159 : decode c_M_layWord 159 = .ok (.goto (-97), 3) := by decide +kernel
theorem d_M_layWord_162 : decode c_M_layWord 162 = .ok (.bipush (-9), 2) := by decide +kernel
theorem d_M_layWord_164 : decode c_M_layWord 164 = .ok (.istore_n 3, 1) := by decide +kernel
theorem d_M_layWord_165 : decode c_M_layWord 165 = .ok (.iconst 0, 1) := by decide +kernel
theorem d_M_layWord_166 : decode c_M_layWord 166 = .ok (.istore 4, 2) := by decide +kernel
theorem d_M_layWord_168 : decode c_M_layWord 168 = .ok (.iload 4, 2) := by decide +kernel
theorem d_M_layWord_170 : decode c_M_layWord 170 = .ok (.aload_n 0, 1) := by decide +kernel
theorem d_M_layWord_171 : decode c_M_layWord 171 = .ok (.getfield 162, 3) := by decide +kernel
theorem d_M_layWord_174 : decode c_M_layWord 174 = .ok (.if_icmp .ge 61, 3) := by decide +kernel
theorem d_M_layWord_177 : decode c_M_layWord 177 = .ok (.aload_n 0, 1) := by decide +kernel
theorem d_M_layWord_178 : decode c_M_layWord 178 = .ok (.getfield 79, 3) := by decide +kernel
theorem d_M_layWord_181 : decode c_M_layWord 181 = .ok (.iload 4, 2) := by decide +kernel
theorem d_M_layWord_183 : decode c_M_layWord 183 = .ok (.baload, 1) := by decide +kernel
theorem d_M_layWord_184 : decode c_M_layWord 184 = .ok (.ifCond .ne 43, 3) := by decide +kernel
theorem d_M_layWord_187 : decode c_M_layWord 187 = .ok (.aload_n 0, 1) := by decide +kernel
theorem d_M_layWord_188 : decode c_M_layWord 188 = .ok (.getfield 75, 3) := by decide +kernel
theorem d_M_layWord_191 : decode c_M_layWord 191 = .ok (.iload 4, 2) := by decide +kernel
theorem d_M_layWord_193 : decode c_M_layWord 193 = .ok (.laload, 1) := by decide +kernel
theorem d_M_layWord_194 : decode c_M_layWord 194 = .ok (.lconst 0, 1) := by decide +kernel
theorem d_M_layWord_195 : decode c_M_layWord 195 = .ok (.lcmp, 1) := by decide +kernel
theorem d_M_layWord_196 : decode c_M_layWord 196 = .ok (.ifCond .lt 31, 3) := by decide +kernel
theorem d_M_layWord_199 : decode c_M_layWord 199 = .ok (.iload_n 3, 1) := by decide +kernel
theorem d_M_layWord_200 : decode c_M_layWord 200 = .ok (.bipush (-9), 2) := by decide +kernel
theorem d_M_layWord_202 : decode c_M_layWord 202 = .ok (.if_icmp .eq 20, 3) := by decide +kernel
theorem d_M_layWord_205 : decode c_M_layWord 205 = .ok (.aload_n 0, 1) := by decide +kernel
theorem d_M_layWord_206 : decode c_M_layWord 206 = .ok (.getfield 75, 3) := by decide +kernel
theorem d_M_layWord_209 : decode c_M_layWord 209 = .ok (.iload 4, 2) := by decide +kernel
theorem d_M_layWord_211 : decode c_M_layWord 211 = .ok (.laload, 1) := by decide +kernel
theorem d_M_layWord_212 : decode c_M_layWord 212 = .ok (.aload_n 0, 1) := by decide +kernel
theorem d_M_layWord_213 : decode c_M_layWord 213 = .ok (.getfield 75, 3) := by decide +kernel
theorem d_M_layWord_216 : decode c_M_layWord 216 = .ok (.iload_n 3, 1) := by decide +kernel
theorem d_M_layWord_217 : decode c_M_layWord 217 = .ok (.laload, 1) := by decide +kernel
theorem d_M_layWord_218 : decode c_M_layWord 218 = .ok (.lcmp, 1) := by decide +kernel
theorem d_M_layWord_219 : decode c_M_layWord 219 = .ok (.ifCond .ge 8, 3) := by decide +kernel
theorem d_M_layWord_222 : decode c_M_layWord 222 = .ok (.iload 4, 2) := by decide +kernel
theorem d_M_layWord_224 : decode c_M_layWord 224 = .ok (.goto 4, 3) := by decide +kernel
theorem d_M_layWord_227 : decode c_M_layWord 227 = .ok (.iload_n 3, 1) := by decide +kernel
theorem d_M_layWord_228 : decode c_M_layWord 228 = .ok (.istore_n 3, 1) := by decide +kernel
theorem d_M_layWord_229 : decode c_M_layWord 229 = .ok (.iinc 4 1, 3) := by decide +kernel
theorem d_M_layWord_232 : decode c_M_layWord 232 = .ok (.goto (-64), 3) := by decide +kernel
theorem d_M_layWord_235 : decode c_M_layWord 235 = .ok (.goto (-189), 3) := by decide +kernel
theorem d_M_layWord_238 : decode c_M_layWord 238 = .ok (.return_, 1) := by decide +kernel
theorem d_M_word_0 : decode c_M_word 0 = .ok (.iload_n 1, 1) := by decide +kernel
theorem d_M_word_1 : decode c_M_word 1 = .ok (.iload_n 3, 1) := by decide +kernel
theorem d_M_word_2 : decode c_M_word 2 = .ok (.if_icmp .ne 30, 3) := by decide +kernel
theorem d_M_word_5 : decode c_M_word 5 = .ok (.aload_n 0, 1) := by decide +kernel
theorem d_M_word_6 : decode c_M_word 6 = .ok (.iload_n 1, 1) := by decide +kernel
theorem d_M_word_7 : decode c_M_word 7 = .ok (.iload_n 2, 1) := by decide +kernel
theorem d_M_word_8 : decode c_M_word 8 = .ok (.invokevirtual 319, 3) := by decide +kernel
theorem d_M_word_11 : decode c_M_word 11 = .ok (.istore 4, 2) := by decide +kernel
theorem d_M_word_13 : decode c_M_word 13 = .ok (.iload 4, 2) := by decide +kernel
theorem d_M_word_15 : decode c_M_word 15 = .ok (.ifCond .ge 8, 3) := by decide +kernel
theorem d_M_word_18 : decode c_M_word 18 = .ok (.iload 4, 2) := by decide +kernel
theorem d_M_word_20 : decode c_M_word 20 = .ok (.goto 11, 3) := by decide +kernel
theorem d_M_word_23 : decode c_M_word 23 = .ok (.aload_n 0, 1) := by decide +kernel
theorem d_M_word_24 : decode c_M_word 24 = .ok (.iload_n 2, 1) := by decide +kernel
theorem d_M_word_25 : decode c_M_word 25 = .ok (.i2l, 1) := by decide +kernel
theorem d_M_word_26 : decode c_M_word 26 = .ok (.lconst 1, 1) := by decide +kernel
theorem d_M_word_27 : decode c_M_word 27 = .ok (.iconst 1, 1) := by decide +kernel
theorem d_M_word_28 : decode c_M_word 28 = .ok (.invokevirtual 265, 3) := by decide +kernel
theorem d_M_word_31 : decode c_M_word 31 = .ok (.ireturn, 1) := by decide +kernel
theorem d_M_word_32 : decode c_M_word 32 = .ok (.aload_n 0, 1) := by decide +kernel
theorem d_M_word_33 : decode c_M_word 33 = .ok (.iload_n 1, 1) := by decide +kernel
theorem d_M_word_34 : decode c_M_word 34 = .ok (.iload_n 3, 1) := by decide +kernel
theorem d_M_word_35 : decode c_M_word 35 = .ok (.iload_n 2, 1) := by decide +kernel
theorem d_M_word_36 : decode c_M_word 36 = .ok (.iconst 1, 1) := by decide +kernel
theorem d_M_word_37 : decode c_M_word 37 = .ok (.invokevirtual 311, 3) := by decide +kernel
theorem d_M_word_40 : decode c_M_word 40 = .ok (.istore 4, 2) := by decide +kernel
theorem d_M_word_42 : decode c_M_word 42 = .ok (.iload 4, 2) := by decide +kernel
theorem d_M_word_44 : decode c_M_word 44 = .ok (.ifCond .ge 6, 3) := by decide +kernel
theorem d_M_word_47 : decode c_M_word 47 = .ok (.iload 4, 2) := by decide +kernel
theorem d_M_word_49 : decode c_M_word 49 = .ok (.ireturn, 1) := by decide +kernel
theorem d_M_word_50 : decode c_M_word 50 = .ok (.aload_n 0, 1) := by decide +kernel
theorem d_M_word_51 : decode c_M_word 51 = .ok (.iload_n 2, 1) := by decide +kernel
theorem d_M_word_52 : decode c_M_word 52 = .ok (.iload_n 1, 1) := by decide +kernel
theorem d_M_word_53 : decode c_M_word 53 = .ok (.invokevirtual 322, 3) := by decide +kernel
theorem d_M_word_56 : decode c_M_word 56 = .ok (.aload_n 0, 1) := by decide +kernel
theorem d_M_word_57 : decode c_M_word 57 = .ok (.getfield 75, 3) := by decide +kernel
theorem d_M_word_60 : decode c_M_word 60 = .ok (.iload_n 3, 1) := by decide +kernel
theorem d_M_word_61 : decode c_M_word 61 = .ok (.laload, 1) := by decide +kernel
theorem d_M_word_62 : decode c_M_word 62 = .ok (.lconst 0, 1) := by decide +kernel
theorem d_M_word_63 : decode c_M_word 63 = .ok (.lcmp, 1) := by decide +kernel
theorem d_M_word_64 : decode c_M_word 64 = .ok (.ifCond .ge 8, 3) := by decide +kernel
theorem d_M_word_67 : decode c_M_word 67 = .ok (.bipush (-9), 2) := by decide +kernel
theorem d_M_word_69 : decode c_M_word 69 = .ok (.goto 17, 3) := by decide +kernel
theorem d_M_word_72 : decode c_M_word 72 = .ok (.aload_n 0, 1) := by decide +kernel
theorem d_M_word_73 : decode c_M_word 73 = .ok (.aload_n 0, 1) := by decide +kernel
theorem d_M_word_74 : decode c_M_word 74 = .ok (.getfield 75, 3) := by decide +kernel
theorem d_M_word_77 : decode c_M_word 77 = .ok (.iload_n 3, 1) := by decide +kernel
theorem d_M_word_78 : decode c_M_word 78 = .ok (.laload, 1) := by decide +kernel
theorem d_M_word_79 : decode c_M_word 79 = .ok (.ldc2_w 297, 3) := by decide +kernel
theorem d_M_word_82 : decode c_M_word 82 = .ok (.iconst 1, 1) := by decide +kernel
theorem d_M_word_83 : decode c_M_word 83 = .ok (.invokevirtual 265, 3) := by decide +kernel
theorem d_M_word_86 : decode c_M_word 86 = .ok (.ireturn, 1) := by decide +kernel
theorem d_M_needOne_0 : decode c_M_needOne 0 = .ok (.aload_n 0, 1) := by decide +kernel
theorem d_M_needOne_1 : decode c_M_needOne 1 = .ok (.iload_n 2, 1) := by decide +kernel
theorem d_M_needOne_2 : decode c_M_needOne 2 = .ok (.iconst 0, 1) := by decide +kernel
theorem d_M_needOne_3 : decode c_M_needOne 3 = .ok (.sipush 14399, 3) := by decide +kernel
theorem d_M_needOne_6 : decode c_M_needOne 6 = .ok (.invokestatic 117, 3) := by decide +kernel
theorem d_M_needOne_9 : decode c_M_needOne 9 = .ok (.iload_n 1, 1) := by decide +kernel
theorem d_M_needOne_10 : decode c_M_needOne 10 = .ok (.invokevirtual 168, 3) := by decide +kernel
theorem d_M_needOne_13 : decode c_M_needOne 13 = .ok (.istore_n 3, 1) := by decide +kernel
theorem d_M_needOne_14 : decode c_M_needOne 14 = .ok (.iload_n 3, 1) := by decide +kernel
theorem d_M_needOne_15 : decode c_M_needOne 15 = .ok (.ifCond .ge 7, 3) := by decide +kernel
theorem d_M_needOne_18 : decode c_M_needOne 18 = .ok (.iload_n 3, 1) := by decide +kernel
theorem d_M_needOne_19 : decode c_M_needOne 19 = .ok (.goto 29, 3) := by decide +kernel
theorem d_M_needOne_22 : decode c_M_needOne 22 = .ok (.aload_n 0, 1) := by decide +kernel
theorem d_M_needOne_23 : decode c_M_needOne 23 = .ok (.iload_n 1, 1) := by decide +kernel
theorem d_M_needOne_24 : decode c_M_needOne 24 = .ok (.invokevirtual 193, 3) := by decide +kernel
theorem d_M_needOne_27 : decode c_M_needOne 27 = .ok (.ifCond .ne 8, 3) := by decide +kernel
theorem d_M_needOne_30 : decode c_M_needOne 30 = .ok (.bipush (-4), 2) := by decide +kernel
theorem d_M_needOne_32 : decode c_M_needOne 32 = .ok (.goto 16, 3) := by decide +kernel
theorem d_M_needOne_35 : decode c_M_needOne 35 = .ok (.aload_n 0, 1) := by decide +kernel
theorem d_M_needOne_36 : decode c_M_needOne 36 = .ok (.invokevirtual 308, 3) := by decide +kernel
theorem d_M_needOne_39 : decode c_M_needOne 39 = .ok (.ifCond .eq 7, 3) := by decide +kernel
theorem d_M_needOne_42 : decode c_M_needOne 42 = .ok (.iconst 0, 1) := by decide +kernel
theorem d_M_needOne_43 : decode c_M_needOne 43 = .ok (.goto 5, 3) := by decide +kernel
theorem d_M_needOne_46 : decode c_M_needOne 46 = .ok (.bipush (-6), 2) := by decide +kernel
theorem d_M_needOne_48 : decode c_M_needOne 48 = .ok (.ireturn, 1) := by decide +kernel
theorem d_M_spread_0 : decode c_M_spread 0 = .ok (.aload_n 0, 1) := by decide +kernel
theorem d_M_spread_1 : decode c_M_spread 1 = .ok (.iload_n 1, 1) := by decide +kernel
theorem d_M_spread_2 : decode c_M_spread 2 = .ok (.iload_n 2, 1) := by decide +kernel
theorem d_M_spread_3 : decode c_M_spread 3 = .ok (.invokevirtual 319, 3) := by decide +kernel
theorem d_M_spread_6 : decode c_M_spread 6 = .ok (.istore_n 3, 1) := by decide +kernel
theorem d_M_spread_7 : decode c_M_spread 7 = .ok (.iload_n 3, 1) := by decide +kernel
theorem d_M_spread_8 : decode c_M_spread 8 = .ok (.ifCond .ge 5, 3) := by decide +kernel
theorem d_M_spread_11 : decode c_M_spread 11 = .ok (.iload_n 3, 1) := by decide +kernel
theorem d_M_spread_12 : decode c_M_spread 12 = .ok (.ireturn, 1) := by decide +kernel
theorem d_M_spread_13 : decode c_M_spread 13 = .ok (.aload_n 0, 1) := by decide +kernel
theorem d_M_spread_14 : decode c_M_spread 14 = .ok (.iload_n 2, 1) := by decide +kernel
theorem d_M_spread_15 : decode c_M_spread 15 = .ok (.iload_n 1, 1) := by decide +kernel
theorem d_M_spread_16 : decode c_M_spread 16 = .ok (.invokevirtual 322, 3) := by decide +kernel
theorem d_M_spread_19 : decode c_M_spread 19 = .ok (.iconst 0, 1) := by decide +kernel
theorem d_M_spread_20 : decode c_M_spread 20 = .ok (.istore 4, 2) := by decide +kernel
theorem d_M_spread_22 : decode c_M_spread 22 = .ok (.iconst 0, 1) := by decide +kernel
theorem d_M_spread_23 : decode c_M_spread 23 = .ok (.istore 5, 2) := by decide +kernel
theorem d_M_spread_25 : decode c_M_spread 25 = .ok (.iload 5, 2) := by decide +kernel
theorem d_M_spread_27 : decode c_M_spread 27 = .ok (.aload_n 0, 1) := by decide +kernel
theorem d_M_spread_28 : decode c_M_spread 28 = .ok (.getfield 162, 3) := by decide +kernel
theorem d_M_spread_31 : decode c_M_spread 31 = .ok (.if_icmp .ge 31, 3) := by decide +kernel
theorem d_M_spread_34 : decode c_M_spread 34 = .ok (.iload 4, 2) := by decide +kernel
theorem d_M_spread_36 : decode c_M_spread 36 = .ok (.aload_n 0, 1) := by decide +kernel
theorem d_M_spread_37 : decode c_M_spread 37 = .ok (.getfield 75, 3) := by decide +kernel
theorem d_M_spread_40 : decode c_M_spread 40 = .ok (.iload 5, 2) := by decide +kernel
theorem d_M_spread_42 : decode c_M_spread 42 = .ok (.laload, 1) := by decide +kernel
theorem d_M_spread_43 : decode c_M_spread 43 = .ok (.lconst 0, 1) := by decide +kernel
theorem d_M_spread_44 : decode c_M_spread 44 = .ok (.lcmp, 1) := by decide +kernel
theorem d_M_spread_45 : decode c_M_spread 45 = .ok (.ifCond .lt 7, 3) := by decide +kernel
theorem d_M_spread_48 : decode c_M_spread 48 = .ok (.iconst 1, 1) := by decide +kernel
theorem d_M_spread_49 : decode c_M_spread 49 = .ok (.goto 4, 3) := by decide +kernel
theorem d_M_spread_52 : decode c_M_spread 52 = .ok (.iconst 0, 1) := by decide +kernel
theorem d_M_spread_53 : decode c_M_spread 53 = .ok (.iadd, 1) := by decide +kernel
theorem d_M_spread_54 : decode c_M_spread 54 = .ok (.istore 4, 2) := by decide +kernel
theorem d_M_spread_56 : decode c_M_spread 56 = .ok (.iinc 5 1, 3) := by decide +kernel
theorem d_M_spread_59 : decode c_M_spread 59 = .ok (.goto (-34), 3) := by decide +kernel
theorem d_M_spread_62 : decode c_M_spread 62 = .ok (.iload 4, 2) := by decide +kernel
theorem d_M_spread_64 : decode c_M_spread 64 = .ok (.ireturn, 1) := by decide +kernel
theorem d_M_restOf_0 : decode c_M_restOf 0 = .ok (.aload_n 0, 1) := by decide +kernel
theorem d_M_restOf_1 : decode c_M_restOf 1 = .ok (.getfield 85, 3) := by decide +kernel
theorem d_M_restOf_4 : decode c_M_restOf 4 = .ok (.bipush 10, 2) := by decide +kernel
theorem d_M_restOf_6 : decode c_M_restOf 6 = .ok (.iload_n 1, 1) := by decide +kernel
theorem d_M_restOf_7 : decode c_M_restOf 7 = .ok (.imul, 1) := by decide +kernel
theorem d_M_restOf_8 : decode c_M_restOf 8 = .ok (.iload_n 2, 1) := by decide +kernel
theorem d_M_restOf_9 : decode c_M_restOf 9 = .ok (.iadd, 1) := by decide +kernel
theorem d_M_restOf_10 : decode c_M_restOf 10 = .ok (.iaload, 1) := by decide +kernel
theorem d_M_restOf_11 : decode c_M_restOf 11 = .ok (.ireturn, 1) := by decide +kernel
theorem d_M_hop_0 : decode c_M_hop 0 = .ok (.aload_n 0, 1) := by decide +kernel
theorem d_M_hop_1 : decode c_M_hop 1 = .ok (.getfield 36, 3) := by decide +kernel
theorem d_M_hop_4 : decode c_M_hop 4 = .ok (.bipush 16, 2) := by decide +kernel
theorem d_M_hop_6 : decode c_M_hop 6 = .ok (.aload_n 0, 1) := by decide +kernel
theorem d_M_hop_7 : decode c_M_hop 7 = .ok (.getfield 82, 3) := by decide +kernel
theorem d_M_hop_10 : decode c_M_hop 10 = .ok (.iload_n 1, 1) := by decide +kernel
theorem d_M_hop_11 : decode c_M_hop 11 = .ok (.iaload, 1) := by decide +kernel
theorem d_M_hop_12 : decode c_M_hop 12 = .ok (.imul, 1) := by decide +kernel
theorem d_M_hop_13 : decode c_M_hop 13 = .ok (.aload_n 0, 1) := by decide +kernel
theorem d_M_hop_14 : decode c_M_hop 14 = .ok (.getfield 82, 3) := by decide +kernel
theorem d_M_hop_17 : decode c_M_hop 17 = .ok (.iload_n 2, 1) := by decide +kernel
theorem d_M_hop_18 : decode c_M_hop 18 = .ok (.iaload, 1) := by decide +kernel
theorem d_M_hop_19 : decode c_M_hop 19 = .ok (.iadd, 1) := by decide +kernel
theorem d_M_hop_20 : decode c_M_hop 20 = .ok (.iaload, 1) := by decide +kernel
theorem d_M_hop_21 : decode c_M_hop 21 = .ok (.ireturn, 1) := by decide +kernel
theorem d_M_layRound_0 : decode c_M_layRound 0 = .ok (.aload_n 0, 1) := by decide +kernel
theorem d_M_layRound_1 : decode c_M_layRound 1 = .ok (.iconst 0, 1) := by decide +kernel
theorem d_M_layRound_2 : decode c_M_layRound 2 = .ok (.putfield 325, 3) := by decide +kernel
theorem d_M_layRound_5 : decode c_M_layRound 5 = .ok (.iconst 0, 1) := by decide +kernel
theorem d_M_layRound_6 : decode c_M_layRound 6 = .ok (.istore_n 1, 1) := by decide +kernel
theorem d_M_layRound_7 : decode c_M_layRound 7 = .ok (.iconst 0, 1) := by decide +kernel
theorem d_M_layRound_8 : decode c_M_layRound 8 = .ok (.istore_n 2, 1) := by decide +kernel
theorem d_M_layRound_9 : decode c_M_layRound 9 = .ok (.iload_n 2, 1) := by decide +kernel
theorem d_M_layRound_10 : decode c_M_layRound 10 = .ok (.aload_n 0, 1) := by decide +kernel
theorem d_M_layRound_11 : decode c_M_layRound 11 = .ok (.getfield 111, 3) := by decide +kernel
theorem d_M_layRound_14 : decode c_M_layRound 14 = .ok (.if_icmp .ge 64, 3) := by decide +kernel
theorem d_M_layRound_17 : decode c_M_layRound 17 = .ok (.iload_n 1, 1) := by decide +kernel
theorem d_M_layRound_18 : decode c_M_layRound 18 = .ok (.aload_n 0, 1) := by decide +kernel
theorem d_M_layRound_19 : decode c_M_layRound 19 = .ok (.getfield 30, 3) := by decide +kernel
theorem d_M_layRound_22 : decode c_M_layRound 22 = .ok (.iload_n 2, 1) := by decide +kernel
theorem d_M_layRound_23 : decode c_M_layRound 23 = .ok (.iaload, 1) := by decide +kernel
theorem d_M_layRound_24 : decode c_M_layRound 24 = .ok (.ifCond .le 7, 3) := by decide +kernel
theorem d_M_layRound_27 : decode c_M_layRound 27 = .ok (.iconst 1, 1) := by decide +kernel
theorem d_M_layRound_28 : decode c_M_layRound 28 = .ok (.goto 4, 3) := by decide +kernel
theorem d_M_layRound_31 : decode c_M_layRound 31 = .ok (.iconst 0, 1) := by decide +kernel
theorem d_M_layRound_32 : decode c_M_layRound 32 = .ok (.iadd, 1) := by decide +kernel
theorem d_M_layRound_33 : decode c_M_layRound 33 = .ok (.istore_n 1, 1) := by decide +kernel
theorem d_M_layRound_34 : decode c_M_layRound 34 = .ok (.aload_n 0, 1) := by decide +kernel
theorem d_M_layRound_35 : decode c_M_layRound 35 = .ok (.getfield 30, 3) := by decide +kernel
theorem d_M_layRound_38 : decode c_M_layRound 38 = .ok (.iload_n 2, 1) := by decide +kernel
theorem d_M_layRound_39 : decode c_M_layRound 39 = .ok (.iaload, 1) := by decide +kernel
theorem d_M_layRound_40 : decode c_M_layRound 40 = .ok (.ifCond .le 32, 3) := by decide +kernel
theorem d_M_layRound_43 : decode c_M_layRound 43 = .ok (.aload_n 0, 1) := by decide +kernel
theorem d_M_layRound_44 : decode c_M_layRound 44 = .ok (.getfield 325, 3) := by decide +kernel
theorem d_M_layRound_47 : decode c_M_layRound 47 = .ok (.bipush 10, 2) := by decide +kernel
theorem d_M_layRound_49 : decode c_M_layRound 49 = .ok (.if_icmp .ge 23, 3) := by decide +kernel
theorem d_M_layRound_52 : decode c_M_layRound 52 = .ok (.aload_n 0, 1) := by decide +kernel
theorem d_M_layRound_53 : decode c_M_layRound 53 = .ok (.getfield 82, 3) := by decide +kernel
theorem d_M_layRound_56 : decode c_M_layRound 56 = .ok (.aload_n 0, 1) := by decide +kernel
theorem d_M_layRound_57 : decode c_M_layRound 57 = .ok (.getfield 325, 3) := by decide +kernel
theorem d_M_layRound_60 : decode c_M_layRound 60 = .ok (.iload_n 2, 1) := by decide +kernel
theorem d_M_layRound_61 : decode c_M_layRound 61 = .ok (.iastore, 1) := by decide +kernel
theorem d_M_layRound_62 : decode c_M_layRound 62 = .ok (.aload_n 0, 1) := by decide +kernel
theorem d_M_layRound_63 : decode c_M_layRound 63 = .ok (.dup, 1) := by decide +kernel
theorem d_M_layRound_64 : decode c_M_layRound 64 = .ok (.getfield 325, 3) := by decide +kernel
theorem d_M_layRound_67 : decode c_M_layRound 67 = .ok (.iconst 1, 1) := by decide +kernel
theorem d_M_layRound_68 : decode c_M_layRound 68 = .ok (.iadd, 1) := by decide +kernel
theorem d_M_layRound_69 : decode c_M_layRound 69 = .ok (.putfield 325, 3) := by decide +kernel
theorem d_M_layRound_72 : decode c_M_layRound 72 = .ok (.iinc 2 1, 3) := by decide +kernel
theorem d_M_layRound_75 : decode c_M_layRound 75 = .ok (.goto (-66), 3) := by decide +kernel
theorem d_M_layRound_78 : decode c_M_layRound 78 = .ok (.iload_n 1, 1) := by decide +kernel
theorem d_M_layRound_79 : decode c_M_layRound 79 = .ok (.bipush 10, 2) := by decide +kernel
theorem d_M_layRound_81 : decode c_M_layRound 81 = .ok (.if_icmp .le 5, 3) := by decide +kernel
theorem d_M_layRound_84 : decode c_M_layRound 84 = .ok (.iconst 0, 1) := by decide +kernel
theorem d_M_layRound_85 : decode c_M_layRound 85 = .ok (.ireturn, 1) := by decide +kernel
theorem d_M_layRound_86 : decode c_M_layRound 86 = .ok (.aload_n 0, 1) := by decide +kernel
theorem d_M_layRound_87 : decode c_M_layRound 87 = .ok (.invokevirtual 159, 3) := by decide +kernel
theorem d_M_layRound_90 : decode c_M_layRound 90 = .ok (.iconst 0, 1) := by decide +kernel
theorem d_M_layRound_91 : decode c_M_layRound 91 = .ok (.istore_n 2, 1) := by decide +kernel
theorem d_M_layRound_92 : decode c_M_layRound 92 = .ok (.iload_n 2, 1) := by decide +kernel
theorem d_M_layRound_93 : decode c_M_layRound 93 = .ok (.iconst 1, 1) := by decide +kernel
theorem d_M_layRound_94 : decode c_M_layRound 94 = .ok (.aload_n 0, 1) := by decide +kernel
theorem d_M_layRound_95 : decode c_M_layRound 95 = .ok (.getfield 325, 3) := by decide +kernel
theorem d_M_layRound_98 : decode c_M_layRound 98 = .ok (.ishl, 1) := by decide +kernel
theorem d_M_layRound_99 : decode c_M_layRound 99 = .ok (.if_icmp .ge 135, 3) := by decide +kernel
theorem d_M_layRound_102 : decode c_M_layRound 102 = .ok (.iconst 0, 1) := by decide +kernel
theorem d_M_layRound_103 : decode c_M_layRound 103 = .ok (.istore_n 3, 1) := by decide +kernel
theorem d_M_layRound_104 : decode c_M_layRound 104 = .ok (.iload_n 3, 1) := by decide +kernel
theorem d_M_layRound_105 : decode c_M_layRound 105 = .ok (.aload_n 0, 1) := by decide +kernel
theorem d_M_layRound_106 : decode c_M_layRound 106 = .ok (.getfield 325, 3) := by decide +kernel
theorem d_M_layRound_109 : decode c_M_layRound 109 = .ok (.if_icmp .ge 119, 3) := by decide +kernel
theorem d_M_layRound_112 : decode c_M_layRound 112 = .ok (.iload_n 2, 1) := by decide +kernel
theorem d_M_layRound_113 : decode c_M_layRound 113 = .ok (.ifCond .ne 12, 3) := by decide +kernel
theorem d_M_layRound_116 : decode c_M_layRound 116 = .ok (.aload_n 0, 1) := by decide +kernel
theorem d_M_layRound_117 : decode c_M_layRound 117 = .ok (.iload_n 3, 1) := by decide +kernel
theorem d_M_layRound_118 : decode c_M_layRound 118 = .ok (.iconst 0, 1) := by decide +kernel
theorem d_M_layRound_119 : decode c_M_layRound 119 = .ok (.invokevirtual 328, 3) := by decide +kernel
theorem d_M_layRound_122 : decode c_M_layRound 122 = .ok (.goto 5, 3) := by decide +kernel
theorem d_M_layRound_125 : decode c_M_layRound 125 = .ok (.ldc 158, 2) := by decide +kernel
theorem d_M_layRound_127 : decode c_M_layRound 127 = .ok (.istore 4, 2) := by decide +kernel
theorem d_M_layRound_129 : decode c_M_layRound 129 = .ok (.iconst 0, 1) := by decide +kernel
theorem d_M_layRound_130 : decode c_M_layRound 130 = .ok (.istore 5, 2) := by decide +kernel
theorem d_M_layRound_132 : decode c_M_layRound 132 = .ok (.iload 5, 2) := by decide +kernel
theorem d_M_layRound_134 : decode c_M_layRound 134 = .ok (.aload_n 0, 1) := by decide +kernel
theorem d_M_layRound_135 : decode c_M_layRound 135 = .ok (.getfield 325, 3) := by decide +kernel
theorem d_M_layRound_138 : decode c_M_layRound 138 = .ok (.if_icmp .ge 59, 3) := by decide +kernel
theorem d_M_layRound_141 : decode c_M_layRound 141 = .ok (.iload_n 2, 1) := by decide +kernel
theorem d_M_layRound_142 : decode c_M_layRound 142 = .ok (.iload 5, 2) := by decide +kernel
theorem d_M_layRound_144 : decode c_M_layRound 144 = .ok (.ishr, 1) := by decide +kernel
theorem d_M_layRound_145 : decode c_M_layRound 145 = .ok (.iconst 1, 1) := by decide +kernel
theorem d_M_layRound_146 : decode c_M_layRound 146 = .ok (.iand, 1) := by decide +kernel
theorem d_M_layRound_147 : decode c_M_layRound 147 = .ok (.iconst 1, 1) := by decide +kernel
theorem d_M_layRound_148 : decode c_M_layRound 148 = .ok (.if_icmp .ne 43, 3) := by decide +kernel
theorem d_M_layRound_151 : decode c_M_layRound 151 = .ok (.aload_n 0, 1) := by decide +kernel
theorem d_M_layRound_152 : decode c_M_layRound 152 = .ok (.iload_n 3, 1) := by decide +kernel
theorem d_M_layRound_153 : decode c_M_layRound 153 = .ok (.iload 5, 2) := by decide +kernel
theorem d_M_layRound_155 : decode c_M_layRound 155 = .ok (.invokevirtual 328, 3) := by decide +kernel
theorem d_M_layRound_158 : decode c_M_layRound 158 = .ok (.aload_n 0, 1) := by decide +kernel
theorem d_M_layRound_159 : decode c_M_layRound 159 = .ok (.iload_n 2, 1) := by decide +kernel
theorem d_M_layRound_160 : decode c_M_layRound 160 = .ok (.iconst 1, 1) := by decide +kernel
theorem d_M_layRound_161 : decode c_M_layRound 161 = .ok (.iload 5, 2) := by decide +kernel
theorem d_M_layRound_163 : decode c_M_layRound 163 = .ok (.ishl, 1) := by decide +kernel
theorem d_M_layRound_164 : decode c_M_layRound 164 = .ok (.iconst (-1), 1) := by decide +kernel
theorem d_M_layRound_165 : decode c_M_layRound 165 = .ok (.ixor, 1) := by decide +kernel
theorem d_M_layRound_166 : decode c_M_layRound 166 = .ok (.iand, 1) := by decide +kernel
theorem d_M_layRound_167 : decode c_M_layRound 167 = .ok (.iload 5, 2) := by decide +kernel
theorem d_M_layRound_169 : decode c_M_layRound 169 = .ok (.invokevirtual 331, 3) := by decide +kernel
theorem d_M_layRound_172 : decode c_M_layRound 172 = .ok (.iadd, 1) := by decide +kernel
theorem d_M_layRound_173 : decode c_M_layRound 173 = .ok (.istore 6, 2) := by decide +kernel
theorem d_M_layRound_175 : decode c_M_layRound 175 = .ok (.iload 6, 2) := by decide +kernel
theorem d_M_layRound_177 : decode c_M_layRound 177 = .ok (.iload 4, 2) := by decide +kernel
theorem d_M_layRound_179 : decode c_M_layRound 179 = .ok (.if_icmp .ge 8, 3) := by decide +kernel
theorem d_M_layRound_182 : decode c_M_layRound 182 = .ok (.iload 6, 2) := by decide +kernel
theorem d_M_layRound_184 : decode c_M_layRound 184 = .ok (.goto 5, 3) := by decide +kernel
theorem d_M_layRound_187 : decode c_M_layRound 187 = .ok (.iload 4, 2) := by decide +kernel
theorem d_M_layRound_189 : decode c_M_layRound 189 = .ok (.istore 4, 2) := by decide +kernel
theorem d_M_layRound_191 : decode c_M_layRound 191 = .ok (.iinc 5 1, 3) := by decide +kernel
theorem d_M_layRound_194 : decode c_M_layRound 194 = .ok (.goto (-62), 3) := by decide +kernel
theorem d_M_layRound_197 : decode c_M_layRound 197 = .ok (.aload_n 0, 1) := by decide +kernel
theorem d_M_layRound_198 : decode c_M_layRound 198 = .ok (.getfield 85, 3) := by decide +kernel
theorem d_M_layRound_201 : decode c_M_layRound 201 = .ok (.bipush 10, 2) := by decide +kernel
theorem d_M_layRound_203 : decode c_M_layRound 203 = .ok (.iload_n 2, 1) := by decide +kernel
theorem d_M_layRound_204 : decode c_M_layRound 204 = .ok (.imul, 1) := by decide +kernel
theorem d_M_layRound_205 : decode c_M_layRound 205 = .ok (.iload_n 3, 1) := by decide +kernel
theorem d_M_layRound_206 : decode c_M_layRound 206 = .ok (.iadd, 1) := by decide +kernel
theorem d_M_layRound_207 : decode c_M_layRound 207 = .ok (.iload 4, 2) := by decide +kernel
theorem d_M_layRound_209 : decode c_M_layRound 209 = .ok (.ldc 158, 2) := by decide +kernel
theorem d_M_layRound_211 : decode c_M_layRound 211 = .ok (.if_icmp .le 8, 3) := by decide +kernel
theorem d_M_layRound_214 : decode c_M_layRound 214 = .ok (.ldc 158, 2) := by decide +kernel
theorem d_M_layRound_216 : decode c_M_layRound 216 = .ok (.goto 5, 3) := by decide +kernel
theorem d_M_layRound_219 : decode c_M_layRound 219 = .ok (.iload 4, 2) := by decide +kernel
theorem d_M_layRound_221 : decode c_M_layRound 221 = .ok (.iastore, 1) := by decide +kernel
theorem d_M_layRound_222 : decode c_M_layRound 222 = .ok (.iinc 3 1, 3) := by decide +kernel
theorem d_M_layRound_225 : decode c_M_layRound 225 = .ok (.goto (-121), 3) := by decide +kernel
theorem d_M_layRound_228 : decode c_M_layRound 228 = .ok (.iinc 2 1, 3) := by decide +kernel
theorem d_M_layRound_231 : decode c_M_layRound 231 = .ok (.goto (-139), 3) := by decide +kernel
theorem d_M_layRound_234 : decode c_M_layRound 234 = .ok (.iconst 1, 1) := by decide +kernel
theorem d_M_layRound_235 : decode c_M_layRound 235 = .ok (.ireturn, 1) := by decide +kernel
theorem d_M_roundLength_0 : decode c_M_roundLength 0 = .ok (.aload_n 0, 1) := by decide +kernel
theorem d_M_roundLength_1 : decode c_M_roundLength 1 = .ok (.getfield 325, 3) := by decide +kernel
theorem d_M_roundLength_4 : decode c_M_roundLength 4 = .ok (.iconst 2, 1) := by decide +kernel
theorem d_M_roundLength_5 : decode c_M_roundLength 5 = .ok (.if_icmp .ge 7, 3) := by decide +kernel
theorem d_M_roundLength_8 : decode c_M_roundLength 8 = .ok (.iconst 0, 1) := by decide +kernel
theorem d_M_roundLength_9 : decode c_M_roundLength 9 = .ok (.goto 16, 3) := by decide +kernel
theorem d_M_roundLength_12 : decode c_M_roundLength 12 = .ok (.aload_n 0, 1) := by decide +kernel
theorem d_M_roundLength_13 : decode c_M_roundLength 13 = .ok (.iconst 1, 1) := by decide +kernel
theorem d_M_roundLength_14 : decode c_M_roundLength 14 = .ok (.aload_n 0, 1) := by decide +kernel
theorem d_M_roundLength_15 : decode c_M_roundLength 15 = .ok (.getfield 325, 3) := by decide +kernel
theorem d_M_roundLength_18 : decode c_M_roundLength 18 = .ok (.ishl, 1) := by decide +kernel
theorem d_M_roundLength_19 : decode c_M_roundLength 19 = .ok (.iconst 2, 1) := by decide +kernel
theorem d_M_roundLength_20 : decode c_M_roundLength 20 = .ok (.isub, 1) := by decide +kernel
theorem d_M_roundLength_21 : decode c_M_roundLength 21 = .ok (.iconst 0, 1) := by decide +kernel
theorem d_M_roundLength_22 : decode c_M_roundLength 22 = .ok (.invokevirtual 331, 3) := by decide +kernel
theorem d_M_roundLength_25 : decode c_M_roundLength 25 = .ok (.ireturn, 1) := by decide +kernel
theorem d_M_round_0 : decode c_M_round 0 = .ok (.aload_n 0, 1) := by decide +kernel
theorem d_M_round_1 : decode c_M_round 1 = .ok (.invokevirtual 334, 3) := by decide +kernel
theorem d_M_round_4 : decode c_M_round 4 = .ok (.ifCond .ne 6, 3) := by decide +kernel
theorem d_M_round_7 : decode c_M_round 7 = .ok (.bipush (-4), 2) := by decide +kernel
theorem d_M_round_9 : decode c_M_round 9 = .ok (.ireturn, 1) := by decide +kernel
theorem d_M_round_10 : decode c_M_round 10 = .ok (.aload_n 0, 1) := by decide +kernel
theorem d_M_round_11 : decode c_M_round 11 = .ok (.invokevirtual 337, 3) := by decide +kernel
theorem d_M_round_14 : decode c_M_round 14 = .ok (.istore_n 1, 1) := by decide +kernel
theorem d_M_round_15 : decode c_M_round 15 = .ok (.iload_n 1, 1) := by decide +kernel
theorem d_M_round_16 : decode c_M_round 16 = .ok (.ldc 158, 2) := by decide +kernel
theorem d_M_round_18 : decode c_M_round 18 = .ok (.if_icmp .lt 8, 3) := by decide +kernel
theorem d_M_round_21 : decode c_M_round 21 = .ok (.bipush (-9), 2) := by decide +kernel
theorem d_M_round_23 : decode c_M_round 23 = .ok (.goto 4, 3) := by decide +kernel
theorem d_M_round_26 : decode c_M_round 26 = .ok (.iload_n 1, 1) := by decide +kernel
theorem d_M_round_27 : decode c_M_round 27 = .ok (.ireturn, 1) := by decide +kernel
theorem d_M_roundAt_0 : decode c_M_roundAt 0 = .ok (.aload_n 0, 1) := by decide +kernel
theorem d_M_roundAt_1 : decode c_M_roundAt 1 = .ok (.invokevirtual 334, 3) := by decide +kernel
theorem d_M_roundAt_4 : decode c_M_roundAt 4 = .ok (.ifCond .ne 6, 3) := by decide +kernel
theorem d_M_roundAt_7 : decode c_M_roundAt 7 = .ok (.bipush (-4), 2) := by decide +kernel
theorem d_M_roundAt_9 : decode c_M_roundAt 9 = .ok (.ireturn, 1) := by decide +kernel
theorem d_M_roundAt_10 : decode c_M_roundAt 10 = .ok (.iload_n 1, 1) := by decide +kernel
theorem d_M_roundAt_11 : decode c_M_roundAt 11 = .ok (.iconst 0, 1) := by decide +kernel
theorem d_M_roundAt_12 : decode c_M_roundAt 12 = .ok (.aload_n 0, 1) := by decide +kernel
theorem d_M_roundAt_13 : decode c_M_roundAt 13 = .ok (.getfield 325, 3) := by decide +kernel
theorem d_M_roundAt_16 : decode c_M_roundAt 16 = .ok (.iconst 1, 1) := by decide +kernel
theorem d_M_roundAt_17 : decode c_M_roundAt 17 = .ok (.isub, 1) := by decide +kernel
theorem d_M_roundAt_18 : decode c_M_roundAt 18 = .ok (.invokestatic 117, 3) := by decide +kernel
theorem d_M_roundAt_21 : decode c_M_roundAt 21 = .ok (.ifCond .eq 12, 3) := by decide +kernel
theorem d_M_roundAt_24 : decode c_M_roundAt 24 = .ok (.aload_n 0, 1) := by decide +kernel
theorem d_M_roundAt_25 : decode c_M_roundAt 25 = .ok (.invokevirtual 337, 3) := by decide +kernel
theorem d_M_roundAt_28 : decode c_M_roundAt 28 = .ok (.ldc 158, 2) := by decide +kernel
theorem d_M_roundAt_30 : decode c_M_roundAt 30 = .ok (.if_icmp .lt 6, 3) := by decide +kernel
theorem d_M_roundAt_33 : decode c_M_roundAt 33 = .ok (.bipush (-9), 2) := by decide +kernel
theorem d_M_roundAt_35 : decode c_M_roundAt 35 = .ok (.ireturn, 1) := by decide +kernel
theorem d_M_roundAt_36 : decode c_M_roundAt 36 = .ok (.iconst 1, 1) := by decide +kernel
theorem d_M_roundAt_37 : decode c_M_roundAt 37 = .ok (.aload_n 0, 1) := by decide +kernel
theorem d_M_roundAt_38 : decode c_M_roundAt 38 = .ok (.getfield 325, 3) := by decide +kernel
theorem d_M_roundAt_41 : decode c_M_roundAt 41 = .ok (.ishl, 1) := by decide +kernel
theorem d_M_roundAt_42 : decode c_M_roundAt 42 = .ok (.iconst 2, 1) := by decide +kernel
theorem d_M_roundAt_43 : decode c_M_roundAt 43 = .ok (.isub, 1) := by decide +kernel
theorem d_M_roundAt_44 : decode c_M_roundAt 44 = .ok (.istore_n 2, 1) := by decide +kernel
theorem d_M_roundAt_45 : decode c_M_roundAt 45 = .ok (.iconst 0, 1) := by decide +kernel
theorem d_M_roundAt_46 : decode c_M_roundAt 46 = .ok (.istore_n 3, 1) := by decide +kernel
theorem d_M_roundAt_47 : decode c_M_roundAt 47 = .ok (.iconst 0, 1) := by decide +kernel
theorem d_M_roundAt_48 : decode c_M_roundAt 48 = .ok (.istore 4, 2) := by decide +kernel
theorem d_M_roundAt_50 : decode c_M_roundAt 50 = .ok (.iload 4, 2) := by decide +kernel
theorem d_M_roundAt_52 : decode c_M_roundAt 52 = .ok (.iload_n 1, 1) := by decide +kernel
theorem d_M_roundAt_53 : decode c_M_roundAt 53 = .ok (.if_icmp .ge 70, 3) := by decide +kernel
theorem d_M_roundAt_56 : decode c_M_roundAt 56 = .ok (.iconst 0, 1) := by decide +kernel
theorem d_M_roundAt_57 : decode c_M_roundAt 57 = .ok (.istore 5, 2) := by decide +kernel
theorem d_M_roundAt_59 : decode c_M_roundAt 59 = .ok (.iload_n 2, 1) := by decide +kernel
theorem d_M_roundAt_60 : decode c_M_roundAt 60 = .ok (.iload 5, 2) := by decide +kernel
theorem d_M_roundAt_62 : decode c_M_roundAt 62 = .ok (.ishr, 1) := by decide +kernel
theorem d_M_roundAt_63 : decode c_M_roundAt 63 = .ok (.iconst 1, 1) := by decide +kernel
theorem d_M_roundAt_64 : decode c_M_roundAt 64 = .ok (.iand, 1) := by decide +kernel
theorem d_M_roundAt_65 : decode c_M_roundAt 65 = .ok (.ifCond .eq 34, 3) := by decide +kernel
theorem d_M_roundAt_68 : decode c_M_roundAt 68 = .ok (.aload_n 0, 1) := by decide +kernel
theorem d_M_roundAt_69 : decode c_M_roundAt 69 = .ok (.iload_n 3, 1) := by decide +kernel
theorem d_M_roundAt_70 : decode c_M_roundAt 70 = .ok (.iload 5, 2) := by decide +kernel
theorem d_M_roundAt_72 : decode c_M_roundAt 72 = .ok (.invokevirtual 328, 3) := by decide +kernel
theorem d_M_roundAt_75 : decode c_M_roundAt 75 = .ok (.aload_n 0, 1) := by decide +kernel
theorem d_M_roundAt_76 : decode c_M_roundAt 76 = .ok (.iload_n 2, 1) := by decide +kernel
theorem d_M_roundAt_77 : decode c_M_roundAt 77 = .ok (.iconst 1, 1) := by decide +kernel
theorem d_M_roundAt_78 : decode c_M_roundAt 78 = .ok (.iload 5, 2) := by decide +kernel
theorem d_M_roundAt_80 : decode c_M_roundAt 80 = .ok (.ishl, 1) := by decide +kernel
theorem d_M_roundAt_81 : decode c_M_roundAt 81 = .ok (.iconst (-1), 1) := by decide +kernel
theorem d_M_roundAt_82 : decode c_M_roundAt 82 = .ok (.ixor, 1) := by decide +kernel
theorem d_M_roundAt_83 : decode c_M_roundAt 83 = .ok (.iand, 1) := by decide +kernel
theorem d_M_roundAt_84 : decode c_M_roundAt 84 = .ok (.iload 5, 2) := by decide +kernel
theorem d_M_roundAt_86 : decode c_M_roundAt 86 = .ok (.invokevirtual 331, 3) := by decide +kernel
theorem d_M_roundAt_89 : decode c_M_roundAt 89 = .ok (.iadd, 1) := by decide +kernel
theorem d_M_roundAt_90 : decode c_M_roundAt 90 = .ok (.aload_n 0, 1) := by decide +kernel
theorem d_M_roundAt_91 : decode c_M_roundAt 91 = .ok (.iload_n 2, 1) := by decide +kernel
theorem d_M_roundAt_92 : decode c_M_roundAt 92 = .ok (.iload_n 3, 1) := by decide +kernel
theorem d_M_roundAt_93 : decode c_M_roundAt 93 = .ok (.invokevirtual 331, 3) := by decide +kernel
theorem d_M_roundAt_96 : decode c_M_roundAt 96 = .ok (.if_icmp .eq 9, 3) := by decide +kernel
theorem d_M_roundAt_99 : decode c_M_roundAt 99 = .ok (.iinc 5 1, 3) := by decide +kernel
theorem d_M_roundAt_102 : decode c_M_roundAt 102 = .ok (.goto (-43), 3) := by decide +kernel
theorem d_M_roundAt_105 : decode c_M_roundAt 105 = .ok (.iload_n 2, 1) := by decide +kernel
theorem d_M_roundAt_106 : decode c_M_roundAt 106 = .ok (.iconst 1, 1) := by decide +kernel
theorem d_M_roundAt_107 : decode c_M_roundAt 107 = .ok (.iload 5, 2) := by decide +kernel
theorem d_M_roundAt_109 : decode c_M_roundAt 109 = .ok (.ishl, 1) := by decide +kernel
theorem d_M_roundAt_110 : decode c_M_roundAt 110 = .ok (.iconst (-1), 1) := by decide +kernel
theorem d_M_roundAt_111 : decode c_M_roundAt 111 = .ok (.ixor, 1) := by decide +kernel
theorem d_M_roundAt_112 : decode c_M_roundAt 112 = .ok (.iand, 1) := by decide +kernel
theorem d_M_roundAt_113 : decode c_M_roundAt 113 = .ok (.istore_n 2, 1) := by decide +kernel
theorem d_M_roundAt_114 : decode c_M_roundAt 114 = .ok (.iload 5, 2) := by decide +kernel
theorem d_M_roundAt_116 : decode c_M_roundAt 116 = .ok (.istore_n 3, 1) := by decide +kernel
theorem d_M_roundAt_117 : decode c_M_roundAt 117 = .ok (.iinc 4 1, 3) := by decide +kernel
theorem d_M_roundAt_120 : decode c_M_roundAt 120 = .ok (.goto (-70), 3) := by decide +kernel
theorem d_M_roundAt_123 : decode c_M_roundAt 123 = .ok (.aload_n 0, 1) := by decide +kernel
theorem d_M_roundAt_124 : decode c_M_roundAt 124 = .ok (.getfield 82, 3) := by decide +kernel
theorem d_M_roundAt_127 : decode c_M_roundAt 127 = .ok (.iload_n 3, 1) := by decide +kernel
theorem d_M_roundAt_128 : decode c_M_roundAt 128 = .ok (.iaload, 1) := by decide +kernel
theorem d_M_roundAt_129 : decode c_M_roundAt 129 = .ok (.ireturn, 1) := by decide +kernel
theorem d_M_part_0 : decode c_M_part 0 = .ok (.aload_n 0, 1) := by decide +kernel
theorem d_M_part_1 : decode c_M_part 1 = .ok (.getfield 341, 3) := by decide +kernel
theorem d_M_part_4 : decode c_M_part 4 = .ok (.bipush (-9), 2) := by decide +kernel
theorem d_M_part_6 : decode c_M_part 6 = .ok (.if_icmp .eq 13, 3) := by decide +kernel
theorem d_M_part_9 : decode c_M_part 9 = .ok (.iload 5, 2) := by decide +kernel
theorem d_M_part_11 : decode c_M_part 11 = .ok (.aload_n 0, 1) := by decide +kernel
theorem d_M_part_12 : decode c_M_part 12 = .ok (.getfield 341, 3) := by decide +kernel
theorem d_M_part_15 : decode c_M_part 15 = .ok (.if_icmp .lt 4, 3) := by decide +kernel
theorem d_M_part_18 : decode c_M_part 18 = .ok (.return_, 1) := by decide +kernel
theorem d_M_part_19 : decode c_M_part 19 = .ok (.iload_n 1, 1) := by decide +kernel
theorem d_M_part_20 : decode c_M_part 20 = .ok (.aload_n 0, 1) := by decide +kernel
theorem d_M_part_21 : decode c_M_part 21 = .ok (.getfield 111, 3) := by decide +kernel
theorem d_M_part_24 : decode c_M_part 24 = .ok (.if_icmp .ne 42, 3) := by decide +kernel
theorem d_M_part_27 : decode c_M_part 27 = .ok (.aload_n 0, 1) := by decide +kernel
theorem d_M_part_28 : decode c_M_part 28 = .ok (.iload 5, 2) := by decide +kernel
theorem d_M_part_30 : decode c_M_part 30 = .ok (.putfield 341, 3) := by decide +kernel
theorem d_M_part_33 : decode c_M_part 33 = .ok (.iconst 0, 1) := by decide +kernel
theorem d_M_part_34 : decode c_M_part 34 = .ok (.istore 6, 2) := by decide +kernel
theorem d_M_part_36 : decode c_M_part 36 = .ok (.iload 6, 2) := by decide +kernel
theorem d_M_part_38 : decode c_M_part 38 = .ok (.aload_n 0, 1) := by decide +kernel
theorem d_M_part_39 : decode c_M_part 39 = .ok (.getfield 111, 3) := by decide +kernel
theorem d_M_part_42 : decode c_M_part 42 = .ok (.if_icmp .ge 23, 3) := by decide +kernel
theorem d_M_part_45 : decode c_M_part 45 = .ok (.aload_n 0, 1) := by decide +kernel
theorem d_M_part_46 : decode c_M_part 46 = .ok (.getfield 94, 3) := by decide +kernel
theorem d_M_part_49 : decode c_M_part 49 = .ok (.iload 6, 2) := by decide +kernel
theorem d_M_part_51 : decode c_M_part 51 = .ok (.aload_n 0, 1) := by decide +kernel
theorem d_M_part_52 : decode c_M_part 52 = .ok (.getfield 91, 3) := by decide +kernel
theorem d_M_part_55 : decode c_M_part 55 = .ok (.iload 6, 2) := by decide +kernel
theorem d_M_part_57 : decode c_M_part 57 = .ok (.iaload, 1) := by decide +kernel
theorem d_M_part_58 : decode c_M_part 58 = .ok (.iastore, 1) := by decide +kernel
theorem d_M_part_59 : decode c_M_part 59 = .ok (.iinc 6 1, 3) := by decide +kernel
theorem d_M_part_62 : decode c_M_part 62 = .ok (.goto (-26), 3) := by decide +kernel
theorem d_M_part_65 : decode c_M_part 65 = .ok (.return_, 1) := by decide +kernel
theorem d_M_part_66 : decode c_M_part 66 = .ok (.iconst 0, 1) := by decide +kernel
theorem d_M_part_67 : decode c_M_part 67 = .ok (.istore 6, 2) := by decide +kernel
theorem d_M_part_69 : decode c_M_part 69 = .ok (.iload 6, 2) := by decide +kernel
theorem d_M_part_71 : decode c_M_part 71 = .ok (.aload_n 0, 1) := by decide +kernel
theorem d_M_part_72 : decode c_M_part 72 = .ok (.getfield 344, 3) := by decide +kernel
theorem d_M_part_75 : decode c_M_part 75 = .ok (.if_icmp .ge 156, 3) := by decide +kernel
theorem d_M_part_78 : decode c_M_part 78 = .ok (.iload 6, 2) := by decide +kernel
theorem d_M_part_80 : decode c_M_part 80 = .ok (.iload_n 2, 1) := by decide +kernel
theorem d_M_part_81 : decode c_M_part 81 = .ok (.if_icmp .ne 27, 3) := by decide +kernel
theorem d_M_part_84 : decode c_M_part 84 = .ok (.iload_n 1, 1) := by decide +kernel
theorem d_M_part_85 : decode c_M_part 85 = .ok (.ifCond .le 23, 3) := by decide +kernel
theorem d_M_part_88 : decode c_M_part 88 = .ok (.aload_n 0, 1) := by decide +kernel
theorem d_M_part_89 : decode c_M_part 89 = .ok (.getfield 26, 3) := by decide +kernel
theorem d_M_part_92 : decode c_M_part 92 = .ok (.bipush 16, 2) := by decide +kernel
theorem d_M_part_94 : decode c_M_part 94 = .ok (.iload_n 1, 1) := by decide +kernel
theorem d_M_part_95 : decode c_M_part 95 = .ok (.iconst 1, 1) := by decide +kernel
theorem d_M_part_96 : decode c_M_part 96 = .ok (.isub, 1) := by decide +kernel
theorem d_M_part_97 : decode c_M_part 97 = .ok (.imul, 1) := by decide +kernel
theorem d_M_part_98 : decode c_M_part 98 = .ok (.iload_n 1, 1) := by decide +kernel
theorem d_M_part_99 : decode c_M_part 99 = .ok (.iadd, 1) := by decide +kernel
theorem d_M_part_100 : decode c_M_part 100 = .ok (.baload, 1) := by decide +kernel
theorem d_M_part_101 : decode c_M_part 101 = .ok (.ifCond .ne 7, 3) := by decide +kernel
theorem d_M_part_104 : decode c_M_part 104 = .ok (.iconst 1, 1) := by decide +kernel
theorem d_M_part_105 : decode c_M_part 105 = .ok (.goto 4, 3) := by decide +kernel
theorem d_M_part_108 : decode c_M_part 108 = .ok (.iconst 0, 1) := by decide +kernel
theorem d_M_part_109 : decode c_M_part 109 = .ok (.istore 7, 2) := by decide +kernel
theorem d_M_part_111 : decode c_M_part 111 = .ok (.iload 4, 2) := by decide +kernel
theorem d_M_part_113 : decode c_M_part 113 = .ok (.iload 6, 2) := by decide +kernel
theorem d_M_part_115 : decode c_M_part 115 = .ok (.ishr, 1) := by decide +kernel
theorem d_M_part_116 : decode c_M_part 116 = .ok (.iconst 1, 1) := by decide +kernel
theorem d_M_part_117 : decode c_M_part 117 = .ok (.iand, 1) := by decide +kernel
theorem d_M_part_118 : decode c_M_part 118 = .ok (.iconst 1, 1) := by decide +kernel
theorem d_M_part_119 : decode c_M_part 119 = .ok (.if_icmp .ne 7, 3) := by decide +kernel
theorem d_M_part_122 : decode c_M_part 122 = .ok (.iconst 1, 1) := by decide +kernel
theorem d_M_part_123 : decode c_M_part 123 = .ok (.goto 4, 3) := by decide +kernel
theorem d_M_part_126 : decode c_M_part 126 = .ok (.iconst 0, 1) := by decide +kernel
theorem d_M_part_127 : decode c_M_part 127 = .ok (.istore 8, 2) := by decide +kernel
theorem d_M_part_129 : decode c_M_part 129 = .ok (.iload 7, 2) := by decide +kernel
theorem d_M_part_131 : decode c_M_part 131 = .ok (.ifCond .ne 8, 3) := by decide +kernel
theorem d_M_part_134 : decode c_M_part 134 = .ok (.iload 8, 2) := by decide +kernel
theorem d_M_part_136 : decode c_M_part 136 = .ok (.ifCond .eq 89, 3) := by decide +kernel
theorem d_M_part_139 : decode c_M_part 139 = .ok (.iload 7, 2) := by decide +kernel
theorem d_M_part_141 : decode c_M_part 141 = .ok (.ifCond .eq 21, 3) := by decide +kernel
theorem d_M_part_144 : decode c_M_part 144 = .ok (.iload_n 3, 1) := by decide +kernel
theorem d_M_part_145 : decode c_M_part 145 = .ok (.aload_n 0, 1) := by decide +kernel
theorem d_M_part_146 : decode c_M_part 146 = .ok (.getfield 23, 3) := by decide +kernel
theorem d_M_part_149 : decode c_M_part 149 = .ok (.bipush 16, 2) := by decide +kernel
theorem d_M_part_151 : decode c_M_part 151 = .ok (.iload_n 1, 1) := by decide +kernel
theorem d_M_part_152 : decode c_M_part 152 = .ok (.iconst 1, 1) := by decide +kernel
theorem d_M_part_153 : decode c_M_part 153 = .ok (.isub, 1) := by decide +kernel
theorem d_M_part_154 : decode c_M_part 154 = .ok (.imul, 1) := by decide +kernel
theorem d_M_part_155 : decode c_M_part 155 = .ok (.iload_n 1, 1) := by decide +kernel
theorem d_M_part_156 : decode c_M_part 156 = .ok (.iadd, 1) := by decide +kernel
theorem d_M_part_157 : decode c_M_part 157 = .ok (.iaload, 1) := by decide +kernel
theorem d_M_part_158 : decode c_M_part 158 = .ok (.iadd, 1) := by decide +kernel
theorem d_M_part_159 : decode c_M_part 159 = .ok (.goto 4, 3) := by decide +kernel
theorem d_M_part_162 : decode c_M_part 162 = .ok (.iconst 0, 1) := by decide +kernel
theorem d_M_part_163 : decode c_M_part 163 = .ok (.istore 9, 2) := by decide +kernel
theorem d_M_part_165 : decode c_M_part 165 = .ok (.iconst 2, 1) := by decide +kernel
theorem d_M_part_166 : decode c_M_part 166 = .ok (.iload 9, 2) := by decide +kernel
theorem d_M_part_168 : decode c_M_part 168 = .ok (.imul, 1) := by decide +kernel
theorem d_M_part_169 : decode c_M_part 169 = .ok (.aload_n 0, 1) := by decide +kernel
theorem d_M_part_170 : decode c_M_part 170 = .ok (.aload_n 0, 1) := by decide +kernel
theorem d_M_part_171 : decode c_M_part 171 = .ok (.getfield 88, 3) := by decide +kernel
theorem d_M_part_174 : decode c_M_part 174 = .ok (.iload 6, 2) := by decide +kernel
theorem d_M_part_176 : decode c_M_part 176 = .ok (.iaload, 1) := by decide +kernel
theorem d_M_part_177 : decode c_M_part 177 = .ok (.invokevirtual 190, 3) := by decide +kernel
theorem d_M_part_180 : decode c_M_part 180 = .ok (.imul, 1) := by decide +kernel
theorem d_M_part_181 : decode c_M_part 181 = .ok (.istore 10, 2) := by decide +kernel
theorem d_M_part_183 : decode c_M_part 183 = .ok (.aload_n 0, 1) := by decide +kernel
theorem d_M_part_184 : decode c_M_part 184 = .ok (.getfield 91, 3) := by decide +kernel
theorem d_M_part_187 : decode c_M_part 187 = .ok (.iload_n 1, 1) := by decide +kernel
theorem d_M_part_188 : decode c_M_part 188 = .ok (.iload 6, 2) := by decide +kernel
theorem d_M_part_190 : decode c_M_part 190 = .ok (.iastore, 1) := by decide +kernel
theorem d_M_part_191 : decode c_M_part 191 = .ok (.aload_n 0, 1) := by decide +kernel
theorem d_M_part_192 : decode c_M_part 192 = .ok (.iload_n 1, 1) := by decide +kernel
theorem d_M_part_193 : decode c_M_part 193 = .ok (.iconst 1, 1) := by decide +kernel
theorem d_M_part_194 : decode c_M_part 194 = .ok (.iadd, 1) := by decide +kernel
theorem d_M_part_195 : decode c_M_part 195 = .ok (.iload 6, 2) := by decide +kernel
theorem d_M_part_197 : decode c_M_part 197 = .ok (.iload 9, 2) := by decide +kernel
theorem d_M_part_199 : decode c_M_part 199 = .ok (.iload 4, 2) := by decide +kernel
theorem d_M_part_201 : decode c_M_part 201 = .ok (.iconst 1, 1) := by decide +kernel
theorem d_M_part_202 : decode c_M_part 202 = .ok (.iload 6, 2) := by decide +kernel
theorem d_M_part_204 : decode c_M_part 204 = .ok (.ishl, 1) := by decide +kernel
theorem d_M_part_205 : decode c_M_part 205 = .ok (.iconst (-1), 1) := by decide +kernel
theorem d_M_part_206 : decode c_M_part 206 = .ok (.ixor, 1) := by decide +kernel
theorem d_M_part_207 : decode c_M_part 207 = .ok (.iand, 1) := by decide +kernel
theorem d_M_part_208 : decode c_M_part 208 = .ok (.iload 10, 2) := by decide +kernel
theorem d_M_part_210 : decode c_M_part 210 = .ok (.iload 5, 2) := by decide +kernel
theorem d_M_part_212 : decode c_M_part 212 = .ok (.if_icmp .le 8, 3) := by decide +kernel
theorem d_M_part_215 : decode c_M_part 215 = .ok (.iload 10, 2) := by decide +kernel
theorem d_M_part_217 : decode c_M_part 217 = .ok (.goto 5, 3) := by decide +kernel
theorem d_M_part_220 : decode c_M_part 220 = .ok (.iload 5, 2) := by decide +kernel
theorem d_M_part_222 : decode c_M_part 222 = .ok (.invokevirtual 347, 3) := by decide +kernel
theorem d_M_part_225 : decode c_M_part 225 = .ok (.iinc 6 1, 3) := by decide +kernel
theorem d_M_part_228 : decode c_M_part 228 = .ok (.goto (-159), 3) := by decide +kernel
theorem d_M_part_231 : decode c_M_part 231 = .ok (.return_, 1) := by decide +kernel
theorem d_M_parting_0 : decode c_M_parting 0 = .ok (.aload_n 0, 1) := by decide +kernel
theorem d_M_parting_1 : decode c_M_parting 1 = .ok (.getfield 107, 3) := by decide +kernel
theorem d_M_parting_4 : decode c_M_parting 4 = .ok (.ifCond .eq 9, 3) := by decide +kernel
theorem d_M_parting_7 : decode c_M_parting 7 = .ok (.aload_n 0, 1) := by decide +kernel
theorem d_M_parting_8 : decode c_M_parting 8 = .ok (.iconst 3, 1) := by decide +kernel
theorem d_M_parting_9 : decode c_M_parting 9 = .ok (.invokevirtual 135, 3) := by decide +kernel
theorem d_M_parting_12 : decode c_M_parting 12 = .ok (.ireturn, 1) := by decide +kernel
theorem d_M_parting_13 : decode c_M_parting 13 = .ok (.aload_n 0, 1) := by decide +kernel
theorem d_M_parting_14 : decode c_M_parting 14 = .ok (.iconst 0, 1) := by decide +kernel
theorem d_M_parting_15 : decode c_M_parting 15 = .ok (.putfield 344, 3) := by decide +kernel
theorem d_M_parting_18 : decode c_M_parting 18 = .ok (.iconst 0, 1) := by decide +kernel
theorem d_M_parting_19 : decode c_M_parting 19 = .ok (.istore_n 1, 1) := by decide +kernel
theorem d_M_parting_20 : decode c_M_parting 20 = .ok (.iload_n 1, 1) := by decide +kernel
theorem d_M_parting_21 : decode c_M_parting 21 = .ok (.aload_n 0, 1) := by decide +kernel
theorem d_M_parting_22 : decode c_M_parting 22 = .ok (.getfield 162, 3) := by decide +kernel
theorem d_M_parting_25 : decode c_M_parting 25 = .ok (.if_icmp .ge 65, 3) := by decide +kernel
theorem d_M_parting_28 : decode c_M_parting 28 = .ok (.aload_n 0, 1) := by decide +kernel
theorem d_M_parting_29 : decode c_M_parting 29 = .ok (.getfield 57, 3) := by decide +kernel
theorem d_M_parting_32 : decode c_M_parting 32 = .ok (.iload_n 1, 1) := by decide +kernel
theorem d_M_parting_33 : decode c_M_parting 33 = .ok (.baload, 1) := by decide +kernel
theorem d_M_parting_34 : decode c_M_parting 34 = .ok (.ifCond .ne 50, 3) := by decide +kernel
theorem d_M_parting_37 : decode c_M_parting 37 = .ok (.aload_n 0, 1) := by decide +kernel
theorem d_M_parting_38 : decode c_M_parting 38 = .ok (.getfield 54, 3) := by decide +kernel
theorem d_M_parting_41 : decode c_M_parting 41 = .ok (.iload_n 1, 1) := by decide +kernel
theorem d_M_parting_42 : decode c_M_parting 42 = .ok (.baload, 1) := by decide +kernel
theorem d_M_parting_43 : decode c_M_parting 43 = .ok (.ifCond .ne 41, 3) := by decide +kernel
theorem d_M_parting_46 : decode c_M_parting 46 = .ok (.aload_n 0, 1) := by decide +kernel
theorem d_M_parting_47 : decode c_M_parting 47 = .ok (.getfield 39, 3) := by decide +kernel
theorem d_M_parting_50 : decode c_M_parting 50 = .ok (.iload_n 1, 1) := by decide +kernel
theorem d_M_parting_51 : decode c_M_parting 51 = .ok (.iaload, 1) := by decide +kernel
theorem d_M_parting_52 : decode c_M_parting 52 = .ok (.iconst 3, 1) := by decide +kernel
theorem d_M_parting_53 : decode c_M_parting 53 = .ok (.if_icmp .eq 31, 3) := by decide +kernel
theorem d_M_parting_56 : decode c_M_parting 56 = .ok (.aload_n 0, 1) := by decide +kernel
theorem d_M_parting_57 : decode c_M_parting 57 = .ok (.getfield 344, 3) := by decide +kernel
theorem d_M_parting_60 : decode c_M_parting 60 = .ok (.iconst 5, 1) := by decide +kernel
theorem d_M_parting_61 : decode c_M_parting 61 = .ok (.if_icmp .ge 23, 3) := by decide +kernel
theorem d_M_parting_64 : decode c_M_parting 64 = .ok (.aload_n 0, 1) := by decide +kernel
theorem d_M_parting_65 : decode c_M_parting 65 = .ok (.getfield 88, 3) := by decide +kernel
theorem d_M_parting_68 : decode c_M_parting 68 = .ok (.aload_n 0, 1) := by decide +kernel
theorem d_M_parting_69 : decode c_M_parting 69 = .ok (.getfield 344, 3) := by decide +kernel
theorem d_M_parting_72 : decode c_M_parting 72 = .ok (.iload_n 1, 1) := by decide +kernel
theorem d_M_parting_73 : decode c_M_parting 73 = .ok (.iastore, 1) := by decide +kernel
theorem d_M_parting_74 : decode c_M_parting 74 = .ok (.aload_n 0, 1) := by decide +kernel
theorem d_M_parting_75 : decode c_M_parting 75 = .ok (.dup, 1) := by decide +kernel
theorem d_M_parting_76 : decode c_M_parting 76 = .ok (.getfield 344, 3) := by decide +kernel
theorem d_M_parting_79 : decode c_M_parting 79 = .ok (.iconst 1, 1) := by decide +kernel
theorem d_M_parting_80 : decode c_M_parting 80 = .ok (.iadd, 1) := by decide +kernel
theorem d_M_parting_81 : decode c_M_parting 81 = .ok (.putfield 344, 3) := by decide +kernel
theorem d_M_parting_84 : decode c_M_parting 84 = .ok (.iinc 1 1, 3) := by decide +kernel
theorem d_M_parting_87 : decode c_M_parting 87 = .ok (.goto (-67), 3) := by decide +kernel
theorem d_M_parting_90 : decode c_M_parting 90 = .ok (.aload_n 0, 1) := by decide +kernel
theorem d_M_parting_91 : decode c_M_parting 91 = .ok (.getfield 344, 3) := by decide +kernel
theorem d_M_parting_94 : decode c_M_parting 94 = .ok (.ifCond .ne 6, 3) := by decide +kernel
theorem d_M_parting_97 : decode c_M_parting 97 = .ok (.bipush (-4), 2) := by decide +kernel
theorem d_M_parting_99 : decode c_M_parting 99 = .ok (.ireturn, 1) := by decide +kernel
theorem d_M_parting_100 : decode c_M_parting 100 = .ok (.aload_n 0, 1) := by decide +kernel
theorem d_M_parting_101 : decode c_M_parting 101 = .ok (.bipush (-9), 2) := by decide +kernel
theorem d_M_parting_103 : decode c_M_parting 103 = .ok (.putfield 341, 3) := by decide +kernel
theorem d_M_parting_106 : decode c_M_parting 106 = .ok (.aload_n 0, 1) := by decide +kernel
theorem d_M_parting_107 : decode c_M_parting 107 = .ok (.iconst 0, 1) := by decide +kernel
theorem d_M_parting_108 : decode c_M_parting 108 = .ok (.bipush (-9), 2) := by decide +kernel
theorem d_M_parting_110 : decode c_M_parting 110 = .ok (.iconst 0, 1) := by decide +kernel
theorem d_M_parting_111 : decode c_M_parting 111 = .ok (.iconst 1, 1) := by decide +kernel
theorem d_M_parting_112 : decode c_M_parting 112 = .ok (.aload_n 0, 1) := by decide +kernel
theorem d_M_parting_113 : decode c_M_parting 113 = .ok (.getfield 344, 3) := by decide +kernel
theorem d_M_parting_116 : decode c_M_parting 116 = .ok (.ishl, 1) := by decide +kernel
theorem d_M_parting_117 : decode c_M_parting 117 = .ok (.iconst 1, 1) := by decide +kernel
theorem d_M_parting_118 : decode c_M_parting 118 = .ok (.isub, 1) := by decide +kernel
theorem d_M_parting_119 : decode c_M_parting 119 = .ok (.iconst 0, 1) := by decide +kernel
theorem d_M_parting_120 : decode c_M_parting 120 = .ok (.invokevirtual 347, 3) := by decide +kernel
theorem d_M_parting_123 : decode c_M_parting 123 = .ok (.aload_n 0, 1) := by decide +kernel
theorem d_M_parting_124 : decode c_M_parting 124 = .ok (.getfield 341, 3) := by decide +kernel
theorem d_M_parting_127 : decode c_M_parting 127 = .ok (.bipush (-9), 2) := by decide +kernel
theorem d_M_parting_129 : decode c_M_parting 129 = .ok (.if_icmp .ne 6, 3) := by decide +kernel
theorem d_M_parting_132 : decode c_M_parting 132 = .ok (.bipush (-4), 2) := by decide +kernel
theorem d_M_parting_134 : decode c_M_parting 134 = .ok (.ireturn, 1) := by decide +kernel
theorem d_M_parting_135 : decode c_M_parting 135 = .ok (.iconst 0, 1) := by decide +kernel
theorem d_M_parting_136 : decode c_M_parting 136 = .ok (.istore_n 1, 1) := by decide +kernel
theorem d_M_parting_137 : decode c_M_parting 137 = .ok (.iload_n 1, 1) := by decide +kernel
theorem d_M_parting_138 : decode c_M_parting 138 = .ok (.bipush 8, 2) := by decide +kernel
theorem d_M_parting_140 : decode c_M_parting 140 = .ok (.if_icmp .ge 25, 3) := by decide +kernel
theorem d_M_parting_143 : decode c_M_parting 143 = .ok (.aload_n 0, 1) := by decide +kernel
theorem d_M_parting_144 : decode c_M_parting 144 = .ok (.getfield 97, 3) := by decide +kernel
theorem d_M_parting_147 : decode c_M_parting 147 = .ok (.iload_n 1, 1) := by decide +kernel
theorem d_M_parting_148 : decode c_M_parting 148 = .ok (.bipush (-9), 2) := by decide +kernel
theorem d_M_parting_150 : decode c_M_parting 150 = .ok (.iastore, 1) := by decide +kernel
theorem d_M_parting_151 : decode c_M_parting 151 = .ok (.aload_n 0, 1) := by decide +kernel
theorem d_M_parting_152 : decode c_M_parting 152 = .ok (.getfield 100, 3) := by decide +kernel
theorem d_M_parting_155 : decode c_M_parting 155 = .ok (.iload_n 1, 1) := by decide +kernel
theorem d_M_parting_156 : decode c_M_parting 156 = .ok (.bipush (-9), 2) := by decide +kernel
theorem d_M_parting_158 : decode c_M_parting 158 = .ok (.iastore, 1) := by decide +kernel
theorem d_M_parting_159 : decode c_M_parting 159 = .ok (.iinc 1 1, 3) := by decide +kernel
theorem d_M_parting_162 : decode c_M_parting 162 = .ok (.goto (-25), 3) := by decide +kernel
theorem d_M_parting_165 : decode c_M_parting 165 = .ok (.iconst 0, 1) := by decide +kernel
theorem d_M_parting_166 : decode c_M_parting 166 = .ok (.istore_n 1, 1) := by decide +kernel
theorem d_M_parting_167 : decode c_M_parting 167 = .ok (.iload_n 1, 1) := by decide +kernel
theorem d_M_parting_168 : decode c_M_parting 168 = .ok (.aload_n 0, 1) := by decide +kernel
theorem d_M_parting_169 : decode c_M_parting 169 = .ok (.getfield 111, 3) := by decide +kernel
theorem d_M_parting_172 : decode c_M_parting 172 = .ok (.if_icmp .ge 55, 3) := by decide +kernel
theorem d_M_parting_175 : decode c_M_parting 175 = .ok (.aload_n 0, 1) := by decide +kernel
theorem d_M_parting_176 : decode c_M_parting 176 = .ok (.getfield 88, 3) := by decide +kernel
theorem d_M_parting_179 : decode c_M_parting 179 = .ok (.aload_n 0, 1) := by decide +kernel
theorem d_M_parting_180 : decode c_M_parting 180 = .ok (.getfield 94, 3) := by decide +kernel
theorem d_M_parting_183 : decode c_M_parting 183 = .ok (.iload_n 1, 1) := by decide +kernel
theorem d_M_parting_184 : decode c_M_parting 184 = .ok (.iaload, 1) := by decide +kernel
theorem d_M_parting_185 : decode c_M_parting 185 = .ok (.iaload, 1) := by decide +kernel
theorem d_M_parting_186 : decode c_M_parting 186 = .ok (.istore_n 2, 1) := by decide +kernel
theorem d_M_parting_187 : decode c_M_parting 187 = .ok (.aload_n 0, 1) := by decide +kernel
theorem d_M_parting_188 : decode c_M_parting 188 = .ok (.getfield 97, 3) := by decide +kernel
theorem d_M_parting_191 : decode c_M_parting 191 = .ok (.iload_n 2, 1) := by decide +kernel
theorem d_M_parting_192 : decode c_M_parting 192 = .ok (.aload_n 0, 1) := by decide +kernel
theorem d_M_parting_193 : decode c_M_parting 193 = .ok (.getfield 97, 3) := by decide +kernel
theorem d_M_parting_196 : decode c_M_parting 196 = .ok (.iload_n 2, 1) := by decide +kernel
theorem d_M_parting_197 : decode c_M_parting 197 = .ok (.iaload, 1) := by decide +kernel
theorem d_M_parting_198 : decode c_M_parting 198 = .ok (.bipush (-9), 2) := by decide +kernel
theorem d_M_parting_200 : decode c_M_parting 200 = .ok (.if_icmp .ne 7, 3) := by decide +kernel
theorem d_M_parting_203 : decode c_M_parting 203 = .ok (.iload_n 1, 1) := by decide +kernel
theorem d_M_parting_204 : decode c_M_parting 204 = .ok (.goto 9, 3) := by decide +kernel
theorem d_M_parting_207 : decode c_M_parting 207 = .ok (.aload_n 0, 1) := by decide +kernel
theorem d_M_parting_208 : decode c_M_parting 208 = .ok (.getfield 97, 3) := by decide +kernel
theorem d_M_parting_211 : decode c_M_parting 211 = .ok (.iload_n 2, 1) := by decide +kernel
theorem d_M_parting_212 : decode c_M_parting 212 = .ok (.iaload, 1) := by decide +kernel
theorem d_M_parting_213 : decode c_M_parting 213 = .ok (.iastore, 1) := by decide +kernel
theorem d_M_parting_214 : decode c_M_parting 214 = .ok (.aload_n 0, 1) := by decide +kernel
theorem d_M_parting_215 : decode c_M_parting 215 = .ok (.getfield 100, 3) := by decide +kernel
theorem d_M_parting_218 : decode c_M_parting 218 = .ok (.iload_n 2, 1) := by decide +kernel
theorem d_M_parting_219 : decode c_M_parting 219 = .ok (.iload_n 1, 1) := by decide +kernel
theorem d_M_parting_220 : decode c_M_parting 220 = .ok (.iastore, 1) := by decide +kernel
theorem d_M_parting_221 : decode c_M_parting 221 = .ok (.iinc 1 1, 3) := by decide +kernel
theorem d_M_parting_224 : decode c_M_parting 224 = .ok (.goto (-57), 3) := by decide +kernel
theorem d_M_parting_227 : decode c_M_parting 227 = .ok (.aload_n 0, 1) := by decide +kernel
theorem d_M_parting_228 : decode c_M_parting 228 = .ok (.getfield 341, 3) := by decide +kernel
theorem d_M_parting_231 : decode c_M_parting 231 = .ok (.ireturn, 1) := by decide +kernel
theorem d_M_partOf_0 : decode c_M_partOf 0 = .ok (.iload_n 1, 1) := by decide +kernel
theorem d_M_partOf_1 : decode c_M_partOf 1 = .ok (.iconst 0, 1) := by decide +kernel
theorem d_M_partOf_2 : decode c_M_partOf 2 = .ok (.bipush 7, 2) := by decide +kernel
theorem d_M_partOf_4 : decode c_M_partOf 4 = .ok (.invokestatic 117, 3) := by decide +kernel
theorem d_M_partOf_7 : decode c_M_partOf 7 = .ok (.ifCond .ne 7, 3) := by decide +kernel
theorem d_M_partOf_10 : decode c_M_partOf 10 = .ok (.iconst (-1), 1) := by decide +kernel
theorem d_M_partOf_11 : decode c_M_partOf 11 = .ok (.goto 22, 3) := by decide +kernel
theorem d_M_partOf_14 : decode c_M_partOf 14 = .ok (.iload_n 2, 1) := by decide +kernel
theorem d_M_partOf_15 : decode c_M_partOf 15 = .ok (.ifCond .eq 12, 3) := by decide +kernel
theorem d_M_partOf_18 : decode c_M_partOf 18 = .ok (.aload_n 0, 1) := by decide +kernel
theorem d_M_partOf_19 : decode c_M_partOf 19 = .ok (.getfield 100, 3) := by decide +kernel
theorem d_M_partOf_22 : decode c_M_partOf 22 = .ok (.iload_n 1, 1) := by decide +kernel
theorem d_M_partOf_23 : decode c_M_partOf 23 = .ok (.iaload, 1) := by decide +kernel
theorem d_M_partOf_24 : decode c_M_partOf 24 = .ok (.goto 9, 3) := by decide +kernel
theorem d_M_partOf_27 : decode c_M_partOf 27 = .ok (.aload_n 0, 1) := by decide +kernel
theorem d_M_partOf_28 : decode c_M_partOf 28 = .ok (.getfield 97, 3) := by decide +kernel
theorem d_M_partOf_31 : decode c_M_partOf 31 = .ok (.iload_n 1, 1) := by decide +kernel
theorem d_M_partOf_32 : decode c_M_partOf 32 = .ok (.iaload, 1) := by decide +kernel
theorem d_M_partOf_33 : decode c_M_partOf 33 = .ok (.ireturn, 1) := by decide +kernel
theorem d_M_fuel_0 : decode c_M_fuel 0 = .ok (.aload_n 0, 1) := by decide +kernel
theorem d_M_fuel_1 : decode c_M_fuel 1 = .ok (.iconst 1, 1) := by decide +kernel
theorem d_M_fuel_2 : decode c_M_fuel 2 = .ok (.iload_n 1, 1) := by decide +kernel
theorem d_M_fuel_3 : decode c_M_fuel 3 = .ok (.invokevirtual 168, 3) := by decide +kernel
theorem d_M_fuel_6 : decode c_M_fuel 6 = .ok (.istore_n 2, 1) := by decide +kernel
theorem d_M_fuel_7 : decode c_M_fuel 7 = .ok (.iload_n 2, 1) := by decide +kernel
theorem d_M_fuel_8 : decode c_M_fuel 8 = .ok (.ifCond .ge 5, 3) := by decide +kernel
theorem d_M_fuel_11 : decode c_M_fuel 11 = .ok (.iload_n 2, 1) := by decide +kernel
theorem d_M_fuel_12 : decode c_M_fuel 12 = .ok (.ireturn, 1) := by decide +kernel
theorem d_M_fuel_13 : decode c_M_fuel 13 = .ok (.aload_n 0, 1) := by decide +kernel
theorem d_M_fuel_14 : decode c_M_fuel 14 = .ok (.iload_n 1, 1) := by decide +kernel
theorem d_M_fuel_15 : decode c_M_fuel 15 = .ok (.invokevirtual 184, 3) := by decide +kernel
theorem d_M_fuel_18 : decode c_M_fuel 18 = .ok (.iconst 1, 1) := by decide +kernel
theorem d_M_fuel_19 : decode c_M_fuel 19 = .ok (.iconst 4, 1) := by decide +kernel
theorem d_M_fuel_20 : decode c_M_fuel 20 = .ok (.invokestatic 117, 3) := by decide +kernel
theorem d_M_fuel_23 : decode c_M_fuel 23 = .ok (.ifCond .eq 8, 3) := by decide +kernel
theorem d_M_fuel_26 : decode c_M_fuel 26 = .ok (.bipush (-4), 2) := by decide +kernel
theorem d_M_fuel_28 : decode c_M_fuel 28 = .ok (.goto 8, 3) := by decide +kernel
theorem d_M_fuel_31 : decode c_M_fuel 31 = .ok (.aload_n 0, 1) := by decide +kernel
theorem d_M_fuel_32 : decode c_M_fuel 32 = .ok (.iload_n 1, 1) := by decide +kernel
theorem d_M_fuel_33 : decode c_M_fuel 33 = .ok (.invokevirtual 178, 3) := by decide +kernel
theorem d_M_fuel_36 : decode c_M_fuel 36 = .ok (.ireturn, 1) := by decide +kernel
theorem d_M_tellsCount_0 : decode c_M_tellsCount 0 = .ok (.iconst 0, 1) := by decide +kernel
theorem d_M_tellsCount_1 : decode c_M_tellsCount 1 = .ok (.istore_n 2, 1) := by decide +kernel
theorem d_M_tellsCount_2 : decode c_M_tellsCount 2 = .ok (.iload_n 1, 1) := by decide +kernel
theorem d_M_tellsCount_3 : decode c_M_tellsCount 3 = .ok (.tableswitch 98 0 5 #[37, 42, 47, 53, 59, 64], 37) := by decide +kernel
theorem d_M_tellsCount_40 : decode c_M_tellsCount 40 = .ok (.aload_n 0, 1) := by decide +kernel
theorem d_M_tellsCount_41 : decode c_M_tellsCount 41 = .ok (.getfield 107, 3) := by decide +kernel
theorem d_M_tellsCount_44 : decode c_M_tellsCount 44 = .ok (.ireturn, 1) := by decide +kernel
theorem d_M_tellsCount_45 : decode c_M_tellsCount 45 = .ok (.aload_n 0, 1) := by decide +kernel
theorem d_M_tellsCount_46 : decode c_M_tellsCount 46 = .ok (.getfield 111, 3) := by decide +kernel
theorem d_M_tellsCount_49 : decode c_M_tellsCount 49 = .ok (.ireturn, 1) := by decide +kernel
theorem d_M_tellsCount_50 : decode c_M_tellsCount 50 = .ok (.aload_n 0, 1) := by decide +kernel
theorem d_M_tellsCount_51 : decode c_M_tellsCount 51 = .ok (.iconst 0, 1) := by decide +kernel
theorem d_M_tellsCount_52 : decode c_M_tellsCount 52 = .ok (.invokevirtual 154, 3) := by decide +kernel
theorem d_M_tellsCount_55 : decode c_M_tellsCount 55 = .ok (.ireturn, 1) := by decide +kernel
theorem d_M_tellsCount_56 : decode c_M_tellsCount 56 = .ok (.aload_n 0, 1) := by decide +kernel
theorem d_M_tellsCount_57 : decode c_M_tellsCount 57 = .ok (.iconst 1, 1) := by decide +kernel
theorem d_M_tellsCount_58 : decode c_M_tellsCount 58 = .ok (.invokevirtual 154, 3) := by decide +kernel
theorem d_M_tellsCount_61 : decode c_M_tellsCount 61 = .ok (.ireturn, 1) := by decide +kernel
theorem d_M_tellsCount_62 : decode c_M_tellsCount 62 = .ok (.aload_n 0, 1) := by decide +kernel
theorem d_M_tellsCount_63 : decode c_M_tellsCount 63 = .ok (.getfield 162, 3) := by decide +kernel
theorem d_M_tellsCount_66 : decode c_M_tellsCount 66 = .ok (.ireturn, 1) := by decide +kernel
theorem d_M_tellsCount_67 : decode c_M_tellsCount 67 = .ok (.iconst 0, 1) := by decide +kernel
theorem d_M_tellsCount_68 : decode c_M_tellsCount 68 = .ok (.istore_n 3, 1) := by decide +kernel
theorem d_M_tellsCount_69 : decode c_M_tellsCount 69 = .ok (.iload_n 3, 1) := by decide +kernel
theorem d_M_tellsCount_70 : decode c_M_tellsCount 70 = .ok (.aload_n 0, 1) := by decide +kernel
theorem d_M_tellsCount_71 : decode c_M_tellsCount 71 = .ok (.getfield 162, 3) := by decide +kernel
theorem d_M_tellsCount_74 : decode c_M_tellsCount 74 = .ok (.if_icmp .ge 25, 3) := by decide +kernel
theorem d_M_tellsCount_77 : decode c_M_tellsCount 77 = .ok (.iload_n 2, 1) := by decide +kernel
theorem d_M_tellsCount_78 : decode c_M_tellsCount 78 = .ok (.aload_n 0, 1) := by decide +kernel
theorem d_M_tellsCount_79 : decode c_M_tellsCount 79 = .ok (.iload_n 3, 1) := by decide +kernel
theorem d_M_tellsCount_80 : decode c_M_tellsCount 80 = .ok (.invokevirtual 193, 3) := by decide +kernel
theorem d_M_tellsCount_83 : decode c_M_tellsCount 83 = .ok (.ifCond .eq 7, 3) := by decide +kernel
theorem d_M_tellsCount_86 : decode c_M_tellsCount 86 = .ok (.iconst 1, 1) := by decide +kernel
theorem d_M_tellsCount_87 : decode c_M_tellsCount 87 = .ok (.goto 4, 3) := by decide +kernel
theorem d_M_tellsCount_90 : decode c_M_tellsCount 90 = .ok (.iconst 0, 1) := by decide +kernel
theorem d_M_tellsCount_91 : decode c_M_tellsCount 91 = .ok (.iadd, 1) := by decide +kernel
theorem d_M_tellsCount_92 : decode c_M_tellsCount 92 = .ok (.istore_n 2, 1) := by decide +kernel
theorem d_M_tellsCount_93 : decode c_M_tellsCount 93 = .ok (.iinc 3 1, 3) := by decide +kernel
theorem d_M_tellsCount_96 : decode c_M_tellsCount 96 = .ok (.goto (-27), 3) := by decide +kernel
theorem d_M_tellsCount_99 : decode c_M_tellsCount 99 = .ok (.iload_n 2, 1) := by decide +kernel
theorem d_M_tellsCount_100 : decode c_M_tellsCount 100 = .ok (.ireturn, 1) := by decide +kernel
theorem d_M_tellsCount_101 : decode c_M_tellsCount 101 = .ok (.iconst 0, 1) := by decide +kernel
theorem d_M_tellsCount_102 : decode c_M_tellsCount 102 = .ok (.istore_n 3, 1) := by decide +kernel
theorem d_M_tellsCount_103 : decode c_M_tellsCount 103 = .ok (.iload_n 3, 1) := by decide +kernel
theorem d_M_tellsCount_104 : decode c_M_tellsCount 104 = .ok (.bipush 8, 2) := by decide +kernel
theorem d_M_tellsCount_106 : decode c_M_tellsCount 106 = .ok (.if_icmp .ge 26, 3) := by decide +kernel
theorem d_M_tellsCount_109 : decode c_M_tellsCount 109 = .ok (.iload_n 2, 1) := by decide +kernel
theorem d_M_tellsCount_110 : decode c_M_tellsCount 110 = .ok (.aload_n 0, 1) := by decide +kernel
theorem d_M_tellsCount_111 : decode c_M_tellsCount 111 = .ok (.getfield 13, 3) := by decide +kernel
theorem d_M_tellsCount_114 : decode c_M_tellsCount 114 = .ok (.iload_n 3, 1) := by decide +kernel
theorem d_M_tellsCount_115 : decode c_M_tellsCount 115 = .ok (.iaload, 1) := by decide +kernel
theorem d_M_tellsCount_116 : decode c_M_tellsCount 116 = .ok (.ifCond .ge 7, 3) := by decide +kernel
theorem d_M_tellsCount_119 : decode c_M_tellsCount 119 = .ok (.iconst 0, 1) := by decide +kernel
theorem d_M_tellsCount_120 : decode c_M_tellsCount 120 = .ok (.goto 4, 3) := by decide +kernel
theorem d_M_tellsCount_123 : decode c_M_tellsCount 123 = .ok (.iconst 1, 1) := by decide +kernel
theorem d_M_tellsCount_124 : decode c_M_tellsCount 124 = .ok (.iadd, 1) := by decide +kernel
theorem d_M_tellsCount_125 : decode c_M_tellsCount 125 = .ok (.istore_n 2, 1) := by decide +kernel
theorem d_M_tellsCount_126 : decode c_M_tellsCount 126 = .ok (.iinc 3 1, 3) := by decide +kernel
theorem d_M_tellsCount_129 : decode c_M_tellsCount 129 = .ok (.goto (-26), 3) := by decide +kernel
theorem d_M_tellsCount_132 : decode c_M_tellsCount 132 = .ok (.iload_n 2, 1) := by decide +kernel
theorem d_M_tellsCount_133 : decode c_M_tellsCount 133 = .ok (.ireturn, 1) := by decide +kernel
theorem d_M_count_0 : decode c_M_count 0 = .ok (.iload_n 1, 1) := by decide +kernel
theorem d_M_count_1 : decode c_M_count 1 = .ok (.iconst 0, 1) := by decide +kernel
theorem d_M_count_2 : decode c_M_count 2 = .ok (.bipush 6, 2) := by decide +kernel
theorem d_M_count_4 : decode c_M_count 4 = .ok (.invokestatic 117, 3) := by decide +kernel
theorem d_M_count_7 : decode c_M_count 7 = .ok (.ifCond .eq 11, 3) := by decide +kernel
theorem d_M_count_10 : decode c_M_count 10 = .ok (.aload_n 0, 1) := by decide +kernel
theorem d_M_count_11 : decode c_M_count 11 = .ok (.iload_n 1, 1) := by decide +kernel
theorem d_M_count_12 : decode c_M_count 12 = .ok (.invokevirtual 351, 3) := by decide +kernel
theorem d_M_count_15 : decode c_M_count 15 = .ok (.goto 4, 3) := by decide +kernel
theorem d_M_count_18 : decode c_M_count 18 = .ok (.iconst (-1), 1) := by decide +kernel
theorem d_M_count_19 : decode c_M_count 19 = .ok (.ireturn, 1) := by decide +kernel
theorem d_M_digest_0 : decode c_M_digest 0 = .ok (.ldc2_w 354, 3) := by decide +kernel
theorem d_M_digest_3 : decode c_M_digest 3 = .ok (.lstore_n 1, 1) := by decide +kernel
theorem d_M_digest_4 : decode c_M_digest 4 = .ok (.iconst 0, 1) := by decide +kernel
theorem d_M_digest_5 : decode c_M_digest 5 = .ok (.istore_n 3, 1) := by decide +kernel
theorem d_M_digest_6 : decode c_M_digest 6 = .ok (.iload_n 3, 1) := by decide +kernel
theorem d_M_digest_7 : decode c_M_digest 7 = .ok (.bipush 7, 2) := by decide +kernel
theorem d_M_digest_9 : decode c_M_digest 9 = .ok (.if_icmp .ge 22, 3) := by decide +kernel
theorem d_M_digest_12 : decode c_M_digest 12 = .ok (.ldc2_w 356, 3) := by decide +kernel
theorem d_M_digest_15 : decode c_M_digest 15 = .ok (.lload_n 1, 1) := by decide +kernel
theorem d_M_digest_16 : decode c_M_digest 16 = .ok (.lmul, 1) := by decide +kernel
theorem d_M_digest_17 : decode c_M_digest 17 = .ok (.aload_n 0, 1) := by decide +kernel
theorem d_M_digest_18 : decode c_M_digest 18 = .ok (.iload_n 3, 1) := by decide +kernel
theorem d_M_digest_19 : decode c_M_digest 19 = .ok (.invokevirtual 351, 3) := by decide +kernel
theorem d_M_digest_22 : decode c_M_digest 22 = .ok (.i2l, 1) := by decide +kernel
theorem d_M_digest_23 : decode c_M_digest 23 = .ok (.ladd, 1) := by decide +kernel
theorem d_M_digest_24 : decode c_M_digest 24 = .ok (.lstore_n 1, 1) := by decide +kernel
theorem d_M_digest_25 : decode c_M_digest 25 = .ok (.iinc 3 1, 3) := by decide +kernel
theorem d_M_digest_28 : decode c_M_digest 28 = .ok (.goto (-22), 3) := by decide +kernel
theorem d_M_digest_31 : decode c_M_digest 31 = .ok (.iconst 0, 1) := by decide +kernel
theorem d_M_digest_32 : decode c_M_digest 32 = .ok (.istore_n 3, 1) := by decide +kernel
theorem d_M_digest_33 : decode c_M_digest 33 = .ok (.iload_n 3, 1) := by decide +kernel
theorem d_M_digest_34 : decode c_M_digest 34 = .ok (.aload_n 0, 1) := by decide +kernel
theorem d_M_digest_35 : decode c_M_digest 35 = .ok (.getfield 111, 3) := by decide +kernel
theorem d_M_digest_38 : decode c_M_digest 38 = .ok (.if_icmp .ge 74, 3) := by decide +kernel
theorem d_M_digest_41 : decode c_M_digest 41 = .ok (.iload_n 3, 1) := by decide +kernel
theorem d_M_digest_42 : decode c_M_digest 42 = .ok (.iconst 1, 1) := by decide +kernel
theorem d_M_digest_43 : decode c_M_digest 43 = .ok (.iadd, 1) := by decide +kernel
theorem d_M_digest_44 : decode c_M_digest 44 = .ok (.istore 4, 2) := by decide +kernel
theorem d_M_digest_46 : decode c_M_digest 46 = .ok (.iload 4, 2) := by decide +kernel
theorem d_M_digest_48 : decode c_M_digest 48 = .ok (.aload_n 0, 1) := by decide +kernel
theorem d_M_digest_49 : decode c_M_digest 49 = .ok (.getfield 111, 3) := by decide +kernel
theorem d_M_digest_52 : decode c_M_digest 52 = .ok (.if_icmp .ge 54, 3) := by decide +kernel
theorem d_M_digest_55 : decode c_M_digest 55 = .ok (.bipush 16, 2) := by decide +kernel
theorem d_M_digest_57 : decode c_M_digest 57 = .ok (.iload_n 3, 1) := by decide +kernel
theorem d_M_digest_58 : decode c_M_digest 58 = .ok (.imul, 1) := by decide +kernel
theorem d_M_digest_59 : decode c_M_digest 59 = .ok (.iload 4, 2) := by decide +kernel
theorem d_M_digest_61 : decode c_M_digest 61 = .ok (.iadd, 1) := by decide +kernel
theorem d_M_digest_62 : decode c_M_digest 62 = .ok (.istore 5, 2) := by decide +kernel
theorem d_M_digest_64 : decode c_M_digest 64 = .ok (.ldc2_w 356, 3) := by decide +kernel
theorem d_M_digest_67 : decode c_M_digest 67 = .ok (.lload_n 1, 1) := by decide +kernel
theorem d_M_digest_68 : decode c_M_digest 68 = .ok (.lmul, 1) := by decide +kernel
theorem d_M_digest_69 : decode c_M_digest 69 = .ok (.aload_n 0, 1) := by decide +kernel
theorem d_M_digest_70 : decode c_M_digest 70 = .ok (.getfield 26, 3) := by decide +kernel
theorem d_M_digest_73 : decode c_M_digest 73 = .ok (.iload 5, 2) := by decide +kernel
theorem d_M_digest_75 : decode c_M_digest 75 = .ok (.baload, 1) := by decide +kernel
theorem d_M_digest_76 : decode c_M_digest 76 = .ok (.ifCond .eq 14, 3) := by decide +kernel
theorem d_M_digest_79 : decode c_M_digest 79 = .ok (.aload_n 0, 1) := by decide +kernel
theorem d_M_digest_80 : decode c_M_digest 80 = .ok (.getfield 23, 3) := by decide +kernel
theorem d_M_digest_83 : decode c_M_digest 83 = .ok (.iload 5, 2) := by decide +kernel
theorem d_M_digest_85 : decode c_M_digest 85 = .ok (.iaload, 1) := by decide +kernel
theorem d_M_digest_86 : decode c_M_digest 86 = .ok (.ineg, 1) := by decide +kernel
theorem d_M_digest_87 : decode c_M_digest 87 = .ok (.goto 10, 3) := by decide +kernel
theorem d_M_digest_90 : decode c_M_digest 90 = .ok (.aload_n 0, 1) := by decide +kernel
theorem d_M_digest_91 : decode c_M_digest 91 = .ok (.getfield 23, 3) := by decide +kernel
theorem d_M_digest_94 : decode c_M_digest 94 = .ok (.iload 5, 2) := by decide +kernel
theorem d_M_digest_96 : decode c_M_digest 96 = .ok (.iaload, 1) := by decide +kernel
theorem d_M_digest_97 : decode c_M_digest 97 = .ok (.i2l, 1) := by decide +kernel
theorem d_M_digest_98 : decode c_M_digest 98 = .ok (.ladd, 1) := by decide +kernel
theorem d_M_digest_99 : decode c_M_digest 99 = .ok (.lstore_n 1, 1) := by decide +kernel
theorem d_M_digest_100 : decode c_M_digest 100 = .ok (.iinc 4 1, 3) := by decide +kernel
theorem d_M_digest_103 : decode c_M_digest 103 = .ok (.goto (-57), 3) := by decide +kernel
theorem d_M_digest_106 : decode c_M_digest 106 = .ok (.iinc 3 1, 3) := by decide +kernel
theorem d_M_digest_109 : decode c_M_digest 109 = .ok (.goto (-76), 3) := by decide +kernel
theorem d_M_digest_112 : decode c_M_digest 112 = .ok (.iconst 0, 1) := by decide +kernel
theorem d_M_digest_113 : decode c_M_digest 113 = .ok (.istore_n 3, 1) := by decide +kernel
theorem d_M_digest_114 : decode c_M_digest 114 = .ok (.iload_n 3, 1) := by decide +kernel
theorem d_M_digest_115 : decode c_M_digest 115 = .ok (.aload_n 0, 1) := by decide +kernel
theorem d_M_digest_116 : decode c_M_digest 116 = .ok (.getfield 111, 3) := by decide +kernel
theorem d_M_digest_119 : decode c_M_digest 119 = .ok (.if_icmp .ge 40, 3) := by decide +kernel
theorem d_M_digest_122 : decode c_M_digest 122 = .ok (.ldc2_w 356, 3) := by decide +kernel
theorem d_M_digest_125 : decode c_M_digest 125 = .ok (.lload_n 1, 1) := by decide +kernel
theorem d_M_digest_126 : decode c_M_digest 126 = .ok (.lmul, 1) := by decide +kernel
theorem d_M_digest_127 : decode c_M_digest 127 = .ok (.aload_n 0, 1) := by decide +kernel
theorem d_M_digest_128 : decode c_M_digest 128 = .ok (.getfield 30, 3) := by decide +kernel
theorem d_M_digest_131 : decode c_M_digest 131 = .ok (.iload_n 3, 1) := by decide +kernel
theorem d_M_digest_132 : decode c_M_digest 132 = .ok (.iaload, 1) := by decide +kernel
theorem d_M_digest_133 : decode c_M_digest 133 = .ok (.i2l, 1) := by decide +kernel
theorem d_M_digest_134 : decode c_M_digest 134 = .ok (.ladd, 1) := by decide +kernel
theorem d_M_digest_135 : decode c_M_digest 135 = .ok (.aload_n 0, 1) := by decide +kernel
theorem d_M_digest_136 : decode c_M_digest 136 = .ok (.getfield 33, 3) := by decide +kernel
theorem d_M_digest_139 : decode c_M_digest 139 = .ok (.iload_n 3, 1) := by decide +kernel
theorem d_M_digest_140 : decode c_M_digest 140 = .ok (.baload, 1) := by decide +kernel
theorem d_M_digest_141 : decode c_M_digest 141 = .ok (.ifCond .eq 8, 3) := by decide +kernel
theorem d_M_digest_144 : decode c_M_digest 144 = .ok (.bipush 10, 2) := by decide +kernel
theorem d_M_digest_146 : decode c_M_digest 146 = .ok (.goto 4, 3) := by decide +kernel
theorem d_M_digest_149 : decode c_M_digest 149 = .ok (.iconst 0, 1) := by decide +kernel
theorem d_M_digest_150 : decode c_M_digest 150 = .ok (.i2l, 1) := by decide +kernel
theorem d_M_digest_151 : decode c_M_digest 151 = .ok (.ladd, 1) := by decide +kernel
theorem d_M_digest_152 : decode c_M_digest 152 = .ok (.lstore_n 1, 1) := by decide +kernel
theorem d_M_digest_153 : decode c_M_digest 153 = .ok (.iinc 3 1, 3) := by decide +kernel
theorem d_M_digest_156 : decode c_M_digest 156 = .ok (.goto (-42), 3) := by decide +kernel
theorem d_M_digest_159 : decode c_M_digest 159 = .ok (.iconst 0, 1) := by decide +kernel
theorem d_M_digest_160 : decode c_M_digest 160 = .ok (.istore_n 3, 1) := by decide +kernel
theorem d_M_digest_161 : decode c_M_digest 161 = .ok (.iload_n 3, 1) := by decide +kernel
theorem d_M_digest_162 : decode c_M_digest 162 = .ok (.aload_n 0, 1) := by decide +kernel
theorem d_M_digest_163 : decode c_M_digest 163 = .ok (.getfield 162, 3) := by decide +kernel
theorem d_M_digest_166 : decode c_M_digest 166 = .ok (.if_icmp .ge 144, 3) := by decide +kernel
theorem d_M_digest_169 : decode c_M_digest 169 = .ok (.aload_n 0, 1) := by decide +kernel
theorem d_M_digest_170 : decode c_M_digest 170 = .ok (.getfield 57, 3) := by decide +kernel
theorem d_M_digest_173 : decode c_M_digest 173 = .ok (.iload_n 3, 1) := by decide +kernel
theorem d_M_digest_174 : decode c_M_digest 174 = .ok (.baload, 1) := by decide +kernel
theorem d_M_digest_175 : decode c_M_digest 175 = .ok (.ifCond .eq 14, 3) := by decide +kernel
theorem d_M_digest_178 : decode c_M_digest 178 = .ok (.ldc2_w 356, 3) := by decide +kernel
theorem d_M_digest_181 : decode c_M_digest 181 = .ok (.lload_n 1, 1) := by decide +kernel
theorem d_M_digest_182 : decode c_M_digest 182 = .ok (.lmul, 1) := by decide +kernel
theorem d_M_digest_183 : decode c_M_digest 183 = .ok (.lconst 1, 1) := by decide +kernel
theorem d_M_digest_184 : decode c_M_digest 184 = .ok (.lsub, 1) := by decide +kernel
theorem d_M_digest_185 : decode c_M_digest 185 = .ok (.lstore_n 1, 1) := by decide +kernel
theorem d_M_digest_186 : decode c_M_digest 186 = .ok (.goto 118, 3) := by decide +kernel
theorem d_M_digest_189 : decode c_M_digest 189 = .ok (.iconst 0, 1) := by decide +kernel
theorem d_M_digest_190 : decode c_M_digest 190 = .ok (.istore 4, 2) := by decide +kernel
theorem d_M_digest_192 : decode c_M_digest 192 = .ok (.iload 4, 2) := by decide +kernel
theorem d_M_digest_194 : decode c_M_digest 194 = .ok (.bipush 7, 2) := by decide +kernel
theorem d_M_digest_196 : decode c_M_digest 196 = .ok (.if_icmp .ge 24, 3) := by decide +kernel
theorem d_M_digest_199 : decode c_M_digest 199 = .ok (.ldc2_w 356, 3) := by decide +kernel
theorem d_M_digest_202 : decode c_M_digest 202 = .ok (.lload_n 1, 1) := by decide +kernel
theorem d_M_digest_203 : decode c_M_digest 203 = .ok (.lmul, 1) := by decide +kernel
theorem d_M_digest_204 : decode c_M_digest 204 = .ok (.aload_n 0, 1) := by decide +kernel
theorem d_M_digest_205 : decode c_M_digest 205 = .ok (.iload_n 3, 1) := by decide +kernel
theorem d_M_digest_206 : decode c_M_digest 206 = .ok (.iload 4, 2) := by decide +kernel
theorem d_M_digest_208 : decode c_M_digest 208 = .ok (.invokevirtual 199, 3) := by decide +kernel
theorem d_M_digest_211 : decode c_M_digest 211 = .ok (.i2l, 1) := by decide +kernel
theorem d_M_digest_212 : decode c_M_digest 212 = .ok (.ladd, 1) := by decide +kernel
theorem d_M_digest_213 : decode c_M_digest 213 = .ok (.lstore_n 1, 1) := by decide +kernel
theorem d_M_digest_214 : decode c_M_digest 214 = .ok (.iinc 4 1, 3) := by decide +kernel
theorem d_M_digest_217 : decode c_M_digest 217 = .ok (.goto (-25), 3) := by decide +kernel
theorem d_M_digest_220 : decode c_M_digest 220 = .ok (.ldc2_w 356, 3) := by decide +kernel
theorem d_M_digest_223 : decode c_M_digest 223 = .ok (.lload_n 1, 1) := by decide +kernel
theorem d_M_digest_224 : decode c_M_digest 224 = .ok (.lmul, 1) := by decide +kernel
theorem d_M_digest_225 : decode c_M_digest 225 = .ok (.aload_n 0, 1) := by decide +kernel
theorem d_M_digest_226 : decode c_M_digest 226 = .ok (.getfield 69, 3) := by decide +kernel
theorem d_M_digest_229 : decode c_M_digest 229 = .ok (.iload_n 3, 1) := by decide +kernel
theorem d_M_digest_230 : decode c_M_digest 230 = .ok (.iaload, 1) := by decide +kernel
theorem d_M_digest_231 : decode c_M_digest 231 = .ok (.i2l, 1) := by decide +kernel
theorem d_M_digest_232 : decode c_M_digest 232 = .ok (.ladd, 1) := by decide +kernel
theorem d_M_digest_233 : decode c_M_digest 233 = .ok (.lstore_n 1, 1) := by decide +kernel
theorem d_M_digest_234 : decode c_M_digest 234 = .ok (.iconst 0, 1) := by decide +kernel
theorem d_M_digest_235 : decode c_M_digest 235 = .ok (.istore 4, 2) := by decide +kernel
theorem d_M_digest_237 : decode c_M_digest 237 = .ok (.iload 4, 2) := by decide +kernel
theorem d_M_digest_239 : decode c_M_digest 239 = .ok (.aload_n 0, 1) := by decide +kernel
theorem d_M_digest_240 : decode c_M_digest 240 = .ok (.getfield 60, 3) := by decide +kernel
theorem d_M_digest_243 : decode c_M_digest 243 = .ok (.iload_n 3, 1) := by decide +kernel
theorem d_M_digest_244 : decode c_M_digest 244 = .ok (.iaload, 1) := by decide +kernel
theorem d_M_digest_245 : decode c_M_digest 245 = .ok (.if_icmp .ge 24, 3) := by decide +kernel
theorem d_M_digest_248 : decode c_M_digest 248 = .ok (.ldc2_w 356, 3) := by decide +kernel
theorem d_M_digest_251 : decode c_M_digest 251 = .ok (.lload_n 1, 1) := by decide +kernel
theorem d_M_digest_252 : decode c_M_digest 252 = .ok (.lmul, 1) := by decide +kernel
theorem d_M_digest_253 : decode c_M_digest 253 = .ok (.aload_n 0, 1) := by decide +kernel
theorem d_M_digest_254 : decode c_M_digest 254 = .ok (.iload_n 3, 1) := by decide +kernel
theorem d_M_digest_255 : decode c_M_digest 255 = .ok (.iload 4, 2) := by decide +kernel
theorem d_M_digest_257 : decode c_M_digest 257 = .ok (.invokevirtual 172, 3) := by decide +kernel
theorem d_M_digest_260 : decode c_M_digest 260 = .ok (.i2l, 1) := by decide +kernel
theorem d_M_digest_261 : decode c_M_digest 261 = .ok (.ladd, 1) := by decide +kernel
theorem d_M_digest_262 : decode c_M_digest 262 = .ok (.lstore_n 1, 1) := by decide +kernel
theorem d_M_digest_263 : decode c_M_digest 263 = .ok (.iinc 4 1, 3) := by decide +kernel
theorem d_M_digest_266 : decode c_M_digest 266 = .ok (.goto (-29), 3) := by decide +kernel
theorem d_M_digest_269 : decode c_M_digest 269 = .ok (.iconst 0, 1) := by decide +kernel
theorem d_M_digest_270 : decode c_M_digest 270 = .ok (.istore 4, 2) := by decide +kernel
theorem d_M_digest_272 : decode c_M_digest 272 = .ok (.iload 4, 2) := by decide +kernel
theorem d_M_digest_274 : decode c_M_digest 274 = .ok (.aload_n 0, 1) := by decide +kernel
theorem d_M_digest_275 : decode c_M_digest 275 = .ok (.getfield 60, 3) := by decide +kernel
theorem d_M_digest_278 : decode c_M_digest 278 = .ok (.iload_n 3, 1) := by decide +kernel
theorem d_M_digest_279 : decode c_M_digest 279 = .ok (.iaload, 1) := by decide +kernel
theorem d_M_digest_280 : decode c_M_digest 280 = .ok (.if_icmp .ge 24, 3) := by decide +kernel
theorem d_M_digest_283 : decode c_M_digest 283 = .ok (.ldc2_w 356, 3) := by decide +kernel
theorem d_M_digest_286 : decode c_M_digest 286 = .ok (.lload_n 1, 1) := by decide +kernel
theorem d_M_digest_287 : decode c_M_digest 287 = .ok (.lmul, 1) := by decide +kernel
theorem d_M_digest_288 : decode c_M_digest 288 = .ok (.aload_n 0, 1) := by decide +kernel
theorem d_M_digest_289 : decode c_M_digest 289 = .ok (.iload_n 3, 1) := by decide +kernel
theorem d_M_digest_290 : decode c_M_digest 290 = .ok (.iload 4, 2) := by decide +kernel
theorem d_M_digest_292 : decode c_M_digest 292 = .ok (.invokevirtual 187, 3) := by decide +kernel
theorem d_M_digest_295 : decode c_M_digest 295 = .ok (.i2l, 1) := by decide +kernel
theorem d_M_digest_296 : decode c_M_digest 296 = .ok (.ladd, 1) := by decide +kernel
theorem d_M_digest_297 : decode c_M_digest 297 = .ok (.lstore_n 1, 1) := by decide +kernel
theorem d_M_digest_298 : decode c_M_digest 298 = .ok (.iinc 4 1, 3) := by decide +kernel
theorem d_M_digest_301 : decode c_M_digest 301 = .ok (.goto (-29), 3) := by decide +kernel
theorem d_M_digest_304 : decode c_M_digest 304 = .ok (.iinc 3 1, 3) := by decide +kernel
theorem d_M_digest_307 : decode c_M_digest 307 = .ok (.goto (-146), 3) := by decide +kernel
theorem d_M_digest_310 : decode c_M_digest 310 = .ok (.iconst 0, 1) := by decide +kernel
theorem d_M_digest_311 : decode c_M_digest 311 = .ok (.istore_n 3, 1) := by decide +kernel
theorem d_M_digest_312 : decode c_M_digest 312 = .ok (.iload_n 3, 1) := by decide +kernel
theorem d_M_digest_313 : decode c_M_digest 313 = .ok (.bipush 8, 2) := by decide +kernel
theorem d_M_digest_315 : decode c_M_digest 315 = .ok (.if_icmp .ge 58, 3) := by decide +kernel
theorem d_M_digest_318 : decode c_M_digest 318 = .ok (.ldc2_w 356, 3) := by decide +kernel
theorem d_M_digest_321 : decode c_M_digest 321 = .ok (.lload_n 1, 1) := by decide +kernel
theorem d_M_digest_322 : decode c_M_digest 322 = .ok (.lmul, 1) := by decide +kernel
theorem d_M_digest_323 : decode c_M_digest 323 = .ok (.aload_n 0, 1) := by decide +kernel
theorem d_M_digest_324 : decode c_M_digest 324 = .ok (.getfield 13, 3) := by decide +kernel
theorem d_M_digest_327 : decode c_M_digest 327 = .ok (.iload_n 3, 1) := by decide +kernel
theorem d_M_digest_328 : decode c_M_digest 328 = .ok (.iaload, 1) := by decide +kernel
theorem d_M_digest_329 : decode c_M_digest 329 = .ok (.i2l, 1) := by decide +kernel
theorem d_M_digest_330 : decode c_M_digest 330 = .ok (.ladd, 1) := by decide +kernel
theorem d_M_digest_331 : decode c_M_digest 331 = .ok (.lstore_n 1, 1) := by decide +kernel
theorem d_M_digest_332 : decode c_M_digest 332 = .ok (.iconst 0, 1) := by decide +kernel
theorem d_M_digest_333 : decode c_M_digest 333 = .ok (.istore 4, 2) := by decide +kernel
theorem d_M_digest_335 : decode c_M_digest 335 = .ok (.iload 4, 2) := by decide +kernel
theorem d_M_digest_337 : decode c_M_digest 337 = .ok (.aload_n 0, 1) := by decide +kernel
theorem d_M_digest_338 : decode c_M_digest 338 = .ok (.getfield 13, 3) := by decide +kernel
theorem d_M_digest_341 : decode c_M_digest 341 = .ok (.iload_n 3, 1) := by decide +kernel
theorem d_M_digest_342 : decode c_M_digest 342 = .ok (.iaload, 1) := by decide +kernel
theorem d_M_digest_343 : decode c_M_digest 343 = .ok (.if_icmp .ge 24, 3) := by decide +kernel
theorem d_M_digest_346 : decode c_M_digest 346 = .ok (.ldc2_w 356, 3) := by decide +kernel
theorem d_M_digest_349 : decode c_M_digest 349 = .ok (.lload_n 1, 1) := by decide +kernel
theorem d_M_digest_350 : decode c_M_digest 350 = .ok (.lmul, 1) := by decide +kernel
theorem d_M_digest_351 : decode c_M_digest 351 = .ok (.aload_n 0, 1) := by decide +kernel
theorem d_M_digest_352 : decode c_M_digest 352 = .ok (.iload_n 3, 1) := by decide +kernel
theorem d_M_digest_353 : decode c_M_digest 353 = .ok (.iload 4, 2) := by decide +kernel
theorem d_M_digest_355 : decode c_M_digest 355 = .ok (.invokevirtual 139, 3) := by decide +kernel
theorem d_M_digest_358 : decode c_M_digest 358 = .ok (.i2l, 1) := by decide +kernel
theorem d_M_digest_359 : decode c_M_digest 359 = .ok (.ladd, 1) := by decide +kernel
theorem d_M_digest_360 : decode c_M_digest 360 = .ok (.lstore_n 1, 1) := by decide +kernel
theorem d_M_digest_361 : decode c_M_digest 361 = .ok (.iinc 4 1, 3) := by decide +kernel
theorem d_M_digest_364 : decode c_M_digest 364 = .ok (.goto (-29), 3) := by decide +kernel
theorem d_M_digest_367 : decode c_M_digest 367 = .ok (.iinc 3 1, 3) := by decide +kernel
theorem d_M_digest_370 : decode c_M_digest 370 = .ok (.goto (-58), 3) := by decide +kernel
theorem d_M_digest_373 : decode c_M_digest 373 = .ok (.lload_n 1, 1) := by decide +kernel
theorem d_M_digest_374 : decode c_M_digest 374 = .ok (.lreturn, 1) := by decide +kernel
