set_option maxHeartbeats 4000000 in
theorem t_M_digest_B367 {ad : Nat → Nat} {dA : Nat → ClassId} {D : va_G} {p : Program} {l : Launch} {e : Env} {s : State} {m : MethodId} {args : Array Value} {below : List Frame} {meth : Method} {c : Code} {r : Int64} {μ' : Mm} (C : Cx CLS SHM ad dA D p s m args meth c c_M_digest 6 R_M (some .long)) (N : Nat)   (k312 : Int64 → Int32 → Mm → Option (Int64 × Mm)) (hk312 : ∀ (v1 : Int64) (v3 : Int32) (μ : Mm) (lv : Nat → Option Value), lv 0 = some (.ref (ad 0)) → lv 1 = some (.long v1) → lv 3 = some (.int v3) → k312 v1 v3 μ = some (r, μ') → Go CLS SHM ad dA D p l e (rmD 6) s m args below meth c 6 (some (.long r)) μ' 312 lv [] μ) : ∀ (v1 : Int64) (v3 : Int32) (μ : Mm) (lv : Nat → Option Value), lv 0 = some (.ref (ad 0)) → lv 1 = some (.long v1) → lv 3 = some (.int v3) → f_M_digest_B367 N k312 v1 v3 μ = some (r, μ') → Go CLS SHM ad dA D p l e (rmD 6) s m args below meth c 6 (some (.long r)) μ' 367 lv [] μ := by
  intro v1 v3 μ lv hl0 hl1 hl3 hf
  unfold f_M_digest_B367 at hf
  refine g_iinc (v := 1) C d_M_digest_367 hl3 (by decide) (by decide) ?_
  refine g_goto (tgt := 312) C d_M_digest_370 (by decide) ?_
  exact hk312 _ _ _ _ ((upG hl0 rfl)) ((upG hl1 rfl)) upS hf
set_option maxHeartbeats 4000000 in
theorem t_M_digest_L335 {ad : Nat → Nat} {dA : Nat → ClassId} {D : va_G} {p : Program} {l : Launch} {e : Env} {s : State} {m : MethodId} {args : Array Value} {below : List Frame} {meth : Method} {c : Code} {r : Int64} {μ' : Mm} (C : Cx CLS SHM ad dA D p s m args meth c c_M_digest 6 R_M (some .long)) (N : Nat)   (k312 : Int64 → Int32 → Mm → Option (Int64 × Mm)) (hk312 : ∀ (v1 : Int64) (v3 : Int32) (μ : Mm) (lv : Nat → Option Value), lv 0 = some (.ref (ad 0)) → lv 1 = some (.long v1) → lv 3 = some (.int v3) → k312 v1 v3 μ = some (r, μ') → Go CLS SHM ad dA D p l e (rmD 6) s m args below meth c 6 (some (.long r)) μ' 312 lv [] μ) : ∀ (n : Nat) (v1 : Int64) (v3 : Int32) (v4 : Int32) (μ : Mm) (lv : Nat → Option Value), lv 0 = some (.ref (ad 0)) → lv 1 = some (.long v1) → lv 3 = some (.int v3) → lv 4 = some (.int v4) → f_M_digest_L335 N k312 n v1 v3 v4 μ = some (r, μ') → Go CLS SHM ad dA D p l e (rmD 6) s m args below meth c 6 (some (.long r)) μ' 335 lv [] μ := by
  intro n
  induction n with
  | zero => intro v1 v3 v4 μ lv hl0 hl1 hl3 hl4 hf; cases (show none = some _ from hf)
  | succ n ih =>
    intro v1 v3 v4 μ lv hl0 hl1 hl3 hl4 hf
    unfold f_M_digest_L335 at hf
    refine g_iload C d_M_digest_335 hl4 ?_
    refine g_aload_n C d_M_digest_337 rfl hl0 ?_
    refine g_getR (b := 2) (k := 5) C k_M (by decide) fl_M_13 rfl rfl d_M_digest_338 ?_
    refine g_iload_n C d_M_digest_341 rfl hl3 ?_
    refine g_iald C rfl d_M_digest_342 hf (fun hf => ?_)
    refine g_icmp_ge (tgt := 367) C d_M_digest_343 (by decide) hf (fun c40 hf => ?_) (fun c40 hf => ?_)
    · exact t_M_digest_B367 C N _ hk312 _ _ _ _ hl0 hl1 hl3 hf
    · refine g_ldc2 C cl_M_356 d_M_digest_346 ?_
      refine g_lload_n C d_M_digest_349 rfl hl1 ?_
      refine g_lmul C d_M_digest_350 ?_
      refine g_aload_n C d_M_digest_351 rfl hl0 ?_
      refine g_iload_n C d_M_digest_352 rfl hl3 ?_
      refine g_iload C d_M_digest_353 hl4 ?_
      refine g_cvI C k_M rfl mv_M_at ml_M_139 d_M_digest_355 hf (fun r μ1 h => t_M_at C.2.2.2.2.2.2.2.2.1 h) rfl rfl (by decide) (Nat.le_of_ble_eq_true rfl) (fun r42 μ41 hf => ?_)
      refine g_i2l C d_M_digest_358 ?_
      refine g_ladd C d_M_digest_359 ?_
      refine g_lstore_n C d_M_digest_360 rfl (by decide) ?_
      refine g_iinc (v := 1) C d_M_digest_361 (upG hl4 rfl) (by decide) (by decide) ?_
      refine g_goto (tgt := 335) C d_M_digest_364 (by decide) ?_
      exact ih _ _ _ _ _ ((upG (upG hl0 rfl) rfl)) ((upG upS rfl)) ((upG (upG hl3 rfl) rfl)) upS hf
set_option maxHeartbeats 4000000 in
theorem t_M_digest_L312 {ad : Nat → Nat} {dA : Nat → ClassId} {D : va_G} {p : Program} {l : Launch} {e : Env} {s : State} {m : MethodId} {args : Array Value} {below : List Frame} {meth : Method} {c : Code} {r : Int64} {μ' : Mm} (C : Cx CLS SHM ad dA D p s m args meth c c_M_digest 6 R_M (some .long)) (N : Nat)   : ∀ (n : Nat) (v1 : Int64) (v3 : Int32) (μ : Mm) (lv : Nat → Option Value), lv 0 = some (.ref (ad 0)) → lv 1 = some (.long v1) → lv 3 = some (.int v3) → f_M_digest_L312 N n v1 v3 μ = some (r, μ') → Go CLS SHM ad dA D p l e (rmD 6) s m args below meth c 6 (some (.long r)) μ' 312 lv [] μ := by
  intro n
  induction n with
  | zero => intro v1 v3 μ lv hl0 hl1 hl3 hf; cases (show none = some _ from hf)
  | succ n ih =>
    intro v1 v3 μ lv hl0 hl1 hl3 hf
    unfold f_M_digest_L312 at hf
    refine g_iload_n C d_M_digest_312 rfl hl3 ?_
    refine g_bipush (v := 8) C d_M_digest_313 (by decide) ?_
    refine g_icmp_ge (tgt := 373) C d_M_digest_315 (by decide) hf (fun c38 hf => ?_) (fun c38 hf => ?_)
    · refine g_lload_n C d_M_digest_373 rfl hl1 ?_
      exact g_lret C d_M_digest_374 hf
    · refine g_ldc2 C cl_M_356 d_M_digest_318 ?_
      refine g_lload_n C d_M_digest_321 rfl hl1 ?_
      refine g_lmul C d_M_digest_322 ?_
      refine g_aload_n C d_M_digest_323 rfl hl0 ?_
      refine g_getR (b := 2) (k := 5) C k_M (by decide) fl_M_13 rfl rfl d_M_digest_324 ?_
      refine g_iload_n C d_M_digest_327 rfl hl3 ?_
      refine g_iald C rfl d_M_digest_328 hf (fun hf => ?_)
      refine g_i2l C d_M_digest_329 ?_
      refine g_ladd C d_M_digest_330 ?_
      refine g_lstore_n C d_M_digest_331 rfl (by decide) ?_
      refine g_iconst (v := 0) C d_M_digest_332 (by decide) ?_
      refine g_istore C d_M_digest_333 (by decide) ?_
      exact t_M_digest_L335 C N _ ih N _ _ _ _ _ ((upG (upG hl0 rfl) rfl)) ((upG upS rfl)) ((upG (upG hl3 rfl) rfl)) upS hf
set_option maxHeartbeats 4000000 in
theorem t_M_digest_B310 {ad : Nat → Nat} {dA : Nat → ClassId} {D : va_G} {p : Program} {l : Launch} {e : Env} {s : State} {m : MethodId} {args : Array Value} {below : List Frame} {meth : Method} {c : Code} {r : Int64} {μ' : Mm} (C : Cx CLS SHM ad dA D p s m args meth c c_M_digest 6 R_M (some .long)) (N : Nat)   : ∀ (v1 : Int64) (μ : Mm) (lv : Nat → Option Value), lv 0 = some (.ref (ad 0)) → lv 1 = some (.long v1) → f_M_digest_B310 N v1 μ = some (r, μ') → Go CLS SHM ad dA D p l e (rmD 6) s m args below meth c 6 (some (.long r)) μ' 310 lv [] μ := by
  intro v1 μ lv hl0 hl1 hf
  unfold f_M_digest_B310 at hf
  refine g_iconst (v := 0) C d_M_digest_310 (by decide) ?_
  refine g_istore_n C d_M_digest_311 rfl (by decide) ?_
  exact t_M_digest_L312 C N N _ _ _ _ ((upG hl0 rfl)) ((upG hl1 rfl)) upS hf
set_option maxHeartbeats 4000000 in
theorem t_M_digest_B304 {ad : Nat → Nat} {dA : Nat → ClassId} {D : va_G} {p : Program} {l : Launch} {e : Env} {s : State} {m : MethodId} {args : Array Value} {below : List Frame} {meth : Method} {c : Code} {r : Int64} {μ' : Mm} (C : Cx CLS SHM ad dA D p s m args meth c c_M_digest 6 R_M (some .long)) (N : Nat)   (k161 : Int64 → Int32 → Mm → Option (Int64 × Mm)) (hk161 : ∀ (v1 : Int64) (v3 : Int32) (μ : Mm) (lv : Nat → Option Value), lv 0 = some (.ref (ad 0)) → lv 1 = some (.long v1) → lv 3 = some (.int v3) → k161 v1 v3 μ = some (r, μ') → Go CLS SHM ad dA D p l e (rmD 6) s m args below meth c 6 (some (.long r)) μ' 161 lv [] μ) : ∀ (v1 : Int64) (v3 : Int32) (μ : Mm) (lv : Nat → Option Value), lv 0 = some (.ref (ad 0)) → lv 1 = some (.long v1) → lv 3 = some (.int v3) → f_M_digest_B304 N k161 v1 v3 μ = some (r, μ') → Go CLS SHM ad dA D p l e (rmD 6) s m args below meth c 6 (some (.long r)) μ' 304 lv [] μ := by
  intro v1 v3 μ lv hl0 hl1 hl3 hf
  unfold f_M_digest_B304 at hf
  refine g_iinc (v := 1) C d_M_digest_304 hl3 (by decide) (by decide) ?_
  refine g_goto (tgt := 161) C d_M_digest_307 (by decide) ?_
  exact hk161 _ _ _ _ ((upG hl0 rfl)) ((upG hl1 rfl)) upS hf
set_option maxHeartbeats 4000000 in
theorem t_M_digest_L272 {ad : Nat → Nat} {dA : Nat → ClassId} {D : va_G} {p : Program} {l : Launch} {e : Env} {s : State} {m : MethodId} {args : Array Value} {below : List Frame} {meth : Method} {c : Code} {r : Int64} {μ' : Mm} (C : Cx CLS SHM ad dA D p s m args meth c c_M_digest 6 R_M (some .long)) (N : Nat)   (k161 : Int64 → Int32 → Mm → Option (Int64 × Mm)) (hk161 : ∀ (v1 : Int64) (v3 : Int32) (μ : Mm) (lv : Nat → Option Value), lv 0 = some (.ref (ad 0)) → lv 1 = some (.long v1) → lv 3 = some (.int v3) → k161 v1 v3 μ = some (r, μ') → Go CLS SHM ad dA D p l e (rmD 6) s m args below meth c 6 (some (.long r)) μ' 161 lv [] μ) : ∀ (n : Nat) (v1 : Int64) (v3 : Int32) (v4 : Int32) (μ : Mm) (lv : Nat → Option Value), lv 0 = some (.ref (ad 0)) → lv 1 = some (.long v1) → lv 3 = some (.int v3) → lv 4 = some (.int v4) → f_M_digest_L272 N k161 n v1 v3 v4 μ = some (r, μ') → Go CLS SHM ad dA D p l e (rmD 6) s m args below meth c 6 (some (.long r)) μ' 272 lv [] μ := by
  intro n
  induction n with
  | zero => intro v1 v3 v4 μ lv hl0 hl1 hl3 hl4 hf; cases (show none = some _ from hf)
  | succ n ih =>
    intro v1 v3 v4 μ lv hl0 hl1 hl3 hl4 hf
    unfold f_M_digest_L272 at hf
    refine g_iload C d_M_digest_272 hl4 ?_
    refine g_aload_n C d_M_digest_274 rfl hl0 ?_
    refine g_getR (b := 17) (k := 23) C k_M (by decide) fl_M_60 rfl rfl d_M_digest_275 ?_
    refine g_iload_n C d_M_digest_278 rfl hl3 ?_
    refine g_iald C rfl d_M_digest_279 hf (fun hf => ?_)
    refine g_icmp_ge (tgt := 304) C d_M_digest_280 (by decide) hf (fun c33 hf => ?_) (fun c33 hf => ?_)
    · exact t_M_digest_B304 C N _ hk161 _ _ _ _ hl0 hl1 hl3 hf
    · refine g_ldc2 C cl_M_356 d_M_digest_283 ?_
      refine g_lload_n C d_M_digest_286 rfl hl1 ?_
      refine g_lmul C d_M_digest_287 ?_
      refine g_aload_n C d_M_digest_288 rfl hl0 ?_
      refine g_iload_n C d_M_digest_289 rfl hl3 ?_
      refine g_iload C d_M_digest_290 hl4 ?_
      refine g_cvI C k_M rfl mv_M_rest ml_M_187 d_M_digest_292 hf (fun r μ1 h => t_M_rest C.2.2.2.2.2.2.2.2.1 h) rfl rfl (by decide) (Nat.le_of_ble_eq_true rfl) (fun r35 μ34 hf => ?_)
      refine g_i2l C d_M_digest_295 ?_
      refine g_ladd C d_M_digest_296 ?_
      refine g_lstore_n C d_M_digest_297 rfl (by decide) ?_
      refine g_iinc (v := 1) C d_M_digest_298 (upG hl4 rfl) (by decide) (by decide) ?_
      refine g_goto (tgt := 272) C d_M_digest_301 (by decide) ?_
      exact ih _ _ _ _ _ ((upG (upG hl0 rfl) rfl)) ((upG upS rfl)) ((upG (upG hl3 rfl) rfl)) upS hf
set_option maxHeartbeats 4000000 in
theorem t_M_digest_B269 {ad : Nat → Nat} {dA : Nat → ClassId} {D : va_G} {p : Program} {l : Launch} {e : Env} {s : State} {m : MethodId} {args : Array Value} {below : List Frame} {meth : Method} {c : Code} {r : Int64} {μ' : Mm} (C : Cx CLS SHM ad dA D p s m args meth c c_M_digest 6 R_M (some .long)) (N : Nat)   (k161 : Int64 → Int32 → Mm → Option (Int64 × Mm)) (hk161 : ∀ (v1 : Int64) (v3 : Int32) (μ : Mm) (lv : Nat → Option Value), lv 0 = some (.ref (ad 0)) → lv 1 = some (.long v1) → lv 3 = some (.int v3) → k161 v1 v3 μ = some (r, μ') → Go CLS SHM ad dA D p l e (rmD 6) s m args below meth c 6 (some (.long r)) μ' 161 lv [] μ) : ∀ (v1 : Int64) (v3 : Int32) (μ : Mm) (lv : Nat → Option Value), lv 0 = some (.ref (ad 0)) → lv 1 = some (.long v1) → lv 3 = some (.int v3) → f_M_digest_B269 N k161 v1 v3 μ = some (r, μ') → Go CLS SHM ad dA D p l e (rmD 6) s m args below meth c 6 (some (.long r)) μ' 269 lv [] μ := by
  intro v1 v3 μ lv hl0 hl1 hl3 hf
  unfold f_M_digest_B269 at hf
  refine g_iconst (v := 0) C d_M_digest_269 (by decide) ?_
  refine g_istore C d_M_digest_270 (by decide) ?_
  exact t_M_digest_L272 C N _ hk161 N _ _ _ _ _ ((upG hl0 rfl)) ((upG hl1 rfl)) ((upG hl3 rfl)) upS hf
set_option maxHeartbeats 4000000 in
theorem t_M_digest_L237 {ad : Nat → Nat} {dA : Nat → ClassId} {D : va_G} {p : Program} {l : Launch} {e : Env} {s : State} {m : MethodId} {args : Array Value} {below : List Frame} {meth : Method} {c : Code} {r : Int64} {μ' : Mm} (C : Cx CLS SHM ad dA D p s m args meth c c_M_digest 6 R_M (some .long)) (N : Nat)   (k161 : Int64 → Int32 → Mm → Option (Int64 × Mm)) (hk161 : ∀ (v1 : Int64) (v3 : Int32) (μ : Mm) (lv : Nat → Option Value), lv 0 = some (.ref (ad 0)) → lv 1 = some (.long v1) → lv 3 = some (.int v3) → k161 v1 v3 μ = some (r, μ') → Go CLS SHM ad dA D p l e (rmD 6) s m args below meth c 6 (some (.long r)) μ' 161 lv [] μ) : ∀ (n : Nat) (v1 : Int64) (v3 : Int32) (v4 : Int32) (μ : Mm) (lv : Nat → Option Value), lv 0 = some (.ref (ad 0)) → lv 1 = some (.long v1) → lv 3 = some (.int v3) → lv 4 = some (.int v4) → f_M_digest_L237 N k161 n v1 v3 v4 μ = some (r, μ') → Go CLS SHM ad dA D p l e (rmD 6) s m args below meth c 6 (some (.long r)) μ' 237 lv [] μ := by
  intro n
  induction n with
  | zero => intro v1 v3 v4 μ lv hl0 hl1 hl3 hl4 hf; cases (show none = some _ from hf)
  | succ n ih =>
    intro v1 v3 v4 μ lv hl0 hl1 hl3 hl4 hf
    unfold f_M_digest_L237 at hf
    refine g_iload C d_M_digest_237 hl4 ?_
    refine g_aload_n C d_M_digest_239 rfl hl0 ?_
    refine g_getR (b := 17) (k := 23) C k_M (by decide) fl_M_60 rfl rfl d_M_digest_240 ?_
    refine g_iload_n C d_M_digest_243 rfl hl3 ?_
    refine g_iald C rfl d_M_digest_244 hf (fun hf => ?_)
    refine g_icmp_ge (tgt := 269) C d_M_digest_245 (by decide) hf (fun c28 hf => ?_) (fun c28 hf => ?_)
    · exact t_M_digest_B269 C N _ hk161 _ _ _ _ hl0 hl1 hl3 hf
    · refine g_ldc2 C cl_M_356 d_M_digest_248 ?_
      refine g_lload_n C d_M_digest_251 rfl hl1 ?_
      refine g_lmul C d_M_digest_252 ?_
      refine g_aload_n C d_M_digest_253 rfl hl0 ?_
      refine g_iload_n C d_M_digest_254 rfl hl3 ?_
      refine g_iload C d_M_digest_255 hl4 ?_
      refine g_cvI C k_M rfl mv_M_post ml_M_172 d_M_digest_257 hf (fun r μ1 h => t_M_post C.2.2.2.2.2.2.2.2.1 h) rfl rfl (by decide) (Nat.le_of_ble_eq_true rfl) (fun r30 μ29 hf => ?_)
      refine g_i2l C d_M_digest_260 ?_
      refine g_ladd C d_M_digest_261 ?_
      refine g_lstore_n C d_M_digest_262 rfl (by decide) ?_
      refine g_iinc (v := 1) C d_M_digest_263 (upG hl4 rfl) (by decide) (by decide) ?_
      refine g_goto (tgt := 237) C d_M_digest_266 (by decide) ?_
      exact ih _ _ _ _ _ ((upG (upG hl0 rfl) rfl)) ((upG upS rfl)) ((upG (upG hl3 rfl) rfl)) upS hf
set_option maxHeartbeats 4000000 in
theorem t_M_digest_B220 {ad : Nat → Nat} {dA : Nat → ClassId} {D : va_G} {p : Program} {l : Launch} {e : Env} {s : State} {m : MethodId} {args : Array Value} {below : List Frame} {meth : Method} {c : Code} {r : Int64} {μ' : Mm} (C : Cx CLS SHM ad dA D p s m args meth c c_M_digest 6 R_M (some .long)) (N : Nat)   (k161 : Int64 → Int32 → Mm → Option (Int64 × Mm)) (hk161 : ∀ (v1 : Int64) (v3 : Int32) (μ : Mm) (lv : Nat → Option Value), lv 0 = some (.ref (ad 0)) → lv 1 = some (.long v1) → lv 3 = some (.int v3) → k161 v1 v3 μ = some (r, μ') → Go CLS SHM ad dA D p l e (rmD 6) s m args below meth c 6 (some (.long r)) μ' 161 lv [] μ) : ∀ (v1 : Int64) (v3 : Int32) (μ : Mm) (lv : Nat → Option Value), lv 0 = some (.ref (ad 0)) → lv 1 = some (.long v1) → lv 3 = some (.int v3) → f_M_digest_B220 N k161 v1 v3 μ = some (r, μ') → Go CLS SHM ad dA D p l e (rmD 6) s m args below meth c 6 (some (.long r)) μ' 220 lv [] μ := by
  intro v1 v3 μ lv hl0 hl1 hl3 hf
  unfold f_M_digest_B220 at hf
  refine g_ldc2 C cl_M_356 d_M_digest_220 ?_
  refine g_lload_n C d_M_digest_223 rfl hl1 ?_
  refine g_lmul C d_M_digest_224 ?_
  refine g_aload_n C d_M_digest_225 rfl hl0 ?_
  refine g_getR (b := 20) (k := 26) C k_M (by decide) fl_M_69 rfl rfl d_M_digest_226 ?_
  refine g_iload_n C d_M_digest_229 rfl hl3 ?_
  refine g_iald C rfl d_M_digest_230 hf (fun hf => ?_)
  refine g_i2l C d_M_digest_231 ?_
  refine g_ladd C d_M_digest_232 ?_
  refine g_lstore_n C d_M_digest_233 rfl (by decide) ?_
  refine g_iconst (v := 0) C d_M_digest_234 (by decide) ?_
  refine g_istore C d_M_digest_235 (by decide) ?_
  exact t_M_digest_L237 C N _ hk161 N _ _ _ _ _ ((upG (upG hl0 rfl) rfl)) ((upG upS rfl)) ((upG (upG hl3 rfl) rfl)) upS hf
set_option maxHeartbeats 4000000 in
theorem t_M_digest_L192 {ad : Nat → Nat} {dA : Nat → ClassId} {D : va_G} {p : Program} {l : Launch} {e : Env} {s : State} {m : MethodId} {args : Array Value} {below : List Frame} {meth : Method} {c : Code} {r : Int64} {μ' : Mm} (C : Cx CLS SHM ad dA D p s m args meth c c_M_digest 6 R_M (some .long)) (N : Nat)   (k161 : Int64 → Int32 → Mm → Option (Int64 × Mm)) (hk161 : ∀ (v1 : Int64) (v3 : Int32) (μ : Mm) (lv : Nat → Option Value), lv 0 = some (.ref (ad 0)) → lv 1 = some (.long v1) → lv 3 = some (.int v3) → k161 v1 v3 μ = some (r, μ') → Go CLS SHM ad dA D p l e (rmD 6) s m args below meth c 6 (some (.long r)) μ' 161 lv [] μ) : ∀ (n : Nat) (v1 : Int64) (v3 : Int32) (v4 : Int32) (μ : Mm) (lv : Nat → Option Value), lv 0 = some (.ref (ad 0)) → lv 1 = some (.long v1) → lv 3 = some (.int v3) → lv 4 = some (.int v4) → f_M_digest_L192 N k161 n v1 v3 v4 μ = some (r, μ') → Go CLS SHM ad dA D p l e (rmD 6) s m args below meth c 6 (some (.long r)) μ' 192 lv [] μ := by
  intro n
  induction n with
  | zero => intro v1 v3 v4 μ lv hl0 hl1 hl3 hl4 hf; cases (show none = some _ from hf)
  | succ n ih =>
    intro v1 v3 v4 μ lv hl0 hl1 hl3 hl4 hf
    unfold f_M_digest_L192 at hf
    refine g_iload C d_M_digest_192 hl4 ?_
    refine g_bipush (v := 7) C d_M_digest_194 (by decide) ?_
    refine g_icmp_ge (tgt := 220) C d_M_digest_196 (by decide) hf (fun c22 hf => ?_) (fun c22 hf => ?_)
    · exact t_M_digest_B220 C N _ hk161 _ _ _ _ hl0 hl1 hl3 hf
    · refine g_ldc2 C cl_M_356 d_M_digest_199 ?_
      refine g_lload_n C d_M_digest_202 rfl hl1 ?_
      refine g_lmul C d_M_digest_203 ?_
      refine g_aload_n C d_M_digest_204 rfl hl0 ?_
      refine g_iload_n C d_M_digest_205 rfl hl3 ?_
      refine g_iload C d_M_digest_206 hl4 ?_
      refine g_cvI C k_M rfl mv_M_toldOf ml_M_199 d_M_digest_208 hf (fun r μ1 h => t_M_toldOf C.2.2.2.2.2.2.2.2.1 h) rfl rfl (by decide) (Nat.le_of_ble_eq_true rfl) (fun r24 μ23 hf => ?_)
      refine g_i2l C d_M_digest_211 ?_
      refine g_ladd C d_M_digest_212 ?_
      refine g_lstore_n C d_M_digest_213 rfl (by decide) ?_
      refine g_iinc (v := 1) C d_M_digest_214 (upG hl4 rfl) (by decide) (by decide) ?_
      refine g_goto (tgt := 192) C d_M_digest_217 (by decide) ?_
      exact ih _ _ _ _ _ ((upG (upG hl0 rfl) rfl)) ((upG upS rfl)) ((upG (upG hl3 rfl) rfl)) upS hf
set_option maxHeartbeats 4000000 in
theorem t_M_digest_L161 {ad : Nat → Nat} {dA : Nat → ClassId} {D : va_G} {p : Program} {l : Launch} {e : Env} {s : State} {m : MethodId} {args : Array Value} {below : List Frame} {meth : Method} {c : Code} {r : Int64} {μ' : Mm} (C : Cx CLS SHM ad dA D p s m args meth c c_M_digest 6 R_M (some .long)) (N : Nat)   : ∀ (n : Nat) (v1 : Int64) (v3 : Int32) (μ : Mm) (lv : Nat → Option Value), lv 0 = some (.ref (ad 0)) → lv 1 = some (.long v1) → lv 3 = some (.int v3) → f_M_digest_L161 N n v1 v3 μ = some (r, μ') → Go CLS SHM ad dA D p l e (rmD 6) s m args below meth c 6 (some (.long r)) μ' 161 lv [] μ := by
  intro n
  induction n with
  | zero => intro v1 v3 μ lv hl0 hl1 hl3 hf; cases (show none = some _ from hf)
  | succ n ih =>
    intro v1 v3 μ lv hl0 hl1 hl3 hf
    unfold f_M_digest_L161 at hf
    refine g_iload_n C d_M_digest_161 rfl hl3 ?_
    refine g_aload_n C d_M_digest_162 rfl hl0 ?_
    refine g_getI (k := 15) C k_M (by decide) fl_M_162 rfl rfl d_M_digest_163 ?_
    refine g_icmp_ge (tgt := 310) C d_M_digest_166 (by decide) hf (fun c18 hf => ?_) (fun c18 hf => ?_)
    · exact t_M_digest_B310 C N _ _ _ hl0 hl1 hf
    · refine g_aload_n C d_M_digest_169 rfl hl0 ?_
      refine g_getR (b := 16) (k := 22) C k_M (by decide) fl_M_57 rfl rfl d_M_digest_170 ?_
      refine g_iload_n C d_M_digest_173 rfl hl3 ?_
      refine g_zald C rfl d_M_digest_174 hf (fun hf => ?_)
      refine g_if_eq (tgt := 189) C d_M_digest_175 (by decide) hf (fun c19 hf => ?_) (fun c19 hf => ?_)
      · refine g_iconst (v := 0) C d_M_digest_189 (by decide) ?_
        refine g_istore C d_M_digest_190 (by decide) ?_
        exact t_M_digest_L192 C N _ ih N _ _ _ _ _ ((upG hl0 rfl)) ((upG hl1 rfl)) ((upG hl3 rfl)) upS hf
      · refine g_ldc2 C cl_M_356 d_M_digest_178 ?_
        refine g_lload_n C d_M_digest_181 rfl hl1 ?_
        refine g_lmul C d_M_digest_182 ?_
        refine g_lconst (v := 1) C d_M_digest_183 (by decide) ?_
        refine g_lsub C d_M_digest_184 ?_
        refine g_lstore_n C d_M_digest_185 rfl (by decide) ?_
        refine g_goto (tgt := 304) C d_M_digest_186 (by decide) ?_
        exact t_M_digest_B304 C N _ ih _ _ _ _ ((upG hl0 rfl)) upS ((upG hl3 rfl)) hf
set_option maxHeartbeats 4000000 in
theorem t_M_digest_B159 {ad : Nat → Nat} {dA : Nat → ClassId} {D : va_G} {p : Program} {l : Launch} {e : Env} {s : State} {m : MethodId} {args : Array Value} {below : List Frame} {meth : Method} {c : Code} {r : Int64} {μ' : Mm} (C : Cx CLS SHM ad dA D p s m args meth c c_M_digest 6 R_M (some .long)) (N : Nat)   : ∀ (v1 : Int64) (μ : Mm) (lv : Nat → Option Value), lv 0 = some (.ref (ad 0)) → lv 1 = some (.long v1) → f_M_digest_B159 N v1 μ = some (r, μ') → Go CLS SHM ad dA D p l e (rmD 6) s m args below meth c 6 (some (.long r)) μ' 159 lv [] μ := by
  intro v1 μ lv hl0 hl1 hf
  unfold f_M_digest_B159 at hf
  refine g_iconst (v := 0) C d_M_digest_159 (by decide) ?_
  refine g_istore_n C d_M_digest_160 rfl (by decide) ?_
  exact t_M_digest_L161 C N N _ _ _ _ ((upG hl0 rfl)) ((upG hl1 rfl)) upS hf
set_option maxHeartbeats 4000000 in
theorem t_M_digest_B150 {ad : Nat → Nat} {dA : Nat → ClassId} {D : va_G} {p : Program} {l : Launch} {e : Env} {s : State} {m : MethodId} {args : Array Value} {below : List Frame} {meth : Method} {c : Code} {r : Int64} {μ' : Mm} (C : Cx CLS SHM ad dA D p s m args meth c c_M_digest 6 R_M (some .long)) (N : Nat)   (k114 : Int64 → Int32 → Mm → Option (Int64 × Mm)) (hk114 : ∀ (v1 : Int64) (v3 : Int32) (μ : Mm) (lv : Nat → Option Value), lv 0 = some (.ref (ad 0)) → lv 1 = some (.long v1) → lv 3 = some (.int v3) → k114 v1 v3 μ = some (r, μ') → Go CLS SHM ad dA D p l e (rmD 6) s m args below meth c 6 (some (.long r)) μ' 114 lv [] μ) : ∀ (v3 : Int32) (s0 : Int64) (s1 : Int32) (μ : Mm) (lv : Nat → Option Value), lv 0 = some (.ref (ad 0)) → lv 3 = some (.int v3) → f_M_digest_B150 N k114 v3 s0 s1 μ = some (r, μ') → Go CLS SHM ad dA D p l e (rmD 6) s m args below meth c 6 (some (.long r)) μ' 150 lv [.int s1, .long s0] μ := by
  intro v3 s0 s1 μ lv hl0 hl3 hf
  unfold f_M_digest_B150 at hf
  refine g_i2l C d_M_digest_150 ?_
  refine g_ladd C d_M_digest_151 ?_
  refine g_lstore_n C d_M_digest_152 rfl (by decide) ?_
  refine g_iinc (v := 1) C d_M_digest_153 (upG hl3 rfl) (by decide) (by decide) ?_
  refine g_goto (tgt := 114) C d_M_digest_156 (by decide) ?_
  exact hk114 _ _ _ _ ((upG (upG hl0 rfl) rfl)) ((upG upS rfl)) upS hf
set_option maxHeartbeats 4000000 in
theorem t_M_digest_L114 {ad : Nat → Nat} {dA : Nat → ClassId} {D : va_G} {p : Program} {l : Launch} {e : Env} {s : State} {m : MethodId} {args : Array Value} {below : List Frame} {meth : Method} {c : Code} {r : Int64} {μ' : Mm} (C : Cx CLS SHM ad dA D p s m args meth c c_M_digest 6 R_M (some .long)) (N : Nat)   : ∀ (n : Nat) (v1 : Int64) (v3 : Int32) (μ : Mm) (lv : Nat → Option Value), lv 0 = some (.ref (ad 0)) → lv 1 = some (.long v1) → lv 3 = some (.int v3) → f_M_digest_L114 N n v1 v3 μ = some (r, μ') → Go CLS SHM ad dA D p l e (rmD 6) s m args below meth c 6 (some (.long r)) μ' 114 lv [] μ := by
  intro n
  induction n with
  | zero => intro v1 v3 μ lv hl0 hl1 hl3 hf; cases (show none = some _ from hf)
  | succ n ih =>
    intro v1 v3 μ lv hl0 hl1 hl3 hf
    unfold f_M_digest_L114 at hf
    refine g_iload_n C d_M_digest_114 rfl hl3 ?_
    refine g_aload_n C d_M_digest_115 rfl hl0 ?_
    refine g_getI (k := 9) C k_M (by decide) fl_M_111 rfl rfl d_M_digest_116 ?_
    refine g_icmp_ge (tgt := 159) C d_M_digest_119 (by decide) hf (fun c14 hf => ?_) (fun c14 hf => ?_)
    · exact t_M_digest_B159 C N _ _ _ hl0 hl1 hf
    · refine g_ldc2 C cl_M_356 d_M_digest_122 ?_
      refine g_lload_n C d_M_digest_125 rfl hl1 ?_
      refine g_lmul C d_M_digest_126 ?_
      refine g_aload_n C d_M_digest_127 rfl hl0 ?_
      refine g_getR (b := 7) (k := 12) C k_M (by decide) fl_M_30 rfl rfl d_M_digest_128 ?_
      refine g_iload_n C d_M_digest_131 rfl hl3 ?_
      refine g_iald C rfl d_M_digest_132 hf (fun hf => ?_)
      refine g_i2l C d_M_digest_133 ?_
      refine g_ladd C d_M_digest_134 ?_
      refine g_aload_n C d_M_digest_135 rfl hl0 ?_
      refine g_getR (b := 8) (k := 13) C k_M (by decide) fl_M_33 rfl rfl d_M_digest_136 ?_
      refine g_iload_n C d_M_digest_139 rfl hl3 ?_
      refine g_zald C rfl d_M_digest_140 hf (fun hf => ?_)
      refine g_if_eq (tgt := 149) C d_M_digest_141 (by decide) hf (fun c15 hf => ?_) (fun c15 hf => ?_)
      · refine g_iconst (v := 0) C d_M_digest_149 (by decide) ?_
        exact t_M_digest_B150 C N _ ih _ _ _ _ _ hl0 hl3 hf
      · refine g_bipush (v := 10) C d_M_digest_144 (by decide) ?_
        refine g_goto (tgt := 150) C d_M_digest_146 (by decide) ?_
        exact t_M_digest_B150 C N _ ih _ _ _ _ _ hl0 hl3 hf
set_option maxHeartbeats 4000000 in
theorem t_M_digest_B112 {ad : Nat → Nat} {dA : Nat → ClassId} {D : va_G} {p : Program} {l : Launch} {e : Env} {s : State} {m : MethodId} {args : Array Value} {below : List Frame} {meth : Method} {c : Code} {r : Int64} {μ' : Mm} (C : Cx CLS SHM ad dA D p s m args meth c c_M_digest 6 R_M (some .long)) (N : Nat)   : ∀ (v1 : Int64) (μ : Mm) (lv : Nat → Option Value), lv 0 = some (.ref (ad 0)) → lv 1 = some (.long v1) → f_M_digest_B112 N v1 μ = some (r, μ') → Go CLS SHM ad dA D p l e (rmD 6) s m args below meth c 6 (some (.long r)) μ' 112 lv [] μ := by
  intro v1 μ lv hl0 hl1 hf
  unfold f_M_digest_B112 at hf
  refine g_iconst (v := 0) C d_M_digest_112 (by decide) ?_
  refine g_istore_n C d_M_digest_113 rfl (by decide) ?_
  exact t_M_digest_L114 C N N _ _ _ _ ((upG hl0 rfl)) ((upG hl1 rfl)) upS hf
set_option maxHeartbeats 4000000 in
theorem t_M_digest_B106 {ad : Nat → Nat} {dA : Nat → ClassId} {D : va_G} {p : Program} {l : Launch} {e : Env} {s : State} {m : MethodId} {args : Array Value} {below : List Frame} {meth : Method} {c : Code} {r : Int64} {μ' : Mm} (C : Cx CLS SHM ad dA D p s m args meth c c_M_digest 6 R_M (some .long)) (N : Nat)   (k33 : Int64 → Int32 → Mm → Option (Int64 × Mm)) (hk33 : ∀ (v1 : Int64) (v3 : Int32) (μ : Mm) (lv : Nat → Option Value), lv 0 = some (.ref (ad 0)) → lv 1 = some (.long v1) → lv 3 = some (.int v3) → k33 v1 v3 μ = some (r, μ') → Go CLS SHM ad dA D p l e (rmD 6) s m args below meth c 6 (some (.long r)) μ' 33 lv [] μ) : ∀ (v1 : Int64) (v3 : Int32) (μ : Mm) (lv : Nat → Option Value), lv 0 = some (.ref (ad 0)) → lv 1 = some (.long v1) → lv 3 = some (.int v3) → f_M_digest_B106 N k33 v1 v3 μ = some (r, μ') → Go CLS SHM ad dA D p l e (rmD 6) s m args below meth c 6 (some (.long r)) μ' 106 lv [] μ := by
  intro v1 v3 μ lv hl0 hl1 hl3 hf
  unfold f_M_digest_B106 at hf
  refine g_iinc (v := 1) C d_M_digest_106 hl3 (by decide) (by decide) ?_
  refine g_goto (tgt := 33) C d_M_digest_109 (by decide) ?_
  exact hk33 _ _ _ _ ((upG hl0 rfl)) ((upG hl1 rfl)) upS hf
set_option maxHeartbeats 4000000 in
theorem t_M_digest_B97 {ad : Nat → Nat} {dA : Nat → ClassId} {D : va_G} {p : Program} {l : Launch} {e : Env} {s : State} {m : MethodId} {args : Array Value} {below : List Frame} {meth : Method} {c : Code} {r : Int64} {μ' : Mm} (C : Cx CLS SHM ad dA D p s m args meth c c_M_digest 6 R_M (some .long)) (N : Nat)   (k33 : Int64 → Int32 → Mm → Option (Int64 × Mm)) (hk33 : ∀ (v1 : Int64) (v3 : Int32) (μ : Mm) (lv : Nat → Option Value), lv 0 = some (.ref (ad 0)) → lv 1 = some (.long v1) → lv 3 = some (.int v3) → k33 v1 v3 μ = some (r, μ') → Go CLS SHM ad dA D p l e (rmD 6) s m args below meth c 6 (some (.long r)) μ' 33 lv [] μ) (k46 : Int64 → Int32 → Int32 → Mm → Option (Int64 × Mm)) (hk46 : ∀ (v1 : Int64) (v3 : Int32) (v4 : Int32) (μ : Mm) (lv : Nat → Option Value), lv 0 = some (.ref (ad 0)) → lv 1 = some (.long v1) → lv 3 = some (.int v3) → lv 4 = some (.int v4) → k46 v1 v3 v4 μ = some (r, μ') → Go CLS SHM ad dA D p l e (rmD 6) s m args below meth c 6 (some (.long r)) μ' 46 lv [] μ) : ∀ (v3 : Int32) (v4 : Int32) (s0 : Int64) (s1 : Int32) (μ : Mm) (lv : Nat → Option Value), lv 0 = some (.ref (ad 0)) → lv 3 = some (.int v3) → lv 4 = some (.int v4) → f_M_digest_B97 N k33 k46 v3 v4 s0 s1 μ = some (r, μ') → Go CLS SHM ad dA D p l e (rmD 6) s m args below meth c 6 (some (.long r)) μ' 97 lv [.int s1, .long s0] μ := by
  intro v3 v4 s0 s1 μ lv hl0 hl3 hl4 hf
  unfold f_M_digest_B97 at hf
  refine g_i2l C d_M_digest_97 ?_
  refine g_ladd C d_M_digest_98 ?_
  refine g_lstore_n C d_M_digest_99 rfl (by decide) ?_
  refine g_iinc (v := 1) C d_M_digest_100 (upG hl4 rfl) (by decide) (by decide) ?_
  refine g_goto (tgt := 46) C d_M_digest_103 (by decide) ?_
  exact hk46 _ _ _ _ _ ((upG (upG hl0 rfl) rfl)) ((upG upS rfl)) ((upG (upG hl3 rfl) rfl)) upS hf
set_option maxHeartbeats 4000000 in
theorem t_M_digest_L46 {ad : Nat → Nat} {dA : Nat → ClassId} {D : va_G} {p : Program} {l : Launch} {e : Env} {s : State} {m : MethodId} {args : Array Value} {below : List Frame} {meth : Method} {c : Code} {r : Int64} {μ' : Mm} (C : Cx CLS SHM ad dA D p s m args meth c c_M_digest 6 R_M (some .long)) (N : Nat)   (k33 : Int64 → Int32 → Mm → Option (Int64 × Mm)) (hk33 : ∀ (v1 : Int64) (v3 : Int32) (μ : Mm) (lv : Nat → Option Value), lv 0 = some (.ref (ad 0)) → lv 1 = some (.long v1) → lv 3 = some (.int v3) → k33 v1 v3 μ = some (r, μ') → Go CLS SHM ad dA D p l e (rmD 6) s m args below meth c 6 (some (.long r)) μ' 33 lv [] μ) : ∀ (n : Nat) (v1 : Int64) (v3 : Int32) (v4 : Int32) (μ : Mm) (lv : Nat → Option Value), lv 0 = some (.ref (ad 0)) → lv 1 = some (.long v1) → lv 3 = some (.int v3) → lv 4 = some (.int v4) → f_M_digest_L46 N k33 n v1 v3 v4 μ = some (r, μ') → Go CLS SHM ad dA D p l e (rmD 6) s m args below meth c 6 (some (.long r)) μ' 46 lv [] μ := by
  intro n
  induction n with
  | zero => intro v1 v3 v4 μ lv hl0 hl1 hl3 hl4 hf; cases (show none = some _ from hf)
  | succ n ih =>
    intro v1 v3 v4 μ lv hl0 hl1 hl3 hl4 hf
    unfold f_M_digest_L46 at hf
    refine g_iload C d_M_digest_46 hl4 ?_
    refine g_aload_n C d_M_digest_48 rfl hl0 ?_
    refine g_getI (k := 9) C k_M (by decide) fl_M_111 rfl rfl d_M_digest_49 ?_
    refine g_icmp_ge (tgt := 106) C d_M_digest_52 (by decide) hf (fun c8 hf => ?_) (fun c8 hf => ?_)
    · exact t_M_digest_B106 C N _ hk33 _ _ _ _ hl0 hl1 hl3 hf
    · refine g_bipush (v := 16) C d_M_digest_55 (by decide) ?_
      refine g_iload_n C d_M_digest_57 rfl hl3 ?_
      refine g_imul C d_M_digest_58 ?_
      refine g_iload C d_M_digest_59 hl4 ?_
      refine g_iadd C d_M_digest_61 ?_
      refine g_istore C d_M_digest_62 (by decide) ?_
      refine g_ldc2 C cl_M_356 d_M_digest_64 ?_
      refine g_lload_n C d_M_digest_67 rfl (upG hl1 rfl) ?_
      refine g_lmul C d_M_digest_68 ?_
      refine g_aload_n C d_M_digest_69 rfl (upG hl0 rfl) ?_
      refine g_getR (b := 6) (k := 11) C k_M (by decide) fl_M_26 rfl rfl d_M_digest_70 ?_
      refine g_iload C d_M_digest_73 upS ?_
      refine g_zald C rfl d_M_digest_75 hf (fun hf => ?_)
      refine g_if_eq (tgt := 90) C d_M_digest_76 (by decide) hf (fun c10 hf => ?_) (fun c10 hf => ?_)
      · refine g_aload_n C d_M_digest_90 rfl (upG hl0 rfl) ?_
        refine g_getR (b := 5) (k := 10) C k_M (by decide) fl_M_23 rfl rfl d_M_digest_91 ?_
        refine g_iload C d_M_digest_94 upS ?_
        refine g_iald C rfl d_M_digest_96 hf (fun hf => ?_)
        exact t_M_digest_B97 C N _ hk33 _ ih _ _ _ _ _ _ ((upG hl0 rfl)) ((upG hl3 rfl)) ((upG hl4 rfl)) hf
      · refine g_aload_n C d_M_digest_79 rfl (upG hl0 rfl) ?_
        refine g_getR (b := 5) (k := 10) C k_M (by decide) fl_M_23 rfl rfl d_M_digest_80 ?_
        refine g_iload C d_M_digest_83 upS ?_
        refine g_iald C rfl d_M_digest_85 hf (fun hf => ?_)
        refine g_ineg C d_M_digest_86 ?_
        refine g_goto (tgt := 97) C d_M_digest_87 (by decide) ?_
        exact t_M_digest_B97 C N _ hk33 _ ih _ _ _ _ _ _ ((upG hl0 rfl)) ((upG hl3 rfl)) ((upG hl4 rfl)) hf
set_option maxHeartbeats 4000000 in
theorem t_M_digest_L33 {ad : Nat → Nat} {dA : Nat → ClassId} {D : va_G} {p : Program} {l : Launch} {e : Env} {s : State} {m : MethodId} {args : Array Value} {below : List Frame} {meth : Method} {c : Code} {r : Int64} {μ' : Mm} (C : Cx CLS SHM ad dA D p s m args meth c c_M_digest 6 R_M (some .long)) (N : Nat)   : ∀ (n : Nat) (v1 : Int64) (v3 : Int32) (μ : Mm) (lv : Nat → Option Value), lv 0 = some (.ref (ad 0)) → lv 1 = some (.long v1) → lv 3 = some (.int v3) → f_M_digest_L33 N n v1 v3 μ = some (r, μ') → Go CLS SHM ad dA D p l e (rmD 6) s m args below meth c 6 (some (.long r)) μ' 33 lv [] μ := by
  intro n
  induction n with
  | zero => intro v1 v3 μ lv hl0 hl1 hl3 hf; cases (show none = some _ from hf)
  | succ n ih =>
    intro v1 v3 μ lv hl0 hl1 hl3 hf
    unfold f_M_digest_L33 at hf
    refine g_iload_n C d_M_digest_33 rfl hl3 ?_
    refine g_aload_n C d_M_digest_34 rfl hl0 ?_
    refine g_getI (k := 9) C k_M (by decide) fl_M_111 rfl rfl d_M_digest_35 ?_
    refine g_icmp_ge (tgt := 112) C d_M_digest_38 (by decide) hf (fun c6 hf => ?_) (fun c6 hf => ?_)
    · exact t_M_digest_B112 C N _ _ _ hl0 hl1 hf
    · refine g_iload_n C d_M_digest_41 rfl hl3 ?_
      refine g_iconst (v := 1) C d_M_digest_42 (by decide) ?_
      refine g_iadd C d_M_digest_43 ?_
      refine g_istore C d_M_digest_44 (by decide) ?_
      exact t_M_digest_L46 C N _ ih N _ _ _ _ _ ((upG hl0 rfl)) ((upG hl1 rfl)) ((upG hl3 rfl)) upS hf
set_option maxHeartbeats 4000000 in
theorem t_M_digest_B31 {ad : Nat → Nat} {dA : Nat → ClassId} {D : va_G} {p : Program} {l : Launch} {e : Env} {s : State} {m : MethodId} {args : Array Value} {below : List Frame} {meth : Method} {c : Code} {r : Int64} {μ' : Mm} (C : Cx CLS SHM ad dA D p s m args meth c c_M_digest 6 R_M (some .long)) (N : Nat)   : ∀ (v1 : Int64) (μ : Mm) (lv : Nat → Option Value), lv 0 = some (.ref (ad 0)) → lv 1 = some (.long v1) → f_M_digest_B31 N v1 μ = some (r, μ') → Go CLS SHM ad dA D p l e (rmD 6) s m args below meth c 6 (some (.long r)) μ' 31 lv [] μ := by
  intro v1 μ lv hl0 hl1 hf
  unfold f_M_digest_B31 at hf
  refine g_iconst (v := 0) C d_M_digest_31 (by decide) ?_
  refine g_istore_n C d_M_digest_32 rfl (by decide) ?_
  exact t_M_digest_L33 C N N _ _ _ _ ((upG hl0 rfl)) ((upG hl1 rfl)) upS hf
set_option maxHeartbeats 4000000 in
theorem t_M_digest_L6 {ad : Nat → Nat} {dA : Nat → ClassId} {D : va_G} {p : Program} {l : Launch} {e : Env} {s : State} {m : MethodId} {args : Array Value} {below : List Frame} {meth : Method} {c : Code} {r : Int64} {μ' : Mm} (C : Cx CLS SHM ad dA D p s m args meth c c_M_digest 6 R_M (some .long)) (N : Nat)   : ∀ (n : Nat) (v1 : Int64) (v3 : Int32) (μ : Mm) (lv : Nat → Option Value), lv 0 = some (.ref (ad 0)) → lv 1 = some (.long v1) → lv 3 = some (.int v3) → f_M_digest_L6 N n v1 v3 μ = some (r, μ') → Go CLS SHM ad dA D p l e (rmD 6) s m args below meth c 6 (some (.long r)) μ' 6 lv [] μ := by
  intro n
  induction n with
  | zero => intro v1 v3 μ lv hl0 hl1 hl3 hf; cases (show none = some _ from hf)
  | succ n ih =>
    intro v1 v3 μ lv hl0 hl1 hl3 hf
    unfold f_M_digest_L6 at hf
    refine g_iload_n C d_M_digest_6 rfl hl3 ?_
    refine g_bipush (v := 7) C d_M_digest_7 (by decide) ?_
    refine g_icmp_ge (tgt := 31) C d_M_digest_9 (by decide) hf (fun c1 hf => ?_) (fun c1 hf => ?_)
    · exact t_M_digest_B31 C N _ _ _ hl0 hl1 hf
    · refine g_ldc2 C cl_M_356 d_M_digest_12 ?_
      refine g_lload_n C d_M_digest_15 rfl hl1 ?_
      refine g_lmul C d_M_digest_16 ?_
      refine g_aload_n C d_M_digest_17 rfl hl0 ?_
      refine g_iload_n C d_M_digest_18 rfl hl3 ?_
      refine g_cvI C k_M rfl mv_M_tellsCount ml_M_351 d_M_digest_19 hf (fun r μ1 h => t_M_tellsCount C.2.2.2.2.2.2.2.2.1 h) rfl rfl (by decide) (Nat.le_of_ble_eq_true rfl) (fun r3 μ2 hf => ?_)
      refine g_i2l C d_M_digest_22 ?_
      refine g_ladd C d_M_digest_23 ?_
      refine g_lstore_n C d_M_digest_24 rfl (by decide) ?_
      refine g_iinc (v := 1) C d_M_digest_25 (upG hl3 rfl) (by decide) (by decide) ?_
      refine g_goto (tgt := 6) C d_M_digest_28 (by decide) ?_
      exact ih _ _ _ _ ((upG (upG hl0 rfl) rfl)) ((upG upS rfl)) upS hf
set_option maxHeartbeats 4000000 in
theorem t_M_digest {l : Launch} {ad : Nat → Nat} {dA : Nat → ClassId} {D : va_G} (hi : Inj SHM ad) {N : Nat}   {μ μ' : Mm} {r : Int64} (hf : f_M_digest N  μ = some (r, μ')) : Ct CLS l SHM ad dA D y_M_digest c_M_digest 6 (some .long) 6 [.ref (ad 0)] μ (some (.long r)) μ' := by
  unfold f_M_digest at hf
  refine ct_of (by decide) hi (Nat.le_of_ble_eq_true rfl) ?_
  intro p e s m args below meth c C
  refine g_ldc2 C cl_M_354 d_M_digest_0 ?_
  refine g_lstore_n C d_M_digest_3 rfl (by decide) ?_
  refine g_iconst (v := 0) C d_M_digest_4 (by decide) ?_
  refine g_istore_n C d_M_digest_5 rfl (by decide) ?_
  exact t_M_digest_L6 C N N _ _ _ _ ((upG (upG rfl rfl) rfl)) ((upG upS rfl)) upS hf
