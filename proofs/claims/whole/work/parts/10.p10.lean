set_option maxHeartbeats 4000000 in
theorem t_M_plan_B290 {ad : Nat → Nat} {dA : Nat → ClassId} {D : va_G} {p : Program} {l : Launch} {e : Env} {s : State} {m : MethodId} {args : Array Value} {below : List Frame} {meth : Method} {c : Code} {r : Int32} {μ' : Mm} (C : Cx CLS SHM ad dA D p s m args meth c c_M_plan 9 R_M (some .int)) (N : Nat)   : ∀ (v1 : Int32) (v4 : Int32) (v5 : Int32) (μ : Mm) (lv : Nat → Option Value), lv 0 = some (.ref (ad 0)) → lv 1 = some (.int v1) → lv 4 = some (.int v4) → lv 5 = some (.int v5) → f_M_plan_B290 N v1 v4 v5 μ = some (r, μ') → Go CLS SHM ad dA D p l e (rmD 2) s m args below meth c 9 (some (.int r)) μ' 290 lv [] μ := by
  intro v1 v4 v5 μ lv hl0 hl1 hl4 hl5 hf
  unfold f_M_plan_B290 at hf
  refine g_aload_n C d_M_plan_290 rfl hl0 ?_
  refine g_getR (b := 17) (k := 23) C k_M (by decide) fl_M_60 rfl rfl d_M_plan_291 ?_
  refine g_iload_n C d_M_plan_294 rfl hl1 ?_
  refine g_iload C d_M_plan_295 hl5 ?_
  refine g_iast C rfl d_M_plan_297 hf (fun hf => ?_)
  refine g_aload_n C d_M_plan_298 rfl hl0 ?_
  refine g_getR (b := 20) (k := 26) C k_M (by decide) fl_M_69 rfl rfl d_M_plan_299 ?_
  refine g_iload_n C d_M_plan_302 rfl hl1 ?_
  refine g_iload C d_M_plan_303 hl4 ?_
  refine g_iast C rfl d_M_plan_305 hf (fun hf => ?_)
  refine g_iload C d_M_plan_306 hl5 ?_
  exact g_iret C d_M_plan_308 hf
set_option maxHeartbeats 4000000 in
theorem t_M_plan_B283 {ad : Nat → Nat} {dA : Nat → ClassId} {D : va_G} {p : Program} {l : Launch} {e : Env} {s : State} {m : MethodId} {args : Array Value} {below : List Frame} {meth : Method} {c : Code} {r : Int32} {μ' : Mm} (C : Cx CLS SHM ad dA D p s m args meth c c_M_plan 9 R_M (some .int)) (N : Nat)   (k205 : Int32 → Int32 → Int32 → Int32 → Int32 → Int32 → Mm → Option (Int32 × Mm)) (hk205 : ∀ (v1 : Int32) (v2 : Int32) (v3 : Int32) (v4 : Int32) (v5 : Int32) (v7 : Int32) (μ : Mm) (lv : Nat → Option Value), lv 0 = some (.ref (ad 0)) → lv 1 = some (.int v1) → lv 2 = some (.int v2) → lv 3 = some (.int v3) → lv 4 = some (.int v4) → lv 5 = some (.int v5) → lv 7 = some (.int v7) → k205 v1 v2 v3 v4 v5 v7 μ = some (r, μ') → Go CLS SHM ad dA D p l e (rmD 2) s m args below meth c 9 (some (.int r)) μ' 205 lv [] μ) : ∀ (v1 : Int32) (v2 : Int32) (v3 : Int32) (v4 : Int32) (v5 : Int32) (v7 : Int32) (s1 : Int32) (s2 : Int32) (μ : Mm) (lv : Nat → Option Value), lv 0 = some (.ref (ad 0)) → lv 1 = some (.int v1) → lv 2 = some (.int v2) → lv 3 = some (.int v3) → lv 4 = some (.int v4) → lv 5 = some (.int v5) → lv 7 = some (.int v7) → f_M_plan_B283 N k205 v1 v2 v3 v4 v5 v7 s1 s2 μ = some (r, μ') → Go CLS SHM ad dA D p l e (rmD 2) s m args below meth c 9 (some (.int r)) μ' 283 lv [.int s2, .int s1, .ref (ad 19)] μ := by
  intro v1 v2 v3 v4 v5 v7 s1 s2 μ lv hl0 hl1 hl2 hl3 hl4 hl5 hl7 hf
  unfold f_M_plan_B283 at hf
  refine g_iast C rfl d_M_plan_283 hf (fun hf => ?_)
  refine g_iinc (v := 1) C d_M_plan_284 hl7 (by decide) (by decide) ?_
  refine g_goto (tgt := 205) C d_M_plan_287 (by decide) ?_
  exact hk205 _ _ _ _ _ _ _ _ ((upG hl0 rfl)) ((upG hl1 rfl)) ((upG hl2 rfl)) ((upG hl3 rfl)) ((upG hl4 rfl)) ((upG hl5 rfl)) upS hf
set_option maxHeartbeats 4000000 in
theorem t_M_plan_B240 {ad : Nat → Nat} {dA : Nat → ClassId} {D : va_G} {p : Program} {l : Launch} {e : Env} {s : State} {m : MethodId} {args : Array Value} {below : List Frame} {meth : Method} {c : Code} {r : Int32} {μ' : Mm} (C : Cx CLS SHM ad dA D p s m args meth c c_M_plan 9 R_M (some .int)) (N : Nat)   (k205 : Int32 → Int32 → Int32 → Int32 → Int32 → Int32 → Mm → Option (Int32 × Mm)) (hk205 : ∀ (v1 : Int32) (v2 : Int32) (v3 : Int32) (v4 : Int32) (v5 : Int32) (v7 : Int32) (μ : Mm) (lv : Nat → Option Value), lv 0 = some (.ref (ad 0)) → lv 1 = some (.int v1) → lv 2 = some (.int v2) → lv 3 = some (.int v3) → lv 4 = some (.int v4) → lv 5 = some (.int v5) → lv 7 = some (.int v7) → k205 v1 v2 v3 v4 v5 v7 μ = some (r, μ') → Go CLS SHM ad dA D p l e (rmD 2) s m args below meth c 9 (some (.int r)) μ' 205 lv [] μ) : ∀ (v1 : Int32) (v2 : Int32) (v3 : Int32) (v4 : Int32) (v5 : Int32) (v7 : Int32) (s0 : Int32) (μ : Mm) (lv : Nat → Option Value), lv 0 = some (.ref (ad 0)) → lv 1 = some (.int v1) → lv 2 = some (.int v2) → lv 3 = some (.int v3) → lv 4 = some (.int v4) → lv 5 = some (.int v5) → lv 7 = some (.int v7) → f_M_plan_B240 N k205 v1 v2 v3 v4 v5 v7 s0 μ = some (r, μ') → Go CLS SHM ad dA D p l e (rmD 2) s m args below meth c 9 (some (.int r)) μ' 240 lv [.int s0] μ := by
  intro v1 v2 v3 v4 v5 v7 s0 μ lv hl0 hl1 hl2 hl3 hl4 hl5 hl7 hf
  unfold f_M_plan_B240 at hf
  refine g_istore C d_M_plan_240 (by decide) ?_
  refine g_aload_n C d_M_plan_242 rfl (upG hl0 rfl) ?_
  refine g_getR (b := 18) (k := 24) C k_M (by decide) fl_M_63 rfl rfl d_M_plan_243 ?_
  refine g_bipush (v := 24) C d_M_plan_246 (by decide) ?_
  refine g_iload_n C d_M_plan_248 rfl (upG hl1 rfl) ?_
  refine g_imul C d_M_plan_249 ?_
  refine g_iload C d_M_plan_250 (upG hl7 rfl) ?_
  refine g_iadd C d_M_plan_252 ?_
  refine g_aload_n C d_M_plan_253 rfl (upG hl0 rfl) ?_
  refine g_iload_n C d_M_plan_254 rfl (upG hl2 rfl) ?_
  refine g_iload C d_M_plan_255 (upG hl7 rfl) ?_
  refine g_cvI C k_M rfl mv_M_at ml_M_139 d_M_plan_257 hf (fun r μ1 h => t_M_at C.2.2.2.2.2.2.2.2.1 h) rfl rfl (by decide) (Nat.le_of_ble_eq_true rfl) (fun r50 μ49 hf => ?_)
  refine g_iast C rfl d_M_plan_260 hf (fun hf => ?_)
  refine g_aload_n C d_M_plan_261 rfl (upG hl0 rfl) ?_
  refine g_getR (b := 19) (k := 25) C k_M (by decide) fl_M_66 rfl rfl d_M_plan_262 ?_
  refine g_bipush (v := 24) C d_M_plan_265 (by decide) ?_
  refine g_iload_n C d_M_plan_267 rfl (upG hl1 rfl) ?_
  refine g_imul C d_M_plan_268 ?_
  refine g_iload C d_M_plan_269 (upG hl7 rfl) ?_
  refine g_iadd C d_M_plan_271 ?_
  refine g_iload C d_M_plan_272 upS ?_
  refine g_if_ge (tgt := 281) C d_M_plan_274 (by decide) hf (fun c53 hf => ?_) (fun c53 hf => ?_)
  · refine g_iload C d_M_plan_281 upS ?_
    exact t_M_plan_B283 C N _ hk205 _ _ _ _ _ _ _ _ _ _ ((upG hl0 rfl)) ((upG hl1 rfl)) ((upG hl2 rfl)) ((upG hl3 rfl)) ((upG hl4 rfl)) ((upG hl5 rfl)) ((upG hl7 rfl)) hf
  · refine g_iconst (v := 0) C d_M_plan_277 (by decide) ?_
    refine g_goto (tgt := 283) C d_M_plan_278 (by decide) ?_
    exact t_M_plan_B283 C N _ hk205 _ _ _ _ _ _ _ _ _ _ ((upG hl0 rfl)) ((upG hl1 rfl)) ((upG hl2 rfl)) ((upG hl3 rfl)) ((upG hl4 rfl)) ((upG hl5 rfl)) ((upG hl7 rfl)) hf
set_option maxHeartbeats 4000000 in
theorem t_M_plan_B229 {ad : Nat → Nat} {dA : Nat → ClassId} {D : va_G} {p : Program} {l : Launch} {e : Env} {s : State} {m : MethodId} {args : Array Value} {below : List Frame} {meth : Method} {c : Code} {r : Int32} {μ' : Mm} (C : Cx CLS SHM ad dA D p s m args meth c c_M_plan 9 R_M (some .int)) (N : Nat)   (k205 : Int32 → Int32 → Int32 → Int32 → Int32 → Int32 → Mm → Option (Int32 × Mm)) (hk205 : ∀ (v1 : Int32) (v2 : Int32) (v3 : Int32) (v4 : Int32) (v5 : Int32) (v7 : Int32) (μ : Mm) (lv : Nat → Option Value), lv 0 = some (.ref (ad 0)) → lv 1 = some (.int v1) → lv 2 = some (.int v2) → lv 3 = some (.int v3) → lv 4 = some (.int v4) → lv 5 = some (.int v5) → lv 7 = some (.int v7) → k205 v1 v2 v3 v4 v5 v7 μ = some (r, μ') → Go CLS SHM ad dA D p l e (rmD 2) s m args below meth c 9 (some (.int r)) μ' 205 lv [] μ) : ∀ (v1 : Int32) (v2 : Int32) (v3 : Int32) (v4 : Int32) (v5 : Int32) (v7 : Int32) (μ : Mm) (lv : Nat → Option Value), lv 0 = some (.ref (ad 0)) → lv 1 = some (.int v1) → lv 2 = some (.int v2) → lv 3 = some (.int v3) → lv 4 = some (.int v4) → lv 5 = some (.int v5) → lv 7 = some (.int v7) → f_M_plan_B229 N k205 v1 v2 v3 v4 v5 v7 μ = some (r, μ') → Go CLS SHM ad dA D p l e (rmD 2) s m args below meth c 9 (some (.int r)) μ' 229 lv [] μ := by
  intro v1 v2 v3 v4 v5 v7 μ lv hl0 hl1 hl2 hl3 hl4 hl5 hl7 hf
  unfold f_M_plan_B229 at hf
  refine g_iconst (v := 0) C d_M_plan_229 (by decide) ?_
  refine g_goto (tgt := 240) C d_M_plan_230 (by decide) ?_
  exact t_M_plan_B240 C N _ hk205 _ _ _ _ _ _ _ _ _ hl0 hl1 hl2 hl3 hl4 hl5 hl7 hf
set_option maxHeartbeats 4000000 in
theorem t_M_plan_L205 {ad : Nat → Nat} {dA : Nat → ClassId} {D : va_G} {p : Program} {l : Launch} {e : Env} {s : State} {m : MethodId} {args : Array Value} {below : List Frame} {meth : Method} {c : Code} {r : Int32} {μ' : Mm} (C : Cx CLS SHM ad dA D p s m args meth c c_M_plan 9 R_M (some .int)) (N : Nat)   : ∀ (n : Nat) (v1 : Int32) (v2 : Int32) (v3 : Int32) (v4 : Int32) (v5 : Int32) (v7 : Int32) (μ : Mm) (lv : Nat → Option Value), lv 0 = some (.ref (ad 0)) → lv 1 = some (.int v1) → lv 2 = some (.int v2) → lv 3 = some (.int v3) → lv 4 = some (.int v4) → lv 5 = some (.int v5) → lv 7 = some (.int v7) → f_M_plan_L205 N n v1 v2 v3 v4 v5 v7 μ = some (r, μ') → Go CLS SHM ad dA D p l e (rmD 2) s m args below meth c 9 (some (.int r)) μ' 205 lv [] μ := by
  intro n
  induction n with
  | zero => intro v1 v2 v3 v4 v5 v7 μ lv hl0 hl1 hl2 hl3 hl4 hl5 hl7 hf; cases (show none = some _ from hf)
  | succ n ih =>
    intro v1 v2 v3 v4 v5 v7 μ lv hl0 hl1 hl2 hl3 hl4 hl5 hl7 hf
    unfold f_M_plan_L205 at hf
    refine g_iload C d_M_plan_205 hl7 ?_
    refine g_iload C d_M_plan_207 hl5 ?_
    refine g_icmp_ge (tgt := 290) C d_M_plan_209 (by decide) hf (fun c44 hf => ?_) (fun c44 hf => ?_)
    · exact t_M_plan_B290 C N _ _ _ _ _ hl0 hl1 hl4 hl5 hf
    · refine g_iload_n C d_M_plan_212 rfl hl3 ?_
      refine g_bipush (v := -9) C d_M_plan_213 (by decide) ?_
      refine g_icmp_eq (tgt := 229) C d_M_plan_215 (by decide) hf (fun c45 hf => ?_) (fun c45 hf => ?_)
      · exact t_M_plan_B229 C N _ ih _ _ _ _ _ _ _ _ hl0 hl1 hl2 hl3 hl4 hl5 hl7 hf
      · refine g_iload C d_M_plan_218 hl7 ?_
        refine g_aload_n C d_M_plan_220 rfl hl0 ?_
        refine g_getR (b := 2) (k := 5) C k_M (by decide) fl_M_13 rfl rfl d_M_plan_221 ?_
        refine g_iload_n C d_M_plan_224 rfl hl3 ?_
        refine g_iald C rfl d_M_plan_225 hf (fun hf => ?_)
        refine g_icmp_lt (tgt := 233) C d_M_plan_226 (by decide) hf (fun c46 hf => ?_) (fun c46 hf => ?_)
        · refine g_aload_n C d_M_plan_233 rfl hl0 ?_
          refine g_iload_n C d_M_plan_234 rfl hl3 ?_
          refine g_iload C d_M_plan_235 hl7 ?_
          refine g_cvI C k_M rfl mv_M_at ml_M_139 d_M_plan_237 hf (fun r μ1 h => t_M_at C.2.2.2.2.2.2.2.2.1 h) rfl rfl (by decide) (Nat.le_of_ble_eq_true rfl) (fun r48 μ47 hf => ?_)
          exact t_M_plan_B240 C N _ ih _ _ _ _ _ _ _ _ _ hl0 hl1 hl2 hl3 hl4 hl5 hl7 hf
        · exact t_M_plan_B229 C N _ ih _ _ _ _ _ _ _ _ hl0 hl1 hl2 hl3 hl4 hl5 hl7 hf
set_option maxHeartbeats 4000000 in
theorem t_M_plan_B191 {ad : Nat → Nat} {dA : Nat → ClassId} {D : va_G} {p : Program} {l : Launch} {e : Env} {s : State} {m : MethodId} {args : Array Value} {below : List Frame} {meth : Method} {c : Code} {r : Int32} {μ' : Mm} (C : Cx CLS SHM ad dA D p s m args meth c c_M_plan 9 R_M (some .int)) (N : Nat)   : ∀ (v1 : Int32) (v2 : Int32) (v3 : Int32) (v4 : Int32) (v5 : Int32) (v6 : Int32) (μ : Mm) (lv : Nat → Option Value), lv 0 = some (.ref (ad 0)) → lv 1 = some (.int v1) → lv 2 = some (.int v2) → lv 3 = some (.int v3) → lv 4 = some (.int v4) → lv 5 = some (.int v5) → lv 6 = some (.int v6) → f_M_plan_B191 N v1 v2 v3 v4 v5 v6 μ = some (r, μ') → Go CLS SHM ad dA D p l e (rmD 2) s m args below meth c 9 (some (.int r)) μ' 191 lv [] μ := by
  intro v1 v2 v3 v4 v5 v6 μ lv hl0 hl1 hl2 hl3 hl4 hl5 hl6 hf
  unfold f_M_plan_B191 at hf
  refine g_iload C d_M_plan_191 hl6 ?_
  refine g_if_ne (tgt := 202) C d_M_plan_193 (by decide) hf (fun c41 hf => ?_) (fun c41 hf => ?_)
  · refine g_aload_n C d_M_plan_196 rfl hl0 ?_
    refine g_iconst (v := 2) C d_M_plan_197 (by decide) ?_
    refine g_cvI C k_M rfl mv_M_meets ml_M_135 d_M_plan_198 hf (fun r μ1 h => t_M_meets C.2.2.2.2.2.2.2.2.1 h) rfl rfl (by decide) (Nat.le_of_ble_eq_true rfl) (fun r43 μ42 hf => ?_)
    exact g_iret C d_M_plan_201 hf
  · refine g_iconst (v := 0) C d_M_plan_202 (by decide) ?_
    refine g_istore C d_M_plan_203 (by decide) ?_
    exact t_M_plan_L205 C N N _ _ _ _ _ _ _ _ ((upG hl0 rfl)) ((upG hl1 rfl)) ((upG hl2 rfl)) ((upG hl3 rfl)) ((upG hl4 rfl)) ((upG hl5 rfl)) upS hf
set_option maxHeartbeats 4000000 in
theorem t_M_plan_B183 {ad : Nat → Nat} {dA : Nat → ClassId} {D : va_G} {p : Program} {l : Launch} {e : Env} {s : State} {m : MethodId} {args : Array Value} {below : List Frame} {meth : Method} {c : Code} {r : Int32} {μ' : Mm} (C : Cx CLS SHM ad dA D p s m args meth c c_M_plan 9 R_M (some .int)) (N : Nat)   (k128 : Int32 → Int32 → Int32 → Int32 → Int32 → Int32 → Int32 → Mm → Option (Int32 × Mm)) (hk128 : ∀ (v1 : Int32) (v2 : Int32) (v3 : Int32) (v4 : Int32) (v5 : Int32) (v6 : Int32) (v7 : Int32) (μ : Mm) (lv : Nat → Option Value), lv 0 = some (.ref (ad 0)) → lv 1 = some (.int v1) → lv 2 = some (.int v2) → lv 3 = some (.int v3) → lv 4 = some (.int v4) → lv 5 = some (.int v5) → lv 6 = some (.int v6) → lv 7 = some (.int v7) → k128 v1 v2 v3 v4 v5 v6 v7 μ = some (r, μ') → Go CLS SHM ad dA D p l e (rmD 2) s m args below meth c 9 (some (.int r)) μ' 128 lv [] μ) : ∀ (v1 : Int32) (v2 : Int32) (v3 : Int32) (v4 : Int32) (v5 : Int32) (v7 : Int32) (s0 : Int32) (μ : Mm) (lv : Nat → Option Value), lv 0 = some (.ref (ad 0)) → lv 1 = some (.int v1) → lv 2 = some (.int v2) → lv 3 = some (.int v3) → lv 4 = some (.int v4) → lv 5 = some (.int v5) → lv 7 = some (.int v7) → f_M_plan_B183 N k128 v1 v2 v3 v4 v5 v7 s0 μ = some (r, μ') → Go CLS SHM ad dA D p l e (rmD 2) s m args below meth c 9 (some (.int r)) μ' 183 lv [.int s0] μ := by
  intro v1 v2 v3 v4 v5 v7 s0 μ lv hl0 hl1 hl2 hl3 hl4 hl5 hl7 hf
  unfold f_M_plan_B183 at hf
  refine g_istore C d_M_plan_183 (by decide) ?_
  refine g_iinc (v := 1) C d_M_plan_185 (upG hl7 rfl) (by decide) (by decide) ?_
  refine g_goto (tgt := 128) C d_M_plan_188 (by decide) ?_
  exact hk128 _ _ _ _ _ _ _ _ _ ((upG (upG hl0 rfl) rfl)) ((upG (upG hl1 rfl) rfl)) ((upG (upG hl2 rfl) rfl)) ((upG (upG hl3 rfl) rfl)) ((upG (upG hl4 rfl) rfl)) ((upG (upG hl5 rfl) rfl)) ((upG upS rfl)) upS hf
set_option maxHeartbeats 4000000 in
theorem t_M_plan_B182 {ad : Nat → Nat} {dA : Nat → ClassId} {D : va_G} {p : Program} {l : Launch} {e : Env} {s : State} {m : MethodId} {args : Array Value} {below : List Frame} {meth : Method} {c : Code} {r : Int32} {μ' : Mm} (C : Cx CLS SHM ad dA D p s m args meth c c_M_plan 9 R_M (some .int)) (N : Nat)   (k128 : Int32 → Int32 → Int32 → Int32 → Int32 → Int32 → Int32 → Mm → Option (Int32 × Mm)) (hk128 : ∀ (v1 : Int32) (v2 : Int32) (v3 : Int32) (v4 : Int32) (v5 : Int32) (v6 : Int32) (v7 : Int32) (μ : Mm) (lv : Nat → Option Value), lv 0 = some (.ref (ad 0)) → lv 1 = some (.int v1) → lv 2 = some (.int v2) → lv 3 = some (.int v3) → lv 4 = some (.int v4) → lv 5 = some (.int v5) → lv 6 = some (.int v6) → lv 7 = some (.int v7) → k128 v1 v2 v3 v4 v5 v6 v7 μ = some (r, μ') → Go CLS SHM ad dA D p l e (rmD 2) s m args below meth c 9 (some (.int r)) μ' 128 lv [] μ) : ∀ (v1 : Int32) (v2 : Int32) (v3 : Int32) (v4 : Int32) (v5 : Int32) (v7 : Int32) (μ : Mm) (lv : Nat → Option Value), lv 0 = some (.ref (ad 0)) → lv 1 = some (.int v1) → lv 2 = some (.int v2) → lv 3 = some (.int v3) → lv 4 = some (.int v4) → lv 5 = some (.int v5) → lv 7 = some (.int v7) → f_M_plan_B182 N k128 v1 v2 v3 v4 v5 v7 μ = some (r, μ') → Go CLS SHM ad dA D p l e (rmD 2) s m args below meth c 9 (some (.int r)) μ' 182 lv [] μ := by
  intro v1 v2 v3 v4 v5 v7 μ lv hl0 hl1 hl2 hl3 hl4 hl5 hl7 hf
  unfold f_M_plan_B182 at hf
  refine g_iconst (v := 0) C d_M_plan_182 (by decide) ?_
  exact t_M_plan_B183 C N _ hk128 _ _ _ _ _ _ _ _ _ hl0 hl1 hl2 hl3 hl4 hl5 hl7 hf
set_option maxHeartbeats 4000000 in
theorem t_M_plan_L128 {ad : Nat → Nat} {dA : Nat → ClassId} {D : va_G} {p : Program} {l : Launch} {e : Env} {s : State} {m : MethodId} {args : Array Value} {below : List Frame} {meth : Method} {c : Code} {r : Int32} {μ' : Mm} (C : Cx CLS SHM ad dA D p s m args meth c c_M_plan 9 R_M (some .int)) (N : Nat)   : ∀ (n : Nat) (v1 : Int32) (v2 : Int32) (v3 : Int32) (v4 : Int32) (v5 : Int32) (v6 : Int32) (v7 : Int32) (μ : Mm) (lv : Nat → Option Value), lv 0 = some (.ref (ad 0)) → lv 1 = some (.int v1) → lv 2 = some (.int v2) → lv 3 = some (.int v3) → lv 4 = some (.int v4) → lv 5 = some (.int v5) → lv 6 = some (.int v6) → lv 7 = some (.int v7) → f_M_plan_L128 N n v1 v2 v3 v4 v5 v6 v7 μ = some (r, μ') → Go CLS SHM ad dA D p l e (rmD 2) s m args below meth c 9 (some (.int r)) μ' 128 lv [] μ := by
  intro n
  induction n with
  | zero => intro v1 v2 v3 v4 v5 v6 v7 μ lv hl0 hl1 hl2 hl3 hl4 hl5 hl6 hl7 hf; cases (show none = some _ from hf)
  | succ n ih =>
    intro v1 v2 v3 v4 v5 v6 v7 μ lv hl0 hl1 hl2 hl3 hl4 hl5 hl6 hl7 hf
    unfold f_M_plan_L128 at hf
    refine g_iload C d_M_plan_128 hl7 ?_
    refine g_iload C d_M_plan_130 hl5 ?_
    refine g_icmp_ge (tgt := 191) C d_M_plan_132 (by decide) hf (fun c27 hf => ?_) (fun c27 hf => ?_)
    · exact t_M_plan_B191 C N _ _ _ _ _ _ _ _ hl0 hl1 hl2 hl3 hl4 hl5 hl6 hf
    · refine g_iload C d_M_plan_135 hl6 ?_
      refine g_if_eq (tgt := 182) C d_M_plan_137 (by decide) hf (fun c28 hf => ?_) (fun c28 hf => ?_)
      · exact t_M_plan_B182 C N _ ih _ _ _ _ _ _ _ _ hl0 hl1 hl2 hl3 hl4 hl5 hl7 hf
      · refine g_aload_n C d_M_plan_140 rfl hl0 ?_
        refine g_iload_n C d_M_plan_141 rfl hl2 ?_
        refine g_iload C d_M_plan_142 hl7 ?_
        refine g_cvI C k_M rfl mv_M_at ml_M_139 d_M_plan_144 hf (fun r μ1 h => t_M_at C.2.2.2.2.2.2.2.2.1 h) rfl rfl (by decide) (Nat.le_of_ble_eq_true rfl) (fun r30 μ29 hf => ?_)
        refine g_iconst (v := 0) C d_M_plan_147 (by decide) ?_
        refine g_bipush (v := 15) C d_M_plan_148 (by decide) ?_
        refine g_csI C mv_M_in ml_M_117 d_M_plan_150 hf (fun r μ1 h => t_M_in C.2.2.2.2.2.2.2.2.1 h) rfl rfl (by decide) (Nat.le_of_ble_eq_true rfl) (fun r32 μ31 hf => ?_)
        refine g_if_eq (tgt := 182) C d_M_plan_153 (by decide) hf (fun c33 hf => ?_) (fun c33 hf => ?_)
        · exact t_M_plan_B182 C N _ ih _ _ _ _ _ _ _ _ hl0 hl1 hl2 hl3 hl4 hl5 hl7 hf
        · refine g_aload_n C d_M_plan_156 rfl hl0 ?_
          refine g_iload_n C d_M_plan_157 rfl hl2 ?_
          refine g_iload C d_M_plan_158 hl7 ?_
          refine g_cvI C k_M rfl mv_M_at ml_M_139 d_M_plan_160 hf (fun r μ1 h => t_M_at C.2.2.2.2.2.2.2.2.1 h) rfl rfl (by decide) (Nat.le_of_ble_eq_true rfl) (fun r35 μ34 hf => ?_)
          refine g_aload_n C d_M_plan_163 rfl hl0 ?_
          refine g_iload_n C d_M_plan_164 rfl hl2 ?_
          refine g_iload C d_M_plan_165 hl7 ?_
          refine g_iconst (v := 1) C d_M_plan_167 (by decide) ?_
          refine g_iadd C d_M_plan_168 ?_
          refine g_iload C d_M_plan_169 hl5 ?_
          refine g_irem C d_M_plan_171 hf (fun hf => ?_)
          refine g_cvI C k_M rfl mv_M_at ml_M_139 d_M_plan_172 hf (fun r μ1 h => t_M_at C.2.2.2.2.2.2.2.2.1 h) rfl rfl (by decide) (Nat.le_of_ble_eq_true rfl) (fun r38 μ37 hf => ?_)
          refine g_icmp_eq (tgt := 182) C d_M_plan_175 (by decide) hf (fun c39 hf => ?_) (fun c39 hf => ?_)
          · exact t_M_plan_B182 C N _ ih _ _ _ _ _ _ _ _ hl0 hl1 hl2 hl3 hl4 hl5 hl7 hf
          · refine g_iconst (v := 1) C d_M_plan_178 (by decide) ?_
            refine g_goto (tgt := 183) C d_M_plan_179 (by decide) ?_
            exact t_M_plan_B183 C N _ ih _ _ _ _ _ _ _ _ _ hl0 hl1 hl2 hl3 hl4 hl5 hl7 hf
set_option maxHeartbeats 4000000 in
theorem t_M_plan_B81 {ad : Nat → Nat} {dA : Nat → ClassId} {D : va_G} {p : Program} {l : Launch} {e : Env} {s : State} {m : MethodId} {args : Array Value} {below : List Frame} {meth : Method} {c : Code} {r : Int32} {μ' : Mm} (C : Cx CLS SHM ad dA D p s m args meth c c_M_plan 9 R_M (some .int)) (N : Nat)   : ∀ (v1 : Int32) (v2 : Int32) (v3 : Int32) (v4 : Int32) (μ : Mm) (lv : Nat → Option Value), lv 0 = some (.ref (ad 0)) → lv 1 = some (.int v1) → lv 2 = some (.int v2) → lv 3 = some (.int v3) → lv 4 = some (.int v4) → f_M_plan_B81 N v1 v2 v3 v4 μ = some (r, μ') → Go CLS SHM ad dA D p l e (rmD 2) s m args below meth c 9 (some (.int r)) μ' 81 lv [] μ := by
  intro v1 v2 v3 v4 μ lv hl0 hl1 hl2 hl3 hl4 hf
  unfold f_M_plan_B81 at hf
  refine g_aload_n C d_M_plan_81 rfl hl0 ?_
  refine g_getR (b := 10) (k := 16) C k_M (by decide) fl_M_39 rfl rfl d_M_plan_82 ?_
  refine g_iload_n C d_M_plan_85 rfl hl1 ?_
  refine g_iald C rfl d_M_plan_86 hf (fun hf => ?_)
  refine g_iconst (v := 3) C d_M_plan_87 (by decide) ?_
  refine g_icmp_ne (tgt := 97) C d_M_plan_88 (by decide) hf (fun c18 hf => ?_) (fun c18 hf => ?_)
  · refine g_aload_n C d_M_plan_91 rfl hl0 ?_
    refine g_iconst (v := 3) C d_M_plan_92 (by decide) ?_
    refine g_cvI C k_M rfl mv_M_meets ml_M_135 d_M_plan_93 hf (fun r μ1 h => t_M_meets C.2.2.2.2.2.2.2.2.1 h) rfl rfl (by decide) (Nat.le_of_ble_eq_true rfl) (fun r20 μ19 hf => ?_)
    exact g_iret C d_M_plan_96 hf
  · refine g_aload_n C d_M_plan_97 rfl hl0 ?_
    refine g_getR (b := 2) (k := 5) C k_M (by decide) fl_M_13 rfl rfl d_M_plan_98 ?_
    refine g_iload_n C d_M_plan_101 rfl hl2 ?_
    refine g_iald C rfl d_M_plan_102 hf (fun hf => ?_)
    refine g_istore C d_M_plan_103 (by decide) ?_
    refine g_iload C d_M_plan_105 upS ?_
    refine g_iconst (v := 2) C d_M_plan_107 (by decide) ?_
    refine g_bipush (v := 24) C d_M_plan_108 (by decide) ?_
    refine g_csI C mv_M_in ml_M_117 d_M_plan_110 hf (fun r μ1 h => t_M_in C.2.2.2.2.2.2.2.2.1 h) rfl rfl (by decide) (Nat.le_of_ble_eq_true rfl) (fun r23 μ22 hf => ?_)
    refine g_if_ne (tgt := 122) C d_M_plan_113 (by decide) hf (fun c24 hf => ?_) (fun c24 hf => ?_)
    · refine g_aload_n C d_M_plan_116 rfl (upG hl0 rfl) ?_
      refine g_iconst (v := 5) C d_M_plan_117 (by decide) ?_
      refine g_cvI C k_M rfl mv_M_meets ml_M_135 d_M_plan_118 hf (fun r μ1 h => t_M_meets C.2.2.2.2.2.2.2.2.1 h) rfl rfl (by decide) (Nat.le_of_ble_eq_true rfl) (fun r26 μ25 hf => ?_)
      exact g_iret C d_M_plan_121 hf
    · refine g_iconst (v := 1) C d_M_plan_122 (by decide) ?_
      refine g_istore C d_M_plan_123 (by decide) ?_
      refine g_iconst (v := 0) C d_M_plan_125 (by decide) ?_
      refine g_istore C d_M_plan_126 (by decide) ?_
      exact t_M_plan_L128 C N N _ _ _ _ _ _ _ _ _ ((upG (upG (upG hl0 rfl) rfl) rfl)) ((upG (upG (upG hl1 rfl) rfl) rfl)) ((upG (upG (upG hl2 rfl) rfl) rfl)) ((upG (upG (upG hl3 rfl) rfl) rfl)) ((upG (upG (upG hl4 rfl) rfl) rfl)) ((upG (upG upS rfl) rfl)) ((upG upS rfl)) upS hf
set_option maxHeartbeats 4000000 in
theorem t_M_plan_B75 {ad : Nat → Nat} {dA : Nat → ClassId} {D : va_G} {p : Program} {l : Launch} {e : Env} {s : State} {m : MethodId} {args : Array Value} {below : List Frame} {meth : Method} {c : Code} {r : Int32} {μ' : Mm} (C : Cx CLS SHM ad dA D p s m args meth c c_M_plan 9 R_M (some .int)) (N : Nat)   : ∀  (μ : Mm) (lv : Nat → Option Value), lv 0 = some (.ref (ad 0)) → f_M_plan_B75 N μ = some (r, μ') → Go CLS SHM ad dA D p l e (rmD 2) s m args below meth c 9 (some (.int r)) μ' 75 lv [] μ := by
  intro μ lv hl0 hf
  unfold f_M_plan_B75 at hf
  refine g_aload_n C d_M_plan_75 rfl hl0 ?_
  refine g_iconst (v := 1) C d_M_plan_76 (by decide) ?_
  refine g_cvI C k_M rfl mv_M_meets ml_M_135 d_M_plan_77 hf (fun r μ1 h => t_M_meets C.2.2.2.2.2.2.2.2.1 h) rfl rfl (by decide) (Nat.le_of_ble_eq_true rfl) (fun r59 μ58 hf => ?_)
  exact g_iret C d_M_plan_80 hf
set_option maxHeartbeats 4000000 in
theorem t_M_plan_B28 {ad : Nat → Nat} {dA : Nat → ClassId} {D : va_G} {p : Program} {l : Launch} {e : Env} {s : State} {m : MethodId} {args : Array Value} {below : List Frame} {meth : Method} {c : Code} {r : Int32} {μ' : Mm} (C : Cx CLS SHM ad dA D p s m args meth c c_M_plan 9 R_M (some .int)) (N : Nat)   : ∀ (v1 : Int32) (v2 : Int32) (v3 : Int32) (v4 : Int32) (μ : Mm) (lv : Nat → Option Value), lv 0 = some (.ref (ad 0)) → lv 1 = some (.int v1) → lv 2 = some (.int v2) → lv 3 = some (.int v3) → lv 4 = some (.int v4) → f_M_plan_B28 N v1 v2 v3 v4 μ = some (r, μ') → Go CLS SHM ad dA D p l e (rmD 2) s m args below meth c 9 (some (.int r)) μ' 28 lv [] μ := by
  intro v1 v2 v3 v4 μ lv hl0 hl1 hl2 hl3 hl4 hf
  unfold f_M_plan_B28 at hf
  refine g_iload C d_M_plan_28 hl4 ?_
  refine g_iconst (v := 0) C d_M_plan_30 (by decide) ?_
  refine g_sipush (v := 14399) C d_M_plan_31 (by decide) ?_
  refine g_csI C mv_M_in ml_M_117 d_M_plan_34 hf (fun r μ1 h => t_M_in C.2.2.2.2.2.2.2.2.1 h) rfl rfl (by decide) (Nat.le_of_ble_eq_true rfl) (fun r12 μ11 hf => ?_)
  refine g_if_ne (tgt := 42) C d_M_plan_37 (by decide) hf (fun c13 hf => ?_) (fun c13 hf => ?_)
  · refine g_iconst (v := -1) C d_M_plan_40 (by decide) ?_
    exact g_iret C d_M_plan_41 hf
  · refine g_aload_n C d_M_plan_42 rfl hl0 ?_
    refine g_getR (b := 16) (k := 22) C k_M (by decide) fl_M_57 rfl rfl d_M_plan_43 ?_
    refine g_iload_n C d_M_plan_46 rfl hl1 ?_
    refine g_zald C rfl d_M_plan_47 hf (fun hf => ?_)
    refine g_if_ne (tgt := 75) C d_M_plan_48 (by decide) hf (fun c14 hf => ?_) (fun c14 hf => ?_)
    · refine g_aload_n C d_M_plan_51 rfl hl0 ?_
      refine g_getR (b := 2) (k := 5) C k_M (by decide) fl_M_13 rfl rfl d_M_plan_52 ?_
      refine g_iload_n C d_M_plan_55 rfl hl2 ?_
      refine g_iald C rfl d_M_plan_56 hf (fun hf => ?_)
      refine g_if_lt (tgt := 75) C d_M_plan_57 (by decide) hf (fun c15 hf => ?_) (fun c15 hf => ?_)
      · exact t_M_plan_B75 C N _ _ hl0 hf
      · refine g_iload_n C d_M_plan_60 rfl hl3 ?_
        refine g_bipush (v := -9) C d_M_plan_61 (by decide) ?_
        refine g_icmp_eq (tgt := 81) C d_M_plan_63 (by decide) hf (fun c16 hf => ?_) (fun c16 hf => ?_)
        · exact t_M_plan_B81 C N _ _ _ _ _ _ hl0 hl1 hl2 hl3 hl4 hf
        · refine g_aload_n C d_M_plan_66 rfl hl0 ?_
          refine g_getR (b := 2) (k := 5) C k_M (by decide) fl_M_13 rfl rfl d_M_plan_67 ?_
          refine g_iload_n C d_M_plan_70 rfl hl3 ?_
          refine g_iald C rfl d_M_plan_71 hf (fun hf => ?_)
          refine g_if_ge (tgt := 81) C d_M_plan_72 (by decide) hf (fun c17 hf => ?_) (fun c17 hf => ?_)
          · exact t_M_plan_B81 C N _ _ _ _ _ _ hl0 hl1 hl2 hl3 hl4 hf
          · exact t_M_plan_B75 C N _ _ hl0 hf
    · exact t_M_plan_B75 C N _ _ hl0 hf
set_option maxHeartbeats 4000000 in
theorem t_M_plan {l : Launch} {ad : Nat → Nat} {dA : Nat → ClassId} {D : va_G} (hi : Inj SHM ad) {N : Nat} {a1 : Int32} {a2 : Int32} {a3 : Int32} {a4 : Int32}  {μ μ' : Mm} {r : Int32} (hf : f_M_plan N a1 a2 a3 a4 μ = some (r, μ')) : Ct CLS l SHM ad dA D y_M_plan c_M_plan 9 (some .int) 2 [.ref (ad 0), .int a1, .int a2, .int a3, .int a4] μ (some (.int r)) μ' := by
  unfold f_M_plan at hf
  refine ct_of (by decide) hi (Nat.le_of_ble_eq_true rfl) ?_
  intro p e s m args below meth c C
  refine g_aload_n C d_M_plan_0 rfl rfl ?_
  refine g_iload_n C d_M_plan_1 rfl rfl ?_
  refine g_cvI C k_M rfl mv_M_isWalker ml_M_165 d_M_plan_2 hf (fun r μ1 h => t_M_isWalker C.2.2.2.2.2.2.2.2.1 h) rfl rfl (by decide) (Nat.le_of_ble_eq_true rfl) (fun r2 μ1 hf => ?_)
  refine g_if_eq (tgt := 40) C d_M_plan_5 (by decide) hf (fun c3 hf => ?_) (fun c3 hf => ?_)
  · refine g_iconst (v := -1) C d_M_plan_40 (by decide) ?_
    exact g_iret C d_M_plan_41 hf
  · refine g_iload_n C d_M_plan_8 rfl rfl ?_
    refine g_csI C mv_M_isRow ml_M_131 d_M_plan_9 hf (fun r μ1 h => t_M_isRow C.2.2.2.2.2.2.2.2.1 h) rfl rfl (by decide) (Nat.le_of_ble_eq_true rfl) (fun r5 μ4 hf => ?_)
    refine g_if_eq (tgt := 40) C d_M_plan_12 (by decide) hf (fun c6 hf => ?_) (fun c6 hf => ?_)
    · refine g_iconst (v := -1) C d_M_plan_40 (by decide) ?_
      exact g_iret C d_M_plan_41 hf
    · refine g_iload_n C d_M_plan_15 rfl rfl ?_
      refine g_bipush (v := -9) C d_M_plan_16 (by decide) ?_
      refine g_icmp_eq (tgt := 28) C d_M_plan_18 (by decide) hf (fun c7 hf => ?_) (fun c7 hf => ?_)
      · exact t_M_plan_B28 C N _ _ _ _ _ _ rfl rfl rfl rfl rfl hf
      · refine g_iload_n C d_M_plan_21 rfl rfl ?_
        refine g_csI C mv_M_isRow ml_M_131 d_M_plan_22 hf (fun r μ1 h => t_M_isRow C.2.2.2.2.2.2.2.2.1 h) rfl rfl (by decide) (Nat.le_of_ble_eq_true rfl) (fun r9 μ8 hf => ?_)
        refine g_if_eq (tgt := 40) C d_M_plan_25 (by decide) hf (fun c10 hf => ?_) (fun c10 hf => ?_)
        · refine g_iconst (v := -1) C d_M_plan_40 (by decide) ?_
          exact g_iret C d_M_plan_41 hf
        · exact t_M_plan_B28 C N _ _ _ _ _ _ rfl rfl rfl rfl rfl hf
set_option maxHeartbeats 4000000 in
theorem t_M_unplan {l : Launch} {ad : Nat → Nat} {dA : Nat → ClassId} {D : va_G} (hi : Inj SHM ad) {N : Nat} {a1 : Int32}  {μ μ' : Mm} {r : Int32} (hf : f_M_unplan N a1 μ = some (r, μ')) : Ct CLS l SHM ad dA D y_M_unplan c_M_unplan 4 (some .int) 3 [.ref (ad 0), .int a1] μ (some (.int r)) μ' := by
  unfold f_M_unplan at hf
  refine ct_of (by decide) hi (Nat.le_of_ble_eq_true rfl) ?_
  intro p e s m args below meth c C
  refine g_aload_n C d_M_unplan_0 rfl rfl ?_
  refine g_iconst (v := 1) C d_M_unplan_1 (by decide) ?_
  refine g_iload_n C d_M_unplan_2 rfl rfl ?_
  refine g_cvI C k_M rfl mv_M_need ml_M_168 d_M_unplan_3 hf (fun r μ1 h => t_M_need C.2.2.2.2.2.2.2.2.1 h) rfl rfl (by decide) (Nat.le_of_ble_eq_true rfl) (fun r2 μ1 hf => ?_)
  refine g_istore_n C d_M_unplan_6 rfl (by decide) ?_
  refine g_iload_n C d_M_unplan_7 rfl upS ?_
  refine g_if_ge (tgt := 13) C d_M_unplan_8 (by decide) hf (fun c3 hf => ?_) (fun c3 hf => ?_)
  · refine g_aload_n C d_M_unplan_13 rfl (upG rfl rfl) ?_
    refine g_getR (b := 17) (k := 23) C k_M (by decide) fl_M_60 rfl rfl d_M_unplan_14 ?_
    refine g_iload_n C d_M_unplan_17 rfl (upG rfl rfl) ?_
    refine g_iald C rfl d_M_unplan_18 hf (fun hf => ?_)
    refine g_istore_n C d_M_unplan_19 rfl (by decide) ?_
    refine g_aload_n C d_M_unplan_20 rfl (upG (upG rfl rfl) rfl) ?_
    refine g_getR (b := 17) (k := 23) C k_M (by decide) fl_M_60 rfl rfl d_M_unplan_21 ?_
    refine g_iload_n C d_M_unplan_24 rfl (upG (upG rfl rfl) rfl) ?_
    refine g_iconst (v := 0) C d_M_unplan_25 (by decide) ?_
    refine g_iast C rfl d_M_unplan_26 hf (fun hf => ?_)
    refine g_aload_n C d_M_unplan_27 rfl (upG (upG rfl rfl) rfl) ?_
    refine g_getR (b := 20) (k := 26) C k_M (by decide) fl_M_69 rfl rfl d_M_unplan_28 ?_
    refine g_iload_n C d_M_unplan_31 rfl (upG (upG rfl rfl) rfl) ?_
    refine g_bipush (v := -9) C d_M_unplan_32 (by decide) ?_
    refine g_iast C rfl d_M_unplan_34 hf (fun hf => ?_)
    refine g_iload_n C d_M_unplan_35 rfl upS ?_
    exact g_iret C d_M_unplan_36 hf
  · refine g_iload_n C d_M_unplan_11 rfl upS ?_
    exact g_iret C d_M_unplan_12 hf
set_option maxHeartbeats 4000000 in
theorem t_M_planned {l : Launch} {ad : Nat → Nat} {dA : Nat → ClassId} {D : va_G} (hi : Inj SHM ad) {N : Nat} {a1 : Int32} {a2 : Int32} {a3 : Int32}  {μ μ' : Mm} {r : Int32} (hf : f_M_planned N a1 a2 a3 μ = some (r, μ')) : Ct CLS l SHM ad dA D y_M_planned c_M_planned 5 (some .int) 3 [.ref (ad 0), .int a1, .int a2, .int a3] μ (some (.int r)) μ' := by
  unfold f_M_planned at hf
  refine ct_of (by decide) hi (Nat.le_of_ble_eq_true rfl) ?_
  intro p e s m args below meth c C
  refine g_aload_n C d_M_planned_0 rfl rfl ?_
  refine g_iconst (v := 1) C d_M_planned_1 (by decide) ?_
  refine g_iload_n C d_M_planned_2 rfl rfl ?_
  refine g_cvI C k_M rfl mv_M_need ml_M_168 d_M_planned_3 hf (fun r μ1 h => t_M_need C.2.2.2.2.2.2.2.2.1 h) rfl rfl (by decide) (Nat.le_of_ble_eq_true rfl) (fun r2 μ1 hf => ?_)
  refine g_istore C d_M_planned_6 (by decide) ?_
  refine g_iload C d_M_planned_8 upS ?_
  refine g_if_ge (tgt := 16) C d_M_planned_10 (by decide) hf (fun c3 hf => ?_) (fun c3 hf => ?_)
  · refine g_iload_n C d_M_planned_16 rfl (upG rfl rfl) ?_
    refine g_iconst (v := 0) C d_M_planned_17 (by decide) ?_
    refine g_aload_n C d_M_planned_18 rfl (upG rfl rfl) ?_
    refine g_getR (b := 17) (k := 23) C k_M (by decide) fl_M_60 rfl rfl d_M_planned_19 ?_
    refine g_iload_n C d_M_planned_22 rfl (upG rfl rfl) ?_
    refine g_iald C rfl d_M_planned_23 hf (fun hf => ?_)
    refine g_iconst (v := 1) C d_M_planned_24 (by decide) ?_
    refine g_isub C d_M_planned_25 ?_
    refine g_csI C mv_M_in ml_M_117 d_M_planned_26 hf (fun r μ1 h => t_M_in C.2.2.2.2.2.2.2.2.1 h) rfl rfl (by decide) (Nat.le_of_ble_eq_true rfl) (fun r5 μ4 hf => ?_)
    refine g_if_ne (tgt := 40) C d_M_planned_29 (by decide) hf (fun c6 hf => ?_) (fun c6 hf => ?_)
    · refine g_aload_n C d_M_planned_32 rfl (upG rfl rfl) ?_
      refine g_iconst (v := 2) C d_M_planned_33 (by decide) ?_
      refine g_cvI C k_M rfl mv_M_meets ml_M_135 d_M_planned_34 hf (fun r μ1 h => t_M_meets C.2.2.2.2.2.2.2.2.1 h) rfl rfl (by decide) (Nat.le_of_ble_eq_true rfl) (fun r8 μ7 hf => ?_)
      refine g_goto (tgt := 59) C d_M_planned_37 (by decide) ?_
      exact g_iret C d_M_planned_59 hf
    · refine g_iload_n C d_M_planned_40 rfl (upG rfl rfl) ?_
      refine g_if_eq (tgt := 53) C d_M_planned_41 (by decide) hf (fun c9 hf => ?_) (fun c9 hf => ?_)
      · refine g_aload_n C d_M_planned_53 rfl (upG rfl rfl) ?_
        refine g_iload_n C d_M_planned_54 rfl (upG rfl rfl) ?_
        refine g_iload_n C d_M_planned_55 rfl (upG rfl rfl) ?_
        refine g_cvI C k_M rfl mv_M_post ml_M_172 d_M_planned_56 hf (fun r μ1 h => t_M_post C.2.2.2.2.2.2.2.2.1 h) rfl rfl (by decide) (Nat.le_of_ble_eq_true rfl) (fun r11 μ10 hf => ?_)
        exact g_iret C d_M_planned_59 hf
      · refine g_aload_n C d_M_planned_44 rfl (upG rfl rfl) ?_
        refine g_iload_n C d_M_planned_45 rfl (upG rfl rfl) ?_
        refine g_iload_n C d_M_planned_46 rfl (upG rfl rfl) ?_
        refine g_cvI C k_M rfl mv_M_rest ml_M_187 d_M_planned_47 hf (fun r μ1 h => t_M_rest C.2.2.2.2.2.2.2.2.1 h) rfl rfl (by decide) (Nat.le_of_ble_eq_true rfl) (fun r13 μ12 hf => ?_)
        refine g_goto (tgt := 59) C d_M_planned_50 (by decide) ?_
        exact g_iret C d_M_planned_59 hf
  · refine g_iload C d_M_planned_13 upS ?_
    exact g_iret C d_M_planned_15 hf
set_option maxHeartbeats 4000000 in
theorem t_M_fit {l : Launch} {ad : Nat → Nat} {dA : Nat → ClassId} {D : va_G} (hi : Inj SHM ad) {N : Nat} {a1 : Int32}  {μ μ' : Mm} {r : Int32} (hf : f_M_fit N a1 μ = some (r, μ')) : Ct CLS l SHM ad dA D y_M_fit c_M_fit 3 (some .int) 4 [.ref (ad 0), .int a1] μ (some (.int r)) μ' := by
  unfold f_M_fit at hf
  refine ct_of (by decide) hi (Nat.le_of_ble_eq_true rfl) ?_
  intro p e s m args below meth c C
  refine g_aload_n C d_M_fit_0 rfl rfl ?_
  refine g_iconst (v := 1) C d_M_fit_1 (by decide) ?_
  refine g_iload_n C d_M_fit_2 rfl rfl ?_
  refine g_cvI C k_M rfl mv_M_need ml_M_168 d_M_fit_3 hf (fun r μ1 h => t_M_need C.2.2.2.2.2.2.2.2.1 h) rfl rfl (by decide) (Nat.le_of_ble_eq_true rfl) (fun r2 μ1 hf => ?_)
  refine g_istore_n C d_M_fit_6 rfl (by decide) ?_
  refine g_iload_n C d_M_fit_7 rfl upS ?_
  refine g_if_ge (tgt := 15) C d_M_fit_8 (by decide) hf (fun c3 hf => ?_) (fun c3 hf => ?_)
  · refine g_aload_n C d_M_fit_15 rfl (upG rfl rfl) ?_
    refine g_iload_n C d_M_fit_16 rfl (upG rfl rfl) ?_
    refine g_cvI C k_M rfl mv_M_whyNot ml_M_184 d_M_fit_17 hf (fun r μ1 h => t_M_whyNot C.2.2.2.2.2.2.2.2.1 h) rfl rfl (by decide) (Nat.le_of_ble_eq_true rfl) (fun r5 μ4 hf => ?_)
    exact g_iret C d_M_fit_20 hf
  · refine g_iload_n C d_M_fit_11 rfl upS ?_
    refine g_goto (tgt := 20) C d_M_fit_12 (by decide) ?_
    exact g_iret C d_M_fit_20 hf
set_option maxHeartbeats 4000000 in
theorem t_M_find_B211 {ad : Nat → Nat} {dA : Nat → ClassId} {D : va_G} {p : Program} {l : Launch} {e : Env} {s : State} {m : MethodId} {args : Array Value} {below : List Frame} {meth : Method} {c : Code} {μ' : Mm} (C : Cx CLS SHM ad dA D p s m args meth c c_M_find 8 R_M (none)) (N : Nat)   (k76 : Int32 → Int32 → Int32 → Int32 → Mm → Option Mm) (hk76 : ∀ (v1 : Int32) (v4 : Int32) (v5 : Int32) (v6 : Int32) (μ : Mm) (lv : Nat → Option Value), lv 0 = some (.ref (ad 0)) → lv 1 = some (.int v1) → lv 4 = some (.int v4) → lv 5 = some (.int v5) → lv 6 = some (.int v6) → k76 v1 v4 v5 v6 μ = some μ' → Go CLS SHM ad dA D p l e (rmD 3) s m args below meth c 8 none μ' 76 lv [] μ) : ∀ (v1 : Int32) (v4 : Int32) (v5 : Int32) (v6 : Int32) (μ : Mm) (lv : Nat → Option Value), lv 0 = some (.ref (ad 0)) → lv 1 = some (.int v1) → lv 4 = some (.int v4) → lv 5 = some (.int v5) → lv 6 = some (.int v6) → f_M_find_B211 N k76 v1 v4 v5 v6 μ = some μ' → Go CLS SHM ad dA D p l e (rmD 3) s m args below meth c 8 none μ' 211 lv [] μ := by
  intro v1 v4 v5 v6 μ lv hl0 hl1 hl4 hl5 hl6 hf
  unfold f_M_find_B211 at hf
  refine g_goto (tgt := 76) C d_M_find_211 (by decide) ?_
  exact hk76 _ _ _ _ _ _ hl0 hl1 hl4 hl5 hl6 hf
set_option maxHeartbeats 4000000 in
theorem t_M_find_L76 {ad : Nat → Nat} {dA : Nat → ClassId} {D : va_G} {p : Program} {l : Launch} {e : Env} {s : State} {m : MethodId} {args : Array Value} {below : List Frame} {meth : Method} {c : Code} {μ' : Mm} (C : Cx CLS SHM ad dA D p s m args meth c c_M_find 8 R_M (none)) (N : Nat)   : ∀ (n : Nat) (v1 : Int32) (v4 : Int32) (v5 : Int32) (v6 : Int32) (μ : Mm) (lv : Nat → Option Value), lv 0 = some (.ref (ad 0)) → lv 1 = some (.int v1) → lv 4 = some (.int v4) → lv 5 = some (.int v5) → lv 6 = some (.int v6) → f_M_find_L76 N n v1 v4 v5 v6 μ = some μ' → Go CLS SHM ad dA D p l e (rmD 3) s m args below meth c 8 none μ' 76 lv [] μ := by
  intro n
  induction n with
  | zero => intro v1 v4 v5 v6 μ lv hl0 hl1 hl4 hl5 hl6 hf; cases (show none = some _ from hf)
  | succ n ih =>
    intro v1 v4 v5 v6 μ lv hl0 hl1 hl4 hl5 hl6 hf
    unfold f_M_find_L76 at hf
    refine g_iload C d_M_find_76 hl6 ?_
    refine g_if_ne (tgt := 214) C d_M_find_78 (by decide) hf (fun c10 hf => ?_) (fun c10 hf => ?_)
    · refine g_aload_n C d_M_find_81 rfl hl0 ?_
      refine g_getR (b := 5) (k := 10) C k_M (by decide) fl_M_23 rfl rfl d_M_find_82 ?_
      refine g_aload_n C d_M_find_85 rfl hl0 ?_
      refine g_iload_n C d_M_find_86 rfl hl1 ?_
      refine g_iload C d_M_find_87 hl5 ?_
      refine g_cvI C k_M rfl mv_M_pair ml_M_175 d_M_find_89 hf (fun r μ1 h => t_M_pair C.2.2.2.2.2.2.2.2.1 h) rfl rfl (by decide) (Nat.le_of_ble_eq_true rfl) (fun r12 μ11 hf => ?_)
      refine g_iald C rfl d_M_find_92 hf (fun hf => ?_)
      refine g_aload_n C d_M_find_93 rfl hl0 ?_
      refine g_iload_n C d_M_find_94 rfl hl1 ?_
      refine g_cvI C k_M rfl mv_M_unitOf ml_M_190 d_M_find_95 hf (fun r μ1 h => t_M_unitOf C.2.2.2.2.2.2.2.2.1 h) rfl rfl (by decide) (Nat.le_of_ble_eq_true rfl) (fun r14 μ13 hf => ?_)
      refine g_imul C d_M_find_98 ?_
      refine g_istore C d_M_find_99 (by decide) ?_
      refine g_aload_n C d_M_find_101 rfl (upG hl0 rfl) ?_
      refine g_aload_n C d_M_find_102 rfl (upG hl0 rfl) ?_
      refine g_iload_n C d_M_find_103 rfl (upG hl1 rfl) ?_
      refine g_iload C d_M_find_104 (upG hl5 rfl) ?_
      refine g_cvI C k_M rfl mv_M_post ml_M_172 d_M_find_106 hf (fun r μ1 h => t_M_post C.2.2.2.2.2.2.2.2.1 h) rfl rfl (by decide) (Nat.le_of_ble_eq_true rfl) (fun r17 μ16 hf => ?_)
      refine g_putI (k := 28) C k_M (by decide) fl_M_205 rfl rfl rfl rfl d_M_find_109 ?_
      refine g_iload C d_M_find_112 (upG hl4 rfl) ?_
      refine g_aload_n C d_M_find_114 rfl (upG hl0 rfl) ?_
      refine g_iload_n C d_M_find_115 rfl (upG hl1 rfl) ?_
      refine g_iload C d_M_find_116 (upG hl5 rfl) ?_
      refine g_cvI C k_M rfl mv_M_rest ml_M_187 d_M_find_118 hf (fun r μ1 h => t_M_rest C.2.2.2.2.2.2.2.2.1 h) rfl rfl (by decide) (Nat.le_of_ble_eq_true rfl) (fun r20 μ19 hf => ?_)
      refine g_icmp_gt (tgt := 138) C d_M_find_121 (by decide) hf (fun c21 hf => ?_) (fun c21 hf => ?_)
      · refine g_iload C d_M_find_138 (upG hl4 rfl) ?_
        refine g_aload_n C d_M_find_140 rfl (upG hl0 rfl) ?_
        refine g_iload_n C d_M_find_141 rfl (upG hl1 rfl) ?_
        refine g_iload C d_M_find_142 (upG hl5 rfl) ?_
        refine g_cvI C k_M rfl mv_M_rest ml_M_187 d_M_find_144 hf (fun r μ1 h => t_M_rest C.2.2.2.2.2.2.2.2.1 h) rfl rfl (by decide) (Nat.le_of_ble_eq_true rfl) (fun r23 μ22 hf => ?_)
        refine g_iload C d_M_find_147 upS ?_
        refine g_iadd C d_M_find_149 ?_
        refine g_icmp_ge (tgt := 193) C d_M_find_150 (by decide) hf (fun c24 hf => ?_) (fun c24 hf => ?_)
        · refine g_iload C d_M_find_193 (upG hl4 rfl) ?_
          refine g_aload_n C d_M_find_195 rfl (upG hl0 rfl) ?_
          refine g_iload_n C d_M_find_196 rfl (upG hl1 rfl) ?_
          refine g_iload C d_M_find_197 (upG hl5 rfl) ?_
          refine g_cvI C k_M rfl mv_M_rest ml_M_187 d_M_find_199 hf (fun r μ1 h => t_M_rest C.2.2.2.2.2.2.2.2.1 h) rfl rfl (by decide) (Nat.le_of_ble_eq_true rfl) (fun r26 μ25 hf => ?_)
          refine g_iload C d_M_find_202 upS ?_
          refine g_iadd C d_M_find_204 ?_
          refine g_isub C d_M_find_205 ?_
          refine g_istore C d_M_find_206 (by decide) ?_
          refine g_iinc (v := 1) C d_M_find_208 (upG (upG hl5 rfl) rfl) (by decide) (by decide) ?_
          exact t_M_find_B211 C N _ ih _ _ _ _ _ _ ((upG (upG (upG hl0 rfl) rfl) rfl)) ((upG (upG (upG hl1 rfl) rfl) rfl)) ((upG upS rfl)) upS ((upG (upG (upG hl6 rfl) rfl) rfl)) hf
        · refine g_aload_n C d_M_find_153 rfl (upG hl0 rfl) ?_
          refine g_aload_n C d_M_find_154 rfl (upG hl0 rfl) ?_
          refine g_iload_n C d_M_find_155 rfl (upG hl1 rfl) ?_
          refine g_iload C d_M_find_156 (upG hl5 rfl) ?_
          refine g_iconst (v := 1) C d_M_find_158 (by decide) ?_
          refine g_iadd C d_M_find_159 ?_
          refine g_aload_n C d_M_find_160 rfl (upG hl0 rfl) ?_
          refine g_getR (b := 17) (k := 23) C k_M (by decide) fl_M_60 rfl rfl d_M_find_161 ?_
          refine g_iload_n C d_M_find_164 rfl (upG hl1 rfl) ?_
          refine g_iald C rfl d_M_find_165 hf (fun hf => ?_)
          refine g_irem C d_M_find_166 hf (fun hf => ?_)
          refine g_cvI C k_M rfl mv_M_post ml_M_172 d_M_find_167 hf (fun r μ1 h => t_M_post C.2.2.2.2.2.2.2.2.1 h) rfl rfl (by decide) (Nat.le_of_ble_eq_true rfl) (fun r32 μ31 hf => ?_)
          refine g_putI (k := 29) C k_M (by decide) fl_M_208 rfl rfl rfl rfl d_M_find_170 ?_
          refine g_aload_n C d_M_find_173 rfl (upG hl0 rfl) ?_
          refine g_iload C d_M_find_174 (upG hl4 rfl) ?_
          refine g_aload_n C d_M_find_176 rfl (upG hl0 rfl) ?_
          refine g_iload_n C d_M_find_177 rfl (upG hl1 rfl) ?_
          refine g_iload C d_M_find_178 (upG hl5 rfl) ?_
          refine g_cvI C k_M rfl mv_M_rest ml_M_187 d_M_find_180 hf (fun r μ1 h => t_M_rest C.2.2.2.2.2.2.2.2.1 h) rfl rfl (by decide) (Nat.le_of_ble_eq_true rfl) (fun r35 μ34 hf => ?_)
          refine g_isub C d_M_find_183 ?_
          refine g_putI (k := 30) C k_M (by decide) fl_M_202 rfl rfl rfl rfl d_M_find_184 ?_
          refine g_iconst (v := 1) C d_M_find_187 (by decide) ?_
          refine g_istore C d_M_find_188 (by decide) ?_
          refine g_goto (tgt := 211) C d_M_find_190 (by decide) ?_
          exact t_M_find_B211 C N _ ih _ _ _ _ _ _ ((upG (upG hl0 rfl) rfl)) ((upG (upG hl1 rfl) rfl)) ((upG (upG hl4 rfl) rfl)) ((upG (upG hl5 rfl) rfl)) upS hf
      · refine g_aload_n C d_M_find_124 rfl (upG hl0 rfl) ?_
        refine g_aload_n C d_M_find_125 rfl (upG hl0 rfl) ?_
        refine g_getI (k := 28) C k_M (by decide) fl_M_205 rfl rfl d_M_find_126 ?_
        refine g_putI (k := 29) C k_M (by decide) fl_M_208 rfl rfl rfl rfl d_M_find_129 ?_
        refine g_iconst (v := 1) C d_M_find_132 (by decide) ?_
        refine g_istore C d_M_find_133 (by decide) ?_
        refine g_goto (tgt := 211) C d_M_find_135 (by decide) ?_
        exact t_M_find_B211 C N _ ih _ _ _ _ _ _ ((upG (upG hl0 rfl) rfl)) ((upG (upG hl1 rfl) rfl)) ((upG (upG hl4 rfl) rfl)) ((upG (upG hl5 rfl) rfl)) upS hf
    · exact g_vret C d_M_find_214 hf
set_option maxHeartbeats 4000000 in
theorem t_M_find_B68 {ad : Nat → Nat} {dA : Nat → ClassId} {D : va_G} {p : Program} {l : Launch} {e : Env} {s : State} {m : MethodId} {args : Array Value} {below : List Frame} {meth : Method} {c : Code} {μ' : Mm} (C : Cx CLS SHM ad dA D p s m args meth c c_M_find 8 R_M (none)) (N : Nat)   : ∀ (v1 : Int32) (s0 : Int32) (μ : Mm) (lv : Nat → Option Value), lv 0 = some (.ref (ad 0)) → lv 1 = some (.int v1) → f_M_find_B68 N v1 s0 μ = some μ' → Go CLS SHM ad dA D p l e (rmD 3) s m args below meth c 8 none μ' 68 lv [.int s0] μ := by
  intro v1 s0 μ lv hl0 hl1 hf
  unfold f_M_find_B68 at hf
  refine g_istore C d_M_find_68 (by decide) ?_
  refine g_iconst (v := 0) C d_M_find_70 (by decide) ?_
  refine g_istore C d_M_find_71 (by decide) ?_
  refine g_iconst (v := 0) C d_M_find_73 (by decide) ?_
  refine g_istore C d_M_find_74 (by decide) ?_
  exact t_M_find_L76 C N N _ _ _ _ _ _ ((upG (upG (upG hl0 rfl) rfl) rfl)) ((upG (upG (upG hl1 rfl) rfl) rfl)) ((upG (upG upS rfl) rfl)) ((upG upS rfl)) upS hf
set_option maxHeartbeats 4000000 in
theorem t_M_find {l : Launch} {ad : Nat → Nat} {dA : Nat → ClassId} {D : va_G} (hi : Inj SHM ad) {N : Nat} {a1 : Int32} {a2 : Int32}  {μ μ' : Mm} (hf : f_M_find N a1 a2 μ = some μ') : Ct CLS l SHM ad dA D y_M_find c_M_find 8 (none) 3 [.ref (ad 0), .int a1, .int a2] μ none μ' := by
  unfold f_M_find at hf
  refine ct_of (by decide) hi (Nat.le_of_ble_eq_true rfl) ?_
  intro p e s m args below meth c C
  refine g_aload_n C d_M_find_0 rfl rfl ?_
  refine g_iconst (v := 0) C d_M_find_1 (by decide) ?_
  refine g_putI (k := 30) C k_M (by decide) fl_M_202 rfl rfl rfl rfl d_M_find_2 ?_
  refine g_aload_n C d_M_find_5 rfl rfl ?_
  refine g_getR (b := 10) (k := 16) C k_M (by decide) fl_M_39 rfl rfl d_M_find_6 ?_
  refine g_iload_n C d_M_find_9 rfl rfl ?_
  refine g_iald C rfl d_M_find_10 hf (fun hf => ?_)
  refine g_iconst (v := 3) C d_M_find_11 (by decide) ?_
  refine g_icmp_ne (tgt := 36) C d_M_find_12 (by decide) hf (fun c2 hf => ?_) (fun c2 hf => ?_)
  · refine g_aload_n C d_M_find_15 rfl rfl ?_
    refine g_aload_n C d_M_find_16 rfl rfl ?_
    refine g_getR (b := 13) (k := 19) C k_M (by decide) fl_M_48 rfl rfl d_M_find_17 ?_
    refine g_iload_n C d_M_find_20 rfl rfl ?_
    refine g_iald C rfl d_M_find_21 hf (fun hf => ?_)
    refine g_putI (k := 28) C k_M (by decide) fl_M_205 rfl rfl rfl rfl d_M_find_22 ?_
    refine g_aload_n C d_M_find_25 rfl rfl ?_
    refine g_aload_n C d_M_find_26 rfl rfl ?_
    refine g_getR (b := 13) (k := 19) C k_M (by decide) fl_M_48 rfl rfl d_M_find_27 ?_
    refine g_iload_n C d_M_find_30 rfl rfl ?_
    refine g_iald C rfl d_M_find_31 hf (fun hf => ?_)
    refine g_putI (k := 29) C k_M (by decide) fl_M_208 rfl rfl rfl rfl d_M_find_32 ?_
    exact g_vret C d_M_find_35 hf
  · refine g_aload_n C d_M_find_36 rfl rfl ?_
    refine g_iload_n C d_M_find_37 rfl rfl ?_
    refine g_cvI C k_M rfl mv_M_periodOf ml_M_196 d_M_find_38 hf (fun r μ1 h => t_M_periodOf C.2.2.2.2.2.2.2.2.1 h) rfl rfl (by decide) (Nat.le_of_ble_eq_true rfl) (fun r6 μ5 hf => ?_)
    refine g_istore_n C d_M_find_41 rfl (by decide) ?_
    refine g_iload_n C d_M_find_42 rfl (upG rfl rfl) ?_
    refine g_aload_n C d_M_find_43 rfl (upG rfl rfl) ?_
    refine g_getR (b := 20) (k := 26) C k_M (by decide) fl_M_69 rfl rfl d_M_find_44 ?_
    refine g_iload_n C d_M_find_47 rfl (upG rfl rfl) ?_
    refine g_iald C rfl d_M_find_48 hf (fun hf => ?_)
    refine g_isub C d_M_find_49 ?_
    refine g_iload_n C d_M_find_50 rfl upS ?_
    refine g_irem C d_M_find_51 hf (fun hf => ?_)
    refine g_istore C d_M_find_52 (by decide) ?_
    refine g_iload C d_M_find_54 upS ?_
    refine g_if_ge (tgt := 66) C d_M_find_56 (by decide) hf (fun c9 hf => ?_) (fun c9 hf => ?_)
    · refine g_iload C d_M_find_66 upS ?_
      exact t_M_find_B68 C N _ _ _ _ ((upG (upG rfl rfl) rfl)) ((upG (upG rfl rfl) rfl)) hf
    · refine g_iload C d_M_find_59 upS ?_
      refine g_iload_n C d_M_find_61 rfl (upG upS rfl) ?_
      refine g_iadd C d_M_find_62 ?_
      refine g_goto (tgt := 68) C d_M_find_63 (by decide) ?_
      exact t_M_find_B68 C N _ _ _ _ ((upG (upG rfl rfl) rfl)) ((upG (upG rfl rfl) rfl)) hf
set_option maxHeartbeats 4000000 in
theorem t_M_where_B25 {ad : Nat → Nat} {dA : Nat → ClassId} {D : va_G} {p : Program} {l : Launch} {e : Env} {s : State} {m : MethodId} {args : Array Value} {below : List Frame} {meth : Method} {c : Code} {r : Int32} {μ' : Mm} (C : Cx CLS SHM ad dA D p s m args meth c c_M_where 5 R_M (some .int)) (N : Nat)   : ∀ (v1 : Int32) (v2 : Int32) (v3 : Int32) (s1 : Int32) (μ : Mm) (lv : Nat → Option Value), lv 0 = some (.ref (ad 0)) → lv 1 = some (.int v1) → lv 2 = some (.int v2) → lv 3 = some (.int v3) → f_M_where_B25 N v1 v2 v3 s1 μ = some (r, μ') → Go CLS SHM ad dA D p l e (rmD 5) s m args below meth c 5 (some (.int r)) μ' 25 lv [.int s1, .ref (ad 0)] μ := by
  intro v1 v2 v3 s1 μ lv hl0 hl1 hl2 hl3 hf
  unfold f_M_where_B25 at hf
  refine g_iload_n C d_M_where_25 rfl hl1 ?_
  refine g_cvI C k_M rfl mv_M_need ml_M_168 d_M_where_26 hf (fun r μ1 h => t_M_need C.2.2.2.2.2.2.2.2.1 h) rfl rfl (by decide) (Nat.le_of_ble_eq_true rfl) (fun r8 μ7 hf => ?_)
  refine g_istore C d_M_where_29 (by decide) ?_
  refine g_iload C d_M_where_31 upS ?_
  refine g_if_ge (tgt := 39) C d_M_where_33 (by decide) hf (fun c9 hf => ?_) (fun c9 hf => ?_)
  · refine g_aload_n C d_M_where_39 rfl (upG hl0 rfl) ?_
    refine g_iload_n C d_M_where_40 rfl (upG hl1 rfl) ?_
    refine g_cvI C k_M rfl mv_M_goes ml_M_193 d_M_where_41 hf (fun r μ1 h => t_M_goes C.2.2.2.2.2.2.2.2.1 h) rfl rfl (by decide) (Nat.le_of_ble_eq_true rfl) (fun r11 μ10 hf => ?_)
    refine g_if_ne (tgt := 50) C d_M_where_44 (by decide) hf (fun c12 hf => ?_) (fun c12 hf => ?_)
    · refine g_bipush (v := -4) C d_M_where_47 (by decide) ?_
      exact g_iret C d_M_where_49 hf
    · refine g_aload_n C d_M_where_50 rfl (upG hl0 rfl) ?_
      refine g_iload_n C d_M_where_51 rfl (upG hl1 rfl) ?_
      refine g_iload_n C d_M_where_52 rfl (upG hl2 rfl) ?_
      refine g_cvV C k_M rfl mv_M_find ml_M_212 d_M_where_53 hf (fun μ1 h => t_M_find C.2.2.2.2.2.2.2.2.1 h) rfl rfl (by decide) (Nat.le_of_ble_eq_true rfl) (fun μ13 hf => ?_)
      refine g_iload_n C d_M_where_56 rfl (upG hl3 rfl) ?_
      refine g_if_ne (tgt := 67) C d_M_where_57 (by decide) hf (fun c14 hf => ?_) (fun c14 hf => ?_)
      · refine g_aload_n C d_M_where_60 rfl (upG hl0 rfl) ?_
        refine g_getI (k := 28) C k_M (by decide) fl_M_205 rfl rfl d_M_where_61 ?_
        refine g_goto (tgt := 83) C d_M_where_64 (by decide) ?_
        exact g_iret C d_M_where_83 hf
      · refine g_iload_n C d_M_where_67 rfl (upG hl3 rfl) ?_
        refine g_iconst (v := 1) C d_M_where_68 (by decide) ?_
        refine g_icmp_ne (tgt := 79) C d_M_where_69 (by decide) hf (fun c15 hf => ?_) (fun c15 hf => ?_)
        · refine g_aload_n C d_M_where_72 rfl (upG hl0 rfl) ?_
          refine g_getI (k := 29) C k_M (by decide) fl_M_208 rfl rfl d_M_where_73 ?_
          refine g_goto (tgt := 83) C d_M_where_76 (by decide) ?_
          exact g_iret C d_M_where_83 hf
        · refine g_aload_n C d_M_where_79 rfl (upG hl0 rfl) ?_
          refine g_getI (k := 30) C k_M (by decide) fl_M_202 rfl rfl d_M_where_80 ?_
          exact g_iret C d_M_where_83 hf
  · refine g_iload C d_M_where_36 upS ?_
    exact g_iret C d_M_where_38 hf
set_option maxHeartbeats 4000000 in
theorem t_M_where_B24 {ad : Nat → Nat} {dA : Nat → ClassId} {D : va_G} {p : Program} {l : Launch} {e : Env} {s : State} {m : MethodId} {args : Array Value} {below : List Frame} {meth : Method} {c : Code} {r : Int32} {μ' : Mm} (C : Cx CLS SHM ad dA D p s m args meth c c_M_where 5 R_M (some .int)) (N : Nat)   : ∀ (v1 : Int32) (v2 : Int32) (v3 : Int32) (μ : Mm) (lv : Nat → Option Value), lv 0 = some (.ref (ad 0)) → lv 1 = some (.int v1) → lv 2 = some (.int v2) → lv 3 = some (.int v3) → f_M_where_B24 N v1 v2 v3 μ = some (r, μ') → Go CLS SHM ad dA D p l e (rmD 5) s m args below meth c 5 (some (.int r)) μ' 24 lv [.ref (ad 0)] μ := by
  intro v1 v2 v3 μ lv hl0 hl1 hl2 hl3 hf
  unfold f_M_where_B24 at hf
  refine g_iconst (v := 0) C d_M_where_24 (by decide) ?_
  exact t_M_where_B25 C N _ _ _ _ _ _ hl0 hl1 hl2 hl3 hf
set_option maxHeartbeats 4000000 in
theorem t_M_where {l : Launch} {ad : Nat → Nat} {dA : Nat → ClassId} {D : va_G} (hi : Inj SHM ad) {N : Nat} {a1 : Int32} {a2 : Int32} {a3 : Int32}  {μ μ' : Mm} {r : Int32} (hf : f_M_where N a1 a2 a3 μ = some (r, μ')) : Ct CLS l SHM ad dA D y_M_where c_M_where 5 (some .int) 5 [.ref (ad 0), .int a1, .int a2, .int a3] μ (some (.int r)) μ' := by
  unfold f_M_where at hf
  refine ct_of (by decide) hi (Nat.le_of_ble_eq_true rfl) ?_
  intro p e s m args below meth c C
  refine g_aload_n C d_M_where_0 rfl rfl ?_
  refine g_iload_n C d_M_where_1 rfl rfl ?_
  refine g_iconst (v := 0) C d_M_where_2 (by decide) ?_
  refine g_ldc C ck_M_211 d_M_where_3 ?_
  refine g_csI C mv_M_in ml_M_117 d_M_where_5 hf (fun r μ1 h => t_M_in C.2.2.2.2.2.2.2.2.1 h) rfl rfl (by decide) (Nat.le_of_ble_eq_true rfl) (fun r2 μ1 hf => ?_)
  refine g_if_eq (tgt := 24) C d_M_where_8 (by decide) hf (fun c3 hf => ?_) (fun c3 hf => ?_)
  · exact t_M_where_B24 C N _ _ _ _ _ rfl rfl rfl rfl hf
  · refine g_iload_n C d_M_where_11 rfl rfl ?_
    refine g_iconst (v := 0) C d_M_where_12 (by decide) ?_
    refine g_iconst (v := 2) C d_M_where_13 (by decide) ?_
    refine g_csI C mv_M_in ml_M_117 d_M_where_14 hf (fun r μ1 h => t_M_in C.2.2.2.2.2.2.2.2.1 h) rfl rfl (by decide) (Nat.le_of_ble_eq_true rfl) (fun r5 μ4 hf => ?_)
    refine g_if_eq (tgt := 24) C d_M_where_17 (by decide) hf (fun c6 hf => ?_) (fun c6 hf => ?_)
    · exact t_M_where_B24 C N _ _ _ _ _ rfl rfl rfl rfl hf
    · refine g_iconst (v := 1) C d_M_where_20 (by decide) ?_
      refine g_goto (tgt := 25) C d_M_where_21 (by decide) ?_
      exact t_M_where_B25 C N _ _ _ _ _ _ rfl rfl rfl rfl hf
set_option maxHeartbeats 4000000 in
theorem t_M_layJoint_B70 {ad : Nat → Nat} {dA : Nat → ClassId} {D : va_G} {p : Program} {l : Launch} {e : Env} {s : State} {m : MethodId} {args : Array Value} {below : List Frame} {meth : Method} {c : Code} {r : Int32} {μ' : Mm} (C : Cx CLS SHM ad dA D p s m args meth c c_M_layJoint 5 R_M (some .boolean)) (N : Nat)   : ∀ (v1 : Int64) (s1 : Int32) (μ : Mm) (lv : Nat → Option Value), lv 1 = some (.long v1) → f_M_layJoint_B70 N v1 s1 μ = some (r, μ') → Go CLS SHM ad dA D p l e (rmD 5) s m args below meth c 5 (some (.int r)) μ' 70 lv [.int s1, .ref (ad 0)] μ := by
  intro v1 s1 μ lv hl1 hf
  unfold f_M_layJoint_B70 at hf
  refine g_putI (k := 31) C k_M (by decide) fl_M_217 rfl rfl rfl rfl d_M_layJoint_70 ?_
  refine g_lload_n C d_M_layJoint_73 rfl hl1 ?_
  refine g_ldc2 C cl_M_215 d_M_layJoint_74 ?_
  refine g_lcmp C d_M_layJoint_77 ?_
  refine g_if_gt (tgt := 85) C d_M_layJoint_78 (by decide) hf (fun c14 hf => ?_) (fun c14 hf => ?_)
  · refine g_iconst (v := 0) C d_M_layJoint_85 (by decide) ?_
    exact g_zretc C d_M_layJoint_86 rfl hf
  · refine g_iconst (v := 1) C d_M_layJoint_81 (by decide) ?_
    refine g_goto (tgt := 86) C d_M_layJoint_82 (by decide) ?_
    exact g_zretc C d_M_layJoint_86 rfl hf
set_option maxHeartbeats 4000000 in
theorem t_M_layJoint_B55 {ad : Nat → Nat} {dA : Nat → ClassId} {D : va_G} {p : Program} {l : Launch} {e : Env} {s : State} {m : MethodId} {args : Array Value} {below : List Frame} {meth : Method} {c : Code} {r : Int32} {μ' : Mm} (C : Cx CLS SHM ad dA D p s m args meth c c_M_layJoint 5 R_M (some .boolean)) (N : Nat)   : ∀ (v1 : Int64) (μ : Mm) (lv : Nat → Option Value), lv 0 = some (.ref (ad 0)) → lv 1 = some (.long v1) → f_M_layJoint_B55 N v1 μ = some (r, μ') → Go CLS SHM ad dA D p l e (rmD 5) s m args below meth c 5 (some (.int r)) μ' 55 lv [] μ := by
  intro v1 μ lv hl0 hl1 hf
  unfold f_M_layJoint_B55 at hf
  refine g_aload_n C d_M_layJoint_55 rfl hl0 ?_
  refine g_lload_n C d_M_layJoint_56 rfl hl1 ?_
  refine g_ldc2 C cl_M_215 d_M_layJoint_57 ?_
  refine g_lcmp C d_M_layJoint_60 ?_
  refine g_if_le (tgt := 68) C d_M_layJoint_61 (by decide) hf (fun c12 hf => ?_) (fun c12 hf => ?_)
  · refine g_lload_n C d_M_layJoint_68 rfl hl1 ?_
    refine g_l2i C d_M_layJoint_69 ?_
    exact t_M_layJoint_B70 C N _ _ _ _ hl1 hf
  · refine g_iconst (v := 0) C d_M_layJoint_64 (by decide) ?_
    refine g_goto (tgt := 70) C d_M_layJoint_65 (by decide) ?_
    exact t_M_layJoint_B70 C N _ _ _ _ hl1 hf
set_option maxHeartbeats 4000000 in
theorem t_M_layJoint_B49 {ad : Nat → Nat} {dA : Nat → ClassId} {D : va_G} {p : Program} {l : Launch} {e : Env} {s : State} {m : MethodId} {args : Array Value} {below : List Frame} {meth : Method} {c : Code} {r : Int32} {μ' : Mm} (C : Cx CLS SHM ad dA D p s m args meth c c_M_layJoint 5 R_M (some .boolean)) (N : Nat)   (k4 : Int64 → Int32 → Mm → Option (Int32 × Mm)) (hk4 : ∀ (v1 : Int64) (v3 : Int32) (μ : Mm) (lv : Nat → Option Value), lv 0 = some (.ref (ad 0)) → lv 1 = some (.long v1) → lv 3 = some (.int v3) → k4 v1 v3 μ = some (r, μ') → Go CLS SHM ad dA D p l e (rmD 5) s m args below meth c 5 (some (.int r)) μ' 4 lv [] μ) : ∀ (v1 : Int64) (v3 : Int32) (μ : Mm) (lv : Nat → Option Value), lv 0 = some (.ref (ad 0)) → lv 1 = some (.long v1) → lv 3 = some (.int v3) → f_M_layJoint_B49 N k4 v1 v3 μ = some (r, μ') → Go CLS SHM ad dA D p l e (rmD 5) s m args below meth c 5 (some (.int r)) μ' 49 lv [] μ := by
  intro v1 v3 μ lv hl0 hl1 hl3 hf
  unfold f_M_layJoint_B49 at hf
  refine g_iinc (v := 1) C d_M_layJoint_49 hl3 (by decide) (by decide) ?_
  refine g_goto (tgt := 4) C d_M_layJoint_52 (by decide) ?_
  exact hk4 _ _ _ _ ((upG hl0 rfl)) ((upG hl1 rfl)) upS hf
set_option maxHeartbeats 4000000 in
theorem t_M_layJoint_L4 {ad : Nat → Nat} {dA : Nat → ClassId} {D : va_G} {p : Program} {l : Launch} {e : Env} {s : State} {m : MethodId} {args : Array Value} {below : List Frame} {meth : Method} {c : Code} {r : Int32} {μ' : Mm} (C : Cx CLS SHM ad dA D p s m args meth c c_M_layJoint 5 R_M (some .boolean)) (N : Nat)   : ∀ (n : Nat) (v1 : Int64) (v3 : Int32) (μ : Mm) (lv : Nat → Option Value), lv 0 = some (.ref (ad 0)) → lv 1 = some (.long v1) → lv 3 = some (.int v3) → f_M_layJoint_L4 N n v1 v3 μ = some (r, μ') → Go CLS SHM ad dA D p l e (rmD 5) s m args below meth c 5 (some (.int r)) μ' 4 lv [] μ := by
  intro n
  induction n with
  | zero => intro v1 v3 μ lv hl0 hl1 hl3 hf; cases (show none = some _ from hf)
  | succ n ih =>
    intro v1 v3 μ lv hl0 hl1 hl3 hf
    unfold f_M_layJoint_L4 at hf
    refine g_iload_n C d_M_layJoint_4 rfl hl3 ?_
    refine g_aload_n C d_M_layJoint_5 rfl hl0 ?_
    refine g_getI (k := 15) C k_M (by decide) fl_M_162 rfl rfl d_M_layJoint_6 ?_
    refine g_icmp_ge (tgt := 55) C d_M_layJoint_9 (by decide) hf (fun c1 hf => ?_) (fun c1 hf => ?_)
    · exact t_M_layJoint_B55 C N _ _ _ hl0 hl1 hf
    · refine g_lload_n C d_M_layJoint_12 rfl hl1 ?_
      refine g_ldc2 C cl_M_215 d_M_layJoint_13 ?_
      refine g_lcmp C d_M_layJoint_16 ?_
      refine g_if_gt (tgt := 55) C d_M_layJoint_17 (by decide) hf (fun c2 hf => ?_) (fun c2 hf => ?_)
      · exact t_M_layJoint_B55 C N _ _ _ hl0 hl1 hf
      · refine g_aload_n C d_M_layJoint_20 rfl hl0 ?_
        refine g_iload_n C d_M_layJoint_21 rfl hl3 ?_
        refine g_cvI C k_M rfl mv_M_goes ml_M_193 d_M_layJoint_22 hf (fun r μ1 h => t_M_goes C.2.2.2.2.2.2.2.2.1 h) rfl rfl (by decide) (Nat.le_of_ble_eq_true rfl) (fun r4 μ3 hf => ?_)
        refine g_if_eq (tgt := 49) C d_M_layJoint_25 (by decide) hf (fun c5 hf => ?_) (fun c5 hf => ?_)
        · exact t_M_layJoint_B49 C N _ ih _ _ _ _ hl0 hl1 hl3 hf
        · refine g_aload_n C d_M_layJoint_28 rfl hl0 ?_
          refine g_iload_n C d_M_layJoint_29 rfl hl3 ?_
          refine g_cvI C k_M rfl mv_M_periodOf ml_M_196 d_M_layJoint_30 hf (fun r μ1 h => t_M_periodOf C.2.2.2.2.2.2.2.2.1 h) rfl rfl (by decide) (Nat.le_of_ble_eq_true rfl) (fun r7 μ6 hf => ?_)
          refine g_istore C d_M_layJoint_33 (by decide) ?_
          refine g_lload_n C d_M_layJoint_35 rfl (upG hl1 rfl) ?_
          refine g_lload_n C d_M_layJoint_36 rfl (upG hl1 rfl) ?_
          refine g_iload C d_M_layJoint_37 upS ?_
          refine g_i2l C d_M_layJoint_39 ?_
          refine g_csL C mv_M_gcd ml_M_124 d_M_layJoint_40 hf (fun r μ1 h => t_M_gcd C.2.2.2.2.2.2.2.2.1 h) rfl rfl (by decide) (Nat.le_of_ble_eq_true rfl) (fun r9 μ8 hf => ?_)
          refine g_ldiv C d_M_layJoint_43 hf (fun hf => ?_)
          refine g_iload C d_M_layJoint_44 upS ?_
          refine g_i2l C d_M_layJoint_46 ?_
          refine g_lmul C d_M_layJoint_47 ?_
          refine g_lstore_n C d_M_layJoint_48 rfl (by decide) ?_
          exact t_M_layJoint_B49 C N _ ih _ _ _ _ ((upG (upG hl0 rfl) rfl)) upS ((upG (upG hl3 rfl) rfl)) hf
set_option maxHeartbeats 4000000 in
theorem t_M_layJoint {l : Launch} {ad : Nat → Nat} {dA : Nat → ClassId} {D : va_G} (hi : Inj SHM ad) {N : Nat}   {μ μ' : Mm} {r : Int32} (hf : f_M_layJoint N  μ = some (r, μ')) : Ct CLS l SHM ad dA D y_M_layJoint c_M_layJoint 5 (some .boolean) 5 [.ref (ad 0)] μ (some (.int r)) μ' := by
  unfold f_M_layJoint at hf
  refine ct_of (by decide) hi (Nat.le_of_ble_eq_true rfl) ?_
  intro p e s m args below meth c C
  refine g_lconst (v := 1) C d_M_layJoint_0 (by decide) ?_
  refine g_lstore_n C d_M_layJoint_1 rfl (by decide) ?_
  refine g_iconst (v := 0) C d_M_layJoint_2 (by decide) ?_
  refine g_istore_n C d_M_layJoint_3 rfl (by decide) ?_
  exact t_M_layJoint_L4 C N N _ _ _ _ ((upG (upG rfl rfl) rfl)) ((upG upS rfl)) upS hf
set_option maxHeartbeats 4000000 in
theorem t_M_viewFrom_B44 {ad : Nat → Nat} {dA : Nat → ClassId} {D : va_G} {p : Program} {l : Launch} {e : Env} {s : State} {m : MethodId} {args : Array Value} {below : List Frame} {meth : Method} {c : Code} {r : Int32} {μ' : Mm} (C : Cx CLS SHM ad dA D p s m args meth c c_M_viewFrom 5 R_M (some .int)) (N : Nat)   (k5 : Int32 → Int32 → Int32 → Int32 → Mm → Option (Int32 × Mm)) (hk5 : ∀ (v1 : Int32) (v2 : Int32) (v3 : Int32) (v4 : Int32) (μ : Mm) (lv : Nat → Option Value), lv 0 = some (.ref (ad 0)) → lv 1 = some (.int v1) → lv 2 = some (.int v2) → lv 3 = some (.int v3) → lv 4 = some (.int v4) → k5 v1 v2 v3 v4 μ = some (r, μ') → Go CLS SHM ad dA D p l e (rmD 0) s m args below meth c 5 (some (.int r)) μ' 5 lv [] μ) : ∀ (v1 : Int32) (v2 : Int32) (v4 : Int32) (s0 : Int32) (s1 : Int32) (μ : Mm) (lv : Nat → Option Value), lv 0 = some (.ref (ad 0)) → lv 1 = some (.int v1) → lv 2 = some (.int v2) → lv 4 = some (.int v4) → f_M_viewFrom_B44 N k5 v1 v2 v4 s0 s1 μ = some (r, μ') → Go CLS SHM ad dA D p l e (rmD 0) s m args below meth c 5 (some (.int r)) μ' 44 lv [.int s1, .int s0] μ := by
  intro v1 v2 v4 s0 s1 μ lv hl0 hl1 hl2 hl4 hf
  unfold f_M_viewFrom_B44 at hf
  refine g_ior C d_M_viewFrom_44 ?_
  refine g_istore_n C d_M_viewFrom_45 rfl (by decide) ?_
  refine g_iinc (v := 1) C d_M_viewFrom_46 (upG hl4 rfl) (by decide) (by decide) ?_
  refine g_goto (tgt := 5) C d_M_viewFrom_49 (by decide) ?_
  exact hk5 _ _ _ _ _ _ ((upG (upG hl0 rfl) rfl)) ((upG (upG hl1 rfl) rfl)) ((upG (upG hl2 rfl) rfl)) ((upG upS rfl)) upS hf
set_option maxHeartbeats 4000000 in
theorem t_M_viewFrom_L5 {ad : Nat → Nat} {dA : Nat → ClassId} {D : va_G} {p : Program} {l : Launch} {e : Env} {s : State} {m : MethodId} {args : Array Value} {below : List Frame} {meth : Method} {c : Code} {r : Int32} {μ' : Mm} (C : Cx CLS SHM ad dA D p s m args meth c c_M_viewFrom 5 R_M (some .int)) (N : Nat)   : ∀ (n : Nat) (v1 : Int32) (v2 : Int32) (v3 : Int32) (v4 : Int32) (μ : Mm) (lv : Nat → Option Value), lv 0 = some (.ref (ad 0)) → lv 1 = some (.int v1) → lv 2 = some (.int v2) → lv 3 = some (.int v3) → lv 4 = some (.int v4) → f_M_viewFrom_L5 N n v1 v2 v3 v4 μ = some (r, μ') → Go CLS SHM ad dA D p l e (rmD 0) s m args below meth c 5 (some (.int r)) μ' 5 lv [] μ := by
  intro n
  induction n with
  | zero => intro v1 v2 v3 v4 μ lv hl0 hl1 hl2 hl3 hl4 hf; cases (show none = some _ from hf)
  | succ n ih =>
    intro v1 v2 v3 v4 μ lv hl0 hl1 hl2 hl3 hl4 hf
    unfold f_M_viewFrom_L5 at hf
    refine g_iload C d_M_viewFrom_5 hl4 ?_
    refine g_aload_n C d_M_viewFrom_7 rfl hl0 ?_
    refine g_getI (k := 9) C k_M (by decide) fl_M_111 rfl rfl d_M_viewFrom_8 ?_
    refine g_icmp_ge (tgt := 52) C d_M_viewFrom_11 (by decide) hf (fun c1 hf => ?_) (fun c1 hf => ?_)
    · refine g_iload_n C d_M_viewFrom_52 rfl hl3 ?_
      exact g_iret C d_M_viewFrom_53 hf
    · refine g_iload_n C d_M_viewFrom_14 rfl hl3 ?_
      refine g_aload_n C d_M_viewFrom_15 rfl hl0 ?_
      refine g_getR (b := 9) (k := 14) C k_M (by decide) fl_M_36 rfl rfl d_M_viewFrom_16 ?_
      refine g_bipush (v := 16) C d_M_viewFrom_19 (by decide) ?_
      refine g_iload_n C d_M_viewFrom_21 rfl hl2 ?_
      refine g_imul C d_M_viewFrom_22 ?_
      refine g_iload C d_M_viewFrom_23 hl4 ?_
      refine g_iadd C d_M_viewFrom_25 ?_
      refine g_iald C rfl d_M_viewFrom_26 hf (fun hf => ?_)
      refine g_aload_n C d_M_viewFrom_27 rfl hl0 ?_
      refine g_getR (b := 14) (k := 20) C k_M (by decide) fl_M_51 rfl rfl d_M_viewFrom_28 ?_
      refine g_iload_n C d_M_viewFrom_31 rfl hl1 ?_
      refine g_iald C rfl d_M_viewFrom_32 hf (fun hf => ?_)
      refine g_icmp_gt (tgt := 43) C d_M_viewFrom_33 (by decide) hf (fun c3 hf => ?_) (fun c3 hf => ?_)
      · refine g_iconst (v := 0) C d_M_viewFrom_43 (by decide) ?_
        exact t_M_viewFrom_B44 C N _ ih _ _ _ _ _ _ _ hl0 hl1 hl2 hl4 hf
      · refine g_iconst (v := 1) C d_M_viewFrom_36 (by decide) ?_
        refine g_iload C d_M_viewFrom_37 hl4 ?_
        refine g_ishl C d_M_viewFrom_39 ?_
        refine g_goto (tgt := 44) C d_M_viewFrom_40 (by decide) ?_
        exact t_M_viewFrom_B44 C N _ ih _ _ _ _ _ _ _ hl0 hl1 hl2 hl4 hf
set_option maxHeartbeats 4000000 in
theorem t_M_viewFrom {l : Launch} {ad : Nat → Nat} {dA : Nat → ClassId} {D : va_G} (hi : Inj SHM ad) {N : Nat} {a1 : Int32} {a2 : Int32}  {μ μ' : Mm} {r : Int32} (hf : f_M_viewFrom N a1 a2 μ = some (r, μ')) : Ct CLS l SHM ad dA D y_M_viewFrom c_M_viewFrom 5 (some .int) 0 [.ref (ad 0), .int a1, .int a2] μ (some (.int r)) μ' := by
  unfold f_M_viewFrom at hf
  refine ct_of (by decide) hi (Nat.le_of_ble_eq_true rfl) ?_
  intro p e s m args below meth c C
  refine g_iconst (v := 0) C d_M_viewFrom_0 (by decide) ?_
  refine g_istore_n C d_M_viewFrom_1 rfl (by decide) ?_
  refine g_iconst (v := 0) C d_M_viewFrom_2 (by decide) ?_
  refine g_istore C d_M_viewFrom_3 (by decide) ?_
  exact t_M_viewFrom_L5 C N N _ _ _ _ _ _ ((upG (upG rfl rfl) rfl)) ((upG (upG rfl rfl) rfl)) ((upG (upG rfl rfl) rfl)) ((upG upS rfl)) upS hf
set_option maxHeartbeats 4000000 in
theorem t_M_lookOut_B149 {ad : Nat → Nat} {dA : Nat → ClassId} {D : va_G} {p : Program} {l : Launch} {e : Env} {s : State} {m : MethodId} {args : Array Value} {below : List Frame} {meth : Method} {c : Code} {μ' : Mm} (C : Cx CLS SHM ad dA D p s m args meth c c_M_lookOut 8 R_M (none)) (N : Nat)   (k65 : Int32 → Int32 → Int32 → Int32 → Mm → Option Mm) (hk65 : ∀ (v1 : Int32) (v2 : Int32) (v3 : Int32) (v4 : Int32) (μ : Mm) (lv : Nat → Option Value), lv 0 = some (.ref (ad 0)) → lv 1 = some (.int v1) → lv 2 = some (.int v2) → lv 3 = some (.int v3) → lv 4 = some (.int v4) → k65 v1 v2 v3 v4 μ = some μ' → Go CLS SHM ad dA D p l e (rmD 3) s m args below meth c 8 none μ' 65 lv [] μ) : ∀ (v1 : Int32) (v2 : Int32) (v3 : Int32) (v4 : Int32) (μ : Mm) (lv : Nat → Option Value), lv 0 = some (.ref (ad 0)) → lv 1 = some (.int v1) → lv 2 = some (.int v2) → lv 3 = some (.int v3) → lv 4 = some (.int v4) → f_M_lookOut_B149 N k65 v1 v2 v3 v4 μ = some μ' → Go CLS SHM ad dA D p l e (rmD 3) s m args below meth c 8 none μ' 149 lv [] μ := by
  intro v1 v2 v3 v4 μ lv hl0 hl1 hl2 hl3 hl4 hf
  unfold f_M_lookOut_B149 at hf
  refine g_iload_n C d_M_lookOut_149 rfl hl3 ?_
  refine g_aload_n C d_M_lookOut_150 rfl hl0 ?_
  refine g_iload_n C d_M_lookOut_151 rfl hl1 ?_
  refine g_iload C d_M_lookOut_152 hl4 ?_
  refine g_cvI C k_M rfl mv_M_rest ml_M_187 d_M_lookOut_154 hf (fun r μ1 h => t_M_rest C.2.2.2.2.2.2.2.2.1 h) rfl rfl (by decide) (Nat.le_of_ble_eq_true rfl) (fun r22 μ21 hf => ?_)
  refine g_aload_n C d_M_lookOut_157 rfl hl0 ?_
  refine g_getR (b := 5) (k := 10) C k_M (by decide) fl_M_23 rfl rfl d_M_lookOut_158 ?_
  refine g_aload_n C d_M_lookOut_161 rfl hl0 ?_
  refine g_iload_n C d_M_lookOut_162 rfl hl1 ?_
  refine g_iload C d_M_lookOut_163 hl4 ?_
  refine g_cvI C k_M rfl mv_M_pair ml_M_175 d_M_lookOut_165 hf (fun r μ1 h => t_M_pair C.2.2.2.2.2.2.2.2.1 h) rfl rfl (by decide) (Nat.le_of_ble_eq_true rfl) (fun r24 μ23 hf => ?_)
  refine g_iald C rfl d_M_lookOut_168 hf (fun hf => ?_)
  refine g_aload_n C d_M_lookOut_169 rfl hl0 ?_
  refine g_iload_n C d_M_lookOut_170 rfl hl1 ?_
  refine g_cvI C k_M rfl mv_M_unitOf ml_M_190 d_M_lookOut_171 hf (fun r μ1 h => t_M_unitOf C.2.2.2.2.2.2.2.2.1 h) rfl rfl (by decide) (Nat.le_of_ble_eq_true rfl) (fun r26 μ25 hf => ?_)
  refine g_imul C d_M_lookOut_174 ?_
  refine g_iadd C d_M_lookOut_175 ?_
  refine g_iadd C d_M_lookOut_176 ?_
  refine g_istore_n C d_M_lookOut_177 rfl (by decide) ?_
  refine g_iinc (v := 1) C d_M_lookOut_178 (upG hl4 rfl) (by decide) (by decide) ?_
  refine g_goto (tgt := 65) C d_M_lookOut_181 (by decide) ?_
  exact hk65 _ _ _ _ _ _ ((upG (upG hl0 rfl) rfl)) ((upG (upG hl1 rfl) rfl)) ((upG (upG hl2 rfl) rfl)) ((upG upS rfl)) upS hf
set_option maxHeartbeats 4000000 in
theorem t_M_lookOut_B143 {ad : Nat → Nat} {dA : Nat → ClassId} {D : va_G} {p : Program} {l : Launch} {e : Env} {s : State} {m : MethodId} {args : Array Value} {below : List Frame} {meth : Method} {c : Code} {μ' : Mm} (C : Cx CLS SHM ad dA D p s m args meth c c_M_lookOut 8 R_M (none)) (N : Nat)   (k65 : Int32 → Int32 → Int32 → Int32 → Mm → Option Mm) (hk65 : ∀ (v1 : Int32) (v2 : Int32) (v3 : Int32) (v4 : Int32) (μ : Mm) (lv : Nat → Option Value), lv 0 = some (.ref (ad 0)) → lv 1 = some (.int v1) → lv 2 = some (.int v2) → lv 3 = some (.int v3) → lv 4 = some (.int v4) → k65 v1 v2 v3 v4 μ = some μ' → Go CLS SHM ad dA D p l e (rmD 3) s m args below meth c 8 none μ' 65 lv [] μ) (k93 : Int32 → Int32 → Int32 → Int32 → Int32 → Int32 → Mm → Option Mm) (hk93 : ∀ (v1 : Int32) (v2 : Int32) (v3 : Int32) (v4 : Int32) (v5 : Int32) (v6 : Int32) (μ : Mm) (lv : Nat → Option Value), lv 0 = some (.ref (ad 0)) → lv 1 = some (.int v1) → lv 2 = some (.int v2) → lv 3 = some (.int v3) → lv 4 = some (.int v4) → lv 5 = some (.int v5) → lv 6 = some (.int v6) → k93 v1 v2 v3 v4 v5 v6 μ = some μ' → Go CLS SHM ad dA D p l e (rmD 3) s m args below meth c 8 none μ' 93 lv [] μ) : ∀ (v1 : Int32) (v2 : Int32) (v3 : Int32) (v4 : Int32) (v5 : Int32) (v6 : Int32) (μ : Mm) (lv : Nat → Option Value), lv 0 = some (.ref (ad 0)) → lv 1 = some (.int v1) → lv 2 = some (.int v2) → lv 3 = some (.int v3) → lv 4 = some (.int v4) → lv 5 = some (.int v5) → lv 6 = some (.int v6) → f_M_lookOut_B143 N k65 k93 v1 v2 v3 v4 v5 v6 μ = some μ' → Go CLS SHM ad dA D p l e (rmD 3) s m args below meth c 8 none μ' 143 lv [] μ := by
  intro v1 v2 v3 v4 v5 v6 μ lv hl0 hl1 hl2 hl3 hl4 hl5 hl6 hf
  unfold f_M_lookOut_B143 at hf
  refine g_iinc (v := 1) C d_M_lookOut_143 hl6 (by decide) (by decide) ?_
  refine g_goto (tgt := 93) C d_M_lookOut_146 (by decide) ?_
  exact hk93 _ _ _ _ _ _ _ _ ((upG hl0 rfl)) ((upG hl1 rfl)) ((upG hl2 rfl)) ((upG hl3 rfl)) ((upG hl4 rfl)) ((upG hl5 rfl)) upS hf
set_option maxHeartbeats 4000000 in
theorem t_M_lookOut_L113 {ad : Nat → Nat} {dA : Nat → ClassId} {D : va_G} {p : Program} {l : Launch} {e : Env} {s : State} {m : MethodId} {args : Array Value} {below : List Frame} {meth : Method} {c : Code} {μ' : Mm} (C : Cx CLS SHM ad dA D p s m args meth c c_M_lookOut 8 R_M (none)) (N : Nat)   (k65 : Int32 → Int32 → Int32 → Int32 → Mm → Option Mm) (hk65 : ∀ (v1 : Int32) (v2 : Int32) (v3 : Int32) (v4 : Int32) (μ : Mm) (lv : Nat → Option Value), lv 0 = some (.ref (ad 0)) → lv 1 = some (.int v1) → lv 2 = some (.int v2) → lv 3 = some (.int v3) → lv 4 = some (.int v4) → k65 v1 v2 v3 v4 μ = some μ' → Go CLS SHM ad dA D p l e (rmD 3) s m args below meth c 8 none μ' 65 lv [] μ) (k93 : Int32 → Int32 → Int32 → Int32 → Int32 → Int32 → Mm → Option Mm) (hk93 : ∀ (v1 : Int32) (v2 : Int32) (v3 : Int32) (v4 : Int32) (v5 : Int32) (v6 : Int32) (μ : Mm) (lv : Nat → Option Value), lv 0 = some (.ref (ad 0)) → lv 1 = some (.int v1) → lv 2 = some (.int v2) → lv 3 = some (.int v3) → lv 4 = some (.int v4) → lv 5 = some (.int v5) → lv 6 = some (.int v6) → k93 v1 v2 v3 v4 v5 v6 μ = some μ' → Go CLS SHM ad dA D p l e (rmD 3) s m args below meth c 8 none μ' 93 lv [] μ) : ∀ (n : Nat) (v1 : Int32) (v2 : Int32) (v3 : Int32) (v4 : Int32) (v5 : Int32) (v6 : Int32) (v7 : Int32) (μ : Mm) (lv : Nat → Option Value), lv 0 = some (.ref (ad 0)) → lv 1 = some (.int v1) → lv 2 = some (.int v2) → lv 3 = some (.int v3) → lv 4 = some (.int v4) → lv 5 = some (.int v5) → lv 6 = some (.int v6) → lv 7 = some (.int v7) → f_M_lookOut_L113 N k65 k93 n v1 v2 v3 v4 v5 v6 v7 μ = some μ' → Go CLS SHM ad dA D p l e (rmD 3) s m args below meth c 8 none μ' 113 lv [] μ := by
  intro n
  induction n with
  | zero => intro v1 v2 v3 v4 v5 v6 v7 μ lv hl0 hl1 hl2 hl3 hl4 hl5 hl6 hl7 hf; cases (show none = some _ from hf)
  | succ n ih =>
    intro v1 v2 v3 v4 v5 v6 v7 μ lv hl0 hl1 hl2 hl3 hl4 hl5 hl6 hl7 hf
    unfold f_M_lookOut_L113 at hf
    refine g_iload C d_M_lookOut_113 hl7 ?_
    refine g_aload_n C d_M_lookOut_115 rfl hl0 ?_
    refine g_getI (k := 31) C k_M (by decide) fl_M_217 rfl rfl d_M_lookOut_116 ?_
    refine g_icmp_ge (tgt := 143) C d_M_lookOut_119 (by decide) hf (fun c16 hf => ?_) (fun c16 hf => ?_)
    · exact t_M_lookOut_B143 C N _ hk65 _ hk93 _ _ _ _ _ _ _ _ hl0 hl1 hl2 hl3 hl4 hl5 hl6 hf
    · refine g_aload_n C d_M_lookOut_122 rfl hl0 ?_
      refine g_getR (b := 21) (k := 32) C k_M (by decide) fl_M_72 rfl rfl d_M_lookOut_123 ?_
      refine g_iload C d_M_lookOut_126 hl7 ?_
      refine g_dup2 C d_M_lookOut_128 rfl rfl ?_
      refine g_iald C rfl d_M_lookOut_129 hf (fun hf => ?_)
      refine g_iload C d_M_lookOut_130 hl5 ?_
      refine g_ior C d_M_lookOut_132 ?_
      refine g_iast C rfl d_M_lookOut_133 hf (fun hf => ?_)
      refine g_iload C d_M_lookOut_134 hl7 ?_
      refine g_iload_n C d_M_lookOut_136 rfl hl2 ?_
      refine g_iadd C d_M_lookOut_137 ?_
      refine g_istore C d_M_lookOut_138 (by decide) ?_
      refine g_goto (tgt := 113) C d_M_lookOut_140 (by decide) ?_
      exact ih _ _ _ _ _ _ _ _ _ ((upG hl0 rfl)) ((upG hl1 rfl)) ((upG hl2 rfl)) ((upG hl3 rfl)) ((upG hl4 rfl)) ((upG hl5 rfl)) ((upG hl6 rfl)) upS hf
set_option maxHeartbeats 4000000 in
theorem t_M_lookOut_L93 {ad : Nat → Nat} {dA : Nat → ClassId} {D : va_G} {p : Program} {l : Launch} {e : Env} {s : State} {m : MethodId} {args : Array Value} {below : List Frame} {meth : Method} {c : Code} {μ' : Mm} (C : Cx CLS SHM ad dA D p s m args meth c c_M_lookOut 8 R_M (none)) (N : Nat)   (k65 : Int32 → Int32 → Int32 → Int32 → Mm → Option Mm) (hk65 : ∀ (v1 : Int32) (v2 : Int32) (v3 : Int32) (v4 : Int32) (μ : Mm) (lv : Nat → Option Value), lv 0 = some (.ref (ad 0)) → lv 1 = some (.int v1) → lv 2 = some (.int v2) → lv 3 = some (.int v3) → lv 4 = some (.int v4) → k65 v1 v2 v3 v4 μ = some μ' → Go CLS SHM ad dA D p l e (rmD 3) s m args below meth c 8 none μ' 65 lv [] μ) : ∀ (n : Nat) (v1 : Int32) (v2 : Int32) (v3 : Int32) (v4 : Int32) (v5 : Int32) (v6 : Int32) (μ : Mm) (lv : Nat → Option Value), lv 0 = some (.ref (ad 0)) → lv 1 = some (.int v1) → lv 2 = some (.int v2) → lv 3 = some (.int v3) → lv 4 = some (.int v4) → lv 5 = some (.int v5) → lv 6 = some (.int v6) → f_M_lookOut_L93 N k65 n v1 v2 v3 v4 v5 v6 μ = some μ' → Go CLS SHM ad dA D p l e (rmD 3) s m args below meth c 8 none μ' 93 lv [] μ := by
  intro n
  induction n with
  | zero => intro v1 v2 v3 v4 v5 v6 μ lv hl0 hl1 hl2 hl3 hl4 hl5 hl6 hf; cases (show none = some _ from hf)
  | succ n ih =>
    intro v1 v2 v3 v4 v5 v6 μ lv hl0 hl1 hl2 hl3 hl4 hl5 hl6 hf
    unfold f_M_lookOut_L93 at hf
    refine g_iload C d_M_lookOut_93 hl6 ?_
    refine g_aload_n C d_M_lookOut_95 rfl hl0 ?_
    refine g_iload_n C d_M_lookOut_96 rfl hl1 ?_
    refine g_iload C d_M_lookOut_97 hl4 ?_
    refine g_cvI C k_M rfl mv_M_rest ml_M_187 d_M_lookOut_99 hf (fun r μ1 h => t_M_rest C.2.2.2.2.2.2.2.2.1 h) rfl rfl (by decide) (Nat.le_of_ble_eq_true rfl) (fun r12 μ11 hf => ?_)
    refine g_icmp_gt (tgt := 149) C d_M_lookOut_102 (by decide) hf (fun c13 hf => ?_) (fun c13 hf => ?_)
    · exact t_M_lookOut_B149 C N _ hk65 _ _ _ _ _ _ hl0 hl1 hl2 hl3 hl4 hf
    · refine g_iload_n C d_M_lookOut_105 rfl hl3 ?_
      refine g_iload C d_M_lookOut_106 hl6 ?_
      refine g_iadd C d_M_lookOut_108 ?_
      refine g_iload_n C d_M_lookOut_109 rfl hl2 ?_
      refine g_irem C d_M_lookOut_110 hf (fun hf => ?_)
      refine g_istore C d_M_lookOut_111 (by decide) ?_
      exact t_M_lookOut_L113 C N _ hk65 _ ih N _ _ _ _ _ _ _ _ _ ((upG hl0 rfl)) ((upG hl1 rfl)) ((upG hl2 rfl)) ((upG hl3 rfl)) ((upG hl4 rfl)) ((upG hl5 rfl)) ((upG hl6 rfl)) upS hf
set_option maxHeartbeats 4000000 in
theorem t_M_lookOut_L65 {ad : Nat → Nat} {dA : Nat → ClassId} {D : va_G} {p : Program} {l : Launch} {e : Env} {s : State} {m : MethodId} {args : Array Value} {below : List Frame} {meth : Method} {c : Code} {μ' : Mm} (C : Cx CLS SHM ad dA D p s m args meth c c_M_lookOut 8 R_M (none)) (N : Nat)   : ∀ (n : Nat) (v1 : Int32) (v2 : Int32) (v3 : Int32) (v4 : Int32) (μ : Mm) (lv : Nat → Option Value), lv 0 = some (.ref (ad 0)) → lv 1 = some (.int v1) → lv 2 = some (.int v2) → lv 3 = some (.int v3) → lv 4 = some (.int v4) → f_M_lookOut_L65 N n v1 v2 v3 v4 μ = some μ' → Go CLS SHM ad dA D p l e (rmD 3) s m args below meth c 8 none μ' 65 lv [] μ := by
  intro n
  induction n with
  | zero => intro v1 v2 v3 v4 μ lv hl0 hl1 hl2 hl3 hl4 hf; cases (show none = some _ from hf)
  | succ n ih =>
    intro v1 v2 v3 v4 μ lv hl0 hl1 hl2 hl3 hl4 hf
    unfold f_M_lookOut_L65 at hf
    refine g_iload C d_M_lookOut_65 hl4 ?_
    refine g_aload_n C d_M_lookOut_67 rfl hl0 ?_
    refine g_getR (b := 17) (k := 23) C k_M (by decide) fl_M_60 rfl rfl d_M_lookOut_68 ?_
    refine g_iload_n C d_M_lookOut_71 rfl hl1 ?_
    refine g_iald C rfl d_M_lookOut_72 hf (fun hf => ?_)
    refine g_icmp_ge (tgt := 184) C d_M_lookOut_73 (by decide) hf (fun c6 hf => ?_) (fun c6 hf => ?_)
    · exact g_vret C d_M_lookOut_184 hf
    · refine g_aload_n C d_M_lookOut_76 rfl hl0 ?_
      refine g_iload_n C d_M_lookOut_77 rfl hl1 ?_
      refine g_aload_n C d_M_lookOut_78 rfl hl0 ?_
      refine g_iload_n C d_M_lookOut_79 rfl hl1 ?_
      refine g_iload C d_M_lookOut_80 hl4 ?_
      refine g_cvI C k_M rfl mv_M_post ml_M_172 d_M_lookOut_82 hf (fun r μ1 h => t_M_post C.2.2.2.2.2.2.2.2.1 h) rfl rfl (by decide) (Nat.le_of_ble_eq_true rfl) (fun r8 μ7 hf => ?_)
      refine g_cvI C k_M rfl mv_M_viewFrom ml_M_220 d_M_lookOut_85 hf (fun r μ1 h => t_M_viewFrom C.2.2.2.2.2.2.2.2.1 h) rfl rfl (by decide) (Nat.le_of_ble_eq_true rfl) (fun r10 μ9 hf => ?_)
      refine g_istore C d_M_lookOut_88 (by decide) ?_
      refine g_iconst (v := 0) C d_M_lookOut_90 (by decide) ?_
      refine g_istore C d_M_lookOut_91 (by decide) ?_
      exact t_M_lookOut_L93 C N _ ih N _ _ _ _ _ _ _ _ ((upG (upG hl0 rfl) rfl)) ((upG (upG hl1 rfl) rfl)) ((upG (upG hl2 rfl) rfl)) ((upG (upG hl3 rfl) rfl)) ((upG (upG hl4 rfl) rfl)) ((upG upS rfl)) upS hf
set_option maxHeartbeats 4000000 in
theorem t_M_lookOut_L12 {ad : Nat → Nat} {dA : Nat → ClassId} {D : va_G} {p : Program} {l : Launch} {e : Env} {s : State} {m : MethodId} {args : Array Value} {below : List Frame} {meth : Method} {c : Code} {μ' : Mm} (C : Cx CLS SHM ad dA D p s m args meth c c_M_lookOut 8 R_M (none)) (N : Nat)   : ∀ (n : Nat) (v1 : Int32) (v2 : Int32) (μ : Mm) (lv : Nat → Option Value), lv 0 = some (.ref (ad 0)) → lv 1 = some (.int v1) → lv 2 = some (.int v2) → f_M_lookOut_L12 N n v1 v2 μ = some μ' → Go CLS SHM ad dA D p l e (rmD 3) s m args below meth c 8 none μ' 12 lv [] μ := by
  intro n
  induction n with
  | zero => intro v1 v2 μ lv hl0 hl1 hl2 hf; cases (show none = some _ from hf)
  | succ n ih =>
    intro v1 v2 μ lv hl0 hl1 hl2 hf
    unfold f_M_lookOut_L12 at hf
    refine g_iload_n C d_M_lookOut_12 rfl hl2 ?_
    refine g_aload_n C d_M_lookOut_13 rfl hl0 ?_
    refine g_getI (k := 31) C k_M (by decide) fl_M_217 rfl rfl d_M_lookOut_14 ?_
    refine g_icmp_ge (tgt := 46) C d_M_lookOut_17 (by decide) hf (fun c29 hf => ?_) (fun c29 hf => ?_)
    · exact g_vret C d_M_lookOut_46 hf
    · refine g_aload_n C d_M_lookOut_20 rfl hl0 ?_
      refine g_getR (b := 21) (k := 32) C k_M (by decide) fl_M_72 rfl rfl d_M_lookOut_21 ?_
      refine g_iload_n C d_M_lookOut_24 rfl hl2 ?_
      refine g_dup2 C d_M_lookOut_25 rfl rfl ?_
      refine g_iald C rfl d_M_lookOut_26 hf (fun hf => ?_)
      refine g_aload_n C d_M_lookOut_27 rfl hl0 ?_
      refine g_iload_n C d_M_lookOut_28 rfl hl1 ?_
      refine g_aload_n C d_M_lookOut_29 rfl hl0 ?_
      refine g_getR (b := 13) (k := 19) C k_M (by decide) fl_M_48 rfl rfl d_M_lookOut_30 ?_
      refine g_iload_n C d_M_lookOut_33 rfl hl1 ?_
      refine g_iald C rfl d_M_lookOut_34 hf (fun hf => ?_)
      refine g_cvI C k_M rfl mv_M_viewFrom ml_M_220 d_M_lookOut_35 hf (fun r μ1 h => t_M_viewFrom C.2.2.2.2.2.2.2.2.1 h) rfl rfl (by decide) (Nat.le_of_ble_eq_true rfl) (fun r31 μ30 hf => ?_)
      refine g_ior C d_M_lookOut_38 ?_
      refine g_iast C rfl d_M_lookOut_39 hf (fun hf => ?_)
      refine g_iinc (v := 1) C d_M_lookOut_40 hl2 (by decide) (by decide) ?_
      refine g_goto (tgt := 12) C d_M_lookOut_43 (by decide) ?_
      exact ih _ _ _ _ ((upG hl0 rfl)) ((upG hl1 rfl)) upS hf
set_option maxHeartbeats 4000000 in
theorem t_M_lookOut {l : Launch} {ad : Nat → Nat} {dA : Nat → ClassId} {D : va_G} (hi : Inj SHM ad) {N : Nat} {a1 : Int32}  {μ μ' : Mm} (hf : f_M_lookOut N a1 μ = some μ') : Ct CLS l SHM ad dA D y_M_lookOut c_M_lookOut 8 (none) 3 [.ref (ad 0), .int a1] μ none μ' := by
  unfold f_M_lookOut at hf
  refine ct_of (by decide) hi (Nat.le_of_ble_eq_true rfl) ?_
  intro p e s m args below meth c C
  refine g_aload_n C d_M_lookOut_0 rfl rfl ?_
  refine g_getR (b := 10) (k := 16) C k_M (by decide) fl_M_39 rfl rfl d_M_lookOut_1 ?_
  refine g_iload_n C d_M_lookOut_4 rfl rfl ?_
  refine g_iald C rfl d_M_lookOut_5 hf (fun hf => ?_)
  refine g_iconst (v := 3) C d_M_lookOut_6 (by decide) ?_
  refine g_icmp_ne (tgt := 47) C d_M_lookOut_7 (by decide) hf (fun c1 hf => ?_) (fun c1 hf => ?_)
  · refine g_iconst (v := 0) C d_M_lookOut_10 (by decide) ?_
    refine g_istore_n C d_M_lookOut_11 rfl (by decide) ?_
    exact t_M_lookOut_L12 C N N _ _ _ _ ((upG rfl rfl)) ((upG rfl rfl)) upS hf
  · refine g_aload_n C d_M_lookOut_47 rfl rfl ?_
    refine g_iload_n C d_M_lookOut_48 rfl rfl ?_
    refine g_cvI C k_M rfl mv_M_periodOf ml_M_196 d_M_lookOut_49 hf (fun r μ1 h => t_M_periodOf C.2.2.2.2.2.2.2.2.1 h) rfl rfl (by decide) (Nat.le_of_ble_eq_true rfl) (fun r3 μ2 hf => ?_)
    refine g_istore_n C d_M_lookOut_52 rfl (by decide) ?_
    refine g_aload_n C d_M_lookOut_53 rfl (upG rfl rfl) ?_
    refine g_getR (b := 20) (k := 26) C k_M (by decide) fl_M_69 rfl rfl d_M_lookOut_54 ?_
    refine g_iload_n C d_M_lookOut_57 rfl (upG rfl rfl) ?_
    refine g_iald C rfl d_M_lookOut_58 hf (fun hf => ?_)
    refine g_iload_n C d_M_lookOut_59 rfl upS ?_
    refine g_irem C d_M_lookOut_60 hf (fun hf => ?_)
    refine g_istore_n C d_M_lookOut_61 rfl (by decide) ?_
    refine g_iconst (v := 0) C d_M_lookOut_62 (by decide) ?_
    refine g_istore C d_M_lookOut_63 (by decide) ?_
    exact t_M_lookOut_L65 C N N _ _ _ _ _ _ ((upG (upG (upG rfl rfl) rfl) rfl)) ((upG (upG (upG rfl rfl) rfl) rfl)) ((upG (upG upS rfl) rfl)) ((upG upS rfl)) upS hf
set_option maxHeartbeats 4000000 in
theorem t_M_laySeen_B59 {ad : Nat → Nat} {dA : Nat → ClassId} {D : va_G} {p : Program} {l : Launch} {e : Env} {s : State} {m : MethodId} {args : Array Value} {below : List Frame} {meth : Method} {c : Code} {r : Int32} {μ' : Mm} (C : Cx CLS SHM ad dA D p s m args meth c c_M_laySeen 2 R_M (some .boolean)) (N : Nat)   (k38 : Int32 → Mm → Option (Int32 × Mm)) (hk38 : ∀ (v1 : Int32) (μ : Mm) (lv : Nat → Option Value), lv 0 = some (.ref (ad 0)) → lv 1 = some (.int v1) → k38 v1 μ = some (r, μ') → Go CLS SHM ad dA D p l e (rmD 6) s m args below meth c 2 (some (.int r)) μ' 38 lv [] μ) : ∀ (v1 : Int32) (μ : Mm) (lv : Nat → Option Value), lv 0 = some (.ref (ad 0)) → lv 1 = some (.int v1) → f_M_laySeen_B59 N k38 v1 μ = some (r, μ') → Go CLS SHM ad dA D p l e (rmD 6) s m args below meth c 2 (some (.int r)) μ' 59 lv [] μ := by
  intro v1 μ lv hl0 hl1 hf
  unfold f_M_laySeen_B59 at hf
  refine g_iinc (v := 1) C d_M_laySeen_59 hl1 (by decide) (by decide) ?_
  refine g_goto (tgt := 38) C d_M_laySeen_62 (by decide) ?_
  exact hk38 _ _ _ ((upG hl0 rfl)) upS hf
set_option maxHeartbeats 4000000 in
theorem t_M_laySeen_L38 {ad : Nat → Nat} {dA : Nat → ClassId} {D : va_G} {p : Program} {l : Launch} {e : Env} {s : State} {m : MethodId} {args : Array Value} {below : List Frame} {meth : Method} {c : Code} {r : Int32} {μ' : Mm} (C : Cx CLS SHM ad dA D p s m args meth c c_M_laySeen 2 R_M (some .boolean)) (N : Nat)   : ∀ (n : Nat) (v1 : Int32) (μ : Mm) (lv : Nat → Option Value), lv 0 = some (.ref (ad 0)) → lv 1 = some (.int v1) → f_M_laySeen_L38 N n v1 μ = some (r, μ') → Go CLS SHM ad dA D p l e (rmD 6) s m args below meth c 2 (some (.int r)) μ' 38 lv [] μ := by
  intro n
  induction n with
  | zero => intro v1 μ lv hl0 hl1 hf; cases (show none = some _ from hf)
  | succ n ih =>
    intro v1 μ lv hl0 hl1 hf
    unfold f_M_laySeen_L38 at hf
    refine g_iload_n C d_M_laySeen_38 rfl hl1 ?_
    refine g_aload_n C d_M_laySeen_39 rfl hl0 ?_
    refine g_getI (k := 15) C k_M (by decide) fl_M_162 rfl rfl d_M_laySeen_40 ?_
    refine g_icmp_ge (tgt := 65) C d_M_laySeen_43 (by decide) hf (fun c8 hf => ?_) (fun c8 hf => ?_)
    · refine g_iconst (v := 1) C d_M_laySeen_65 (by decide) ?_
      exact g_zretc C d_M_laySeen_66 rfl hf
    · refine g_aload_n C d_M_laySeen_46 rfl hl0 ?_
      refine g_iload_n C d_M_laySeen_47 rfl hl1 ?_
      refine g_cvI C k_M rfl mv_M_goes ml_M_193 d_M_laySeen_48 hf (fun r μ1 h => t_M_goes C.2.2.2.2.2.2.2.2.1 h) rfl rfl (by decide) (Nat.le_of_ble_eq_true rfl) (fun r10 μ9 hf => ?_)
      refine g_if_eq (tgt := 59) C d_M_laySeen_51 (by decide) hf (fun c11 hf => ?_) (fun c11 hf => ?_)
      · exact t_M_laySeen_B59 C N _ ih _ _ _ hl0 hl1 hf
      · refine g_aload_n C d_M_laySeen_54 rfl hl0 ?_
        refine g_iload_n C d_M_laySeen_55 rfl hl1 ?_
        refine g_cvV C k_M rfl mv_M_lookOut ml_M_227 d_M_laySeen_56 hf (fun μ1 h => t_M_lookOut C.2.2.2.2.2.2.2.2.1 h) rfl rfl (by decide) (Nat.le_of_ble_eq_true rfl) (fun μ12 hf => ?_)
        exact t_M_laySeen_B59 C N _ ih _ _ _ hl0 hl1 hf
set_option maxHeartbeats 4000000 in
theorem t_M_laySeen_B36 {ad : Nat → Nat} {dA : Nat → ClassId} {D : va_G} {p : Program} {l : Launch} {e : Env} {s : State} {m : MethodId} {args : Array Value} {below : List Frame} {meth : Method} {c : Code} {r : Int32} {μ' : Mm} (C : Cx CLS SHM ad dA D p s m args meth c c_M_laySeen 2 R_M (some .boolean)) (N : Nat)   : ∀  (μ : Mm) (lv : Nat → Option Value), lv 0 = some (.ref (ad 0)) → f_M_laySeen_B36 N μ = some (r, μ') → Go CLS SHM ad dA D p l e (rmD 6) s m args below meth c 2 (some (.int r)) μ' 36 lv [] μ := by
  intro μ lv hl0 hf
  unfold f_M_laySeen_B36 at hf
  refine g_iconst (v := 0) C d_M_laySeen_36 (by decide) ?_
  refine g_istore_n C d_M_laySeen_37 rfl (by decide) ?_
  exact t_M_laySeen_L38 C N N _ _ _ ((upG hl0 rfl)) upS hf
set_option maxHeartbeats 4000000 in
theorem t_M_laySeen_L15 {ad : Nat → Nat} {dA : Nat → ClassId} {D : va_G} {p : Program} {l : Launch} {e : Env} {s : State} {m : MethodId} {args : Array Value} {below : List Frame} {meth : Method} {c : Code} {r : Int32} {μ' : Mm} (C : Cx CLS SHM ad dA D p s m args meth c c_M_laySeen 2 R_M (some .boolean)) (N : Nat)   : ∀ (n : Nat) (v1 : Int32) (μ : Mm) (lv : Nat → Option Value), lv 0 = some (.ref (ad 0)) → lv 1 = some (.int v1) → f_M_laySeen_L15 N n v1 μ = some (r, μ') → Go CLS SHM ad dA D p l e (rmD 6) s m args below meth c 2 (some (.int r)) μ' 15 lv [] μ := by
  intro n
  induction n with
  | zero => intro v1 μ lv hl0 hl1 hf; cases (show none = some _ from hf)
  | succ n ih =>
    intro v1 μ lv hl0 hl1 hf
    unfold f_M_laySeen_L15 at hf
    refine g_iload_n C d_M_laySeen_15 rfl hl1 ?_
    refine g_aload_n C d_M_laySeen_16 rfl hl0 ?_
    refine g_getI (k := 31) C k_M (by decide) fl_M_217 rfl rfl d_M_laySeen_17 ?_
    refine g_icmp_ge (tgt := 36) C d_M_laySeen_20 (by decide) hf (fun c5 hf => ?_) (fun c5 hf => ?_)
    · exact t_M_laySeen_B36 C N _ _ hl0 hf
    · refine g_aload_n C d_M_laySeen_23 rfl hl0 ?_
      refine g_getR (b := 21) (k := 32) C k_M (by decide) fl_M_72 rfl rfl d_M_laySeen_24 ?_
      refine g_iload_n C d_M_laySeen_27 rfl hl1 ?_
      refine g_iconst (v := 0) C d_M_laySeen_28 (by decide) ?_
      refine g_iast C rfl d_M_laySeen_29 hf (fun hf => ?_)
      refine g_iinc (v := 1) C d_M_laySeen_30 hl1 (by decide) (by decide) ?_
      refine g_goto (tgt := 15) C d_M_laySeen_33 (by decide) ?_
      exact ih _ _ _ ((upG hl0 rfl)) upS hf
set_option maxHeartbeats 4000000 in
theorem t_M_laySeen {l : Launch} {ad : Nat → Nat} {dA : Nat → ClassId} {D : va_G} (hi : Inj SHM ad) {N : Nat}   {μ μ' : Mm} {r : Int32} (hf : f_M_laySeen N  μ = some (r, μ')) : Ct CLS l SHM ad dA D y_M_laySeen c_M_laySeen 2 (some .boolean) 6 [.ref (ad 0)] μ (some (.int r)) μ' := by
  unfold f_M_laySeen at hf
  refine ct_of (by decide) hi (Nat.le_of_ble_eq_true rfl) ?_
  intro p e s m args below meth c C
  refine g_aload_n C d_M_laySeen_0 rfl rfl ?_
  refine g_cvI C k_M rfl mv_M_layJoint ml_M_223 d_M_laySeen_1 hf (fun r μ1 h => t_M_layJoint C.2.2.2.2.2.2.2.2.1 h) rfl rfl (by decide) (Nat.le_of_ble_eq_true rfl) (fun r2 μ1 hf => ?_)
  refine g_if_ne (tgt := 9) C d_M_laySeen_4 (by decide) hf (fun c3 hf => ?_) (fun c3 hf => ?_)
  · refine g_iconst (v := 0) C d_M_laySeen_7 (by decide) ?_
    exact g_zretc C d_M_laySeen_8 rfl hf
  · refine g_aload_n C d_M_laySeen_9 rfl rfl ?_
    refine g_cvV C k_M rfl mv_M_layFars ml_M_159 d_M_laySeen_10 hf (fun μ1 h => t_M_layFars C.2.2.2.2.2.2.2.2.1 h) rfl rfl (by decide) (Nat.le_of_ble_eq_true rfl) (fun μ4 hf => ?_)
    refine g_iconst (v := 0) C d_M_laySeen_13 (by decide) ?_
    refine g_istore_n C d_M_laySeen_14 rfl (by decide) ?_
    exact t_M_laySeen_L15 C N N _ _ _ ((upG rfl rfl)) upS hf
set_option maxHeartbeats 4000000 in
theorem t_M_joint {l : Launch} {ad : Nat → Nat} {dA : Nat → ClassId} {D : va_G} (hi : Inj SHM ad) {N : Nat}   {μ μ' : Mm} {r : Int32} (hf : f_M_joint N  μ = some (r, μ')) : Ct CLS l SHM ad dA D y_M_joint c_M_joint 1 (some .int) 6 [.ref (ad 0)] μ (some (.int r)) μ' := by
  unfold f_M_joint at hf
  refine ct_of (by decide) hi (Nat.le_of_ble_eq_true rfl) ?_
  intro p e s m args below meth c C
  refine g_aload_n C d_M_joint_0 rfl rfl ?_
  refine g_cvI C k_M rfl mv_M_layJoint ml_M_223 d_M_joint_1 hf (fun r μ1 h => t_M_layJoint C.2.2.2.2.2.2.2.2.1 h) rfl rfl (by decide) (Nat.le_of_ble_eq_true rfl) (fun r2 μ1 hf => ?_)
  refine g_if_eq (tgt := 14) C d_M_joint_4 (by decide) hf (fun c3 hf => ?_) (fun c3 hf => ?_)
  · refine g_bipush (v := -6) C d_M_joint_14 (by decide) ?_
    exact g_iret C d_M_joint_16 hf
  · refine g_aload_n C d_M_joint_7 rfl rfl ?_
    refine g_getI (k := 31) C k_M (by decide) fl_M_217 rfl rfl d_M_joint_8 ?_
    refine g_goto (tgt := 16) C d_M_joint_11 (by decide) ?_
    exact g_iret C d_M_joint_16 hf
set_option maxHeartbeats 4000000 in
theorem t_M_seen_B63 {ad : Nat → Nat} {dA : Nat → ClassId} {D : va_G} {p : Program} {l : Launch} {e : Env} {s : State} {m : MethodId} {args : Array Value} {below : List Frame} {meth : Method} {c : Code} {r : Int32} {μ' : Mm} (C : Cx CLS SHM ad dA D p s m args meth c c_M_seen 5 R_M (some .int)) (N : Nat)   : ∀ (v2 : Int32) (v3 : Int32) (μ : Mm) (lv : Nat → Option Value), lv 0 = some (.ref (ad 0)) → lv 2 = some (.int v2) → lv 3 = some (.int v3) → f_M_seen_B63 N v2 v3 μ = some (r, μ') → Go CLS SHM ad dA D p l e (rmD 7) s m args below meth c 5 (some (.int r)) μ' 63 lv [] μ := by
  intro v2 v3 μ lv hl0 hl2 hl3 hf
  unfold f_M_seen_B63 at hf
  refine g_aload_n C d_M_seen_63 rfl hl0 ?_
  refine g_iload_n C d_M_seen_64 rfl hl2 ?_
  refine g_iload_n C d_M_seen_65 rfl hl3 ?_
  refine g_cvI C k_M rfl mv_M_tells ml_M_234 d_M_seen_66 hf (fun r μ1 h => t_M_tells C.2.2.2.2.2.2.2.2.1 h) rfl rfl (by decide) (Nat.le_of_ble_eq_true rfl) (fun r14 μ13 hf => ?_)
  exact g_iret C d_M_seen_69 hf
set_option maxHeartbeats 4000000 in
theorem t_M_seen_L39 {ad : Nat → Nat} {dA : Nat → ClassId} {D : va_G} {p : Program} {l : Launch} {e : Env} {s : State} {m : MethodId} {args : Array Value} {below : List Frame} {meth : Method} {c : Code} {r : Int32} {μ' : Mm} (C : Cx CLS SHM ad dA D p s m args meth c c_M_seen 5 R_M (some .int)) (N : Nat)   : ∀ (n : Nat) (v2 : Int32) (v3 : Int32) (v4 : Int32) (μ : Mm) (lv : Nat → Option Value), lv 0 = some (.ref (ad 0)) → lv 2 = some (.int v2) → lv 3 = some (.int v3) → lv 4 = some (.int v4) → f_M_seen_L39 N n v2 v3 v4 μ = some (r, μ') → Go CLS SHM ad dA D p l e (rmD 7) s m args below meth c 5 (some (.int r)) μ' 39 lv [] μ := by
  intro n
  induction n with
  | zero => intro v2 v3 v4 μ lv hl0 hl2 hl3 hl4 hf; cases (show none = some _ from hf)
  | succ n ih =>
    intro v2 v3 v4 μ lv hl0 hl2 hl3 hl4 hf
    unfold f_M_seen_L39 at hf
    refine g_iload C d_M_seen_39 hl4 ?_
    refine g_aload_n C d_M_seen_41 rfl hl0 ?_
    refine g_getI (k := 9) C k_M (by decide) fl_M_111 rfl rfl d_M_seen_42 ?_
    refine g_icmp_ge (tgt := 63) C d_M_seen_45 (by decide) hf (fun c10 hf => ?_) (fun c10 hf => ?_)
    · exact t_M_seen_B63 C N _ _ _ _ hl0 hl2 hl3 hf
    · refine g_iload_n C d_M_seen_48 rfl hl3 ?_
      refine g_iload_n C d_M_seen_49 rfl hl2 ?_
      refine g_iload C d_M_seen_50 hl4 ?_
      refine g_ishr C d_M_seen_52 ?_
      refine g_iconst (v := 1) C d_M_seen_53 (by decide) ?_
      refine g_iand C d_M_seen_54 ?_
      refine g_iadd C d_M_seen_55 ?_
      refine g_istore_n C d_M_seen_56 rfl (by decide) ?_
      refine g_iinc (v := 1) C d_M_seen_57 (upG hl4 rfl) (by decide) (by decide) ?_
      refine g_goto (tgt := 39) C d_M_seen_60 (by decide) ?_
      exact ih _ _ _ _ _ ((upG (upG hl0 rfl) rfl)) ((upG (upG hl2 rfl) rfl)) ((upG upS rfl)) upS hf
set_option maxHeartbeats 4000000 in
theorem t_M_seen {l : Launch} {ad : Nat → Nat} {dA : Nat → ClassId} {D : va_G} (hi : Inj SHM ad) {N : Nat} {a1 : Int32}  {μ μ' : Mm} {r : Int32} (hf : f_M_seen N a1 μ = some (r, μ')) : Ct CLS l SHM ad dA D y_M_seen c_M_seen 5 (some .int) 7 [.ref (ad 0), .int a1] μ (some (.int r)) μ' := by
  unfold f_M_seen at hf
  refine ct_of (by decide) hi (Nat.le_of_ble_eq_true rfl) ?_
  intro p e s m args below meth c C
  refine g_iload_n C d_M_seen_0 rfl rfl ?_
  refine g_iconst (v := 0) C d_M_seen_1 (by decide) ?_
  refine g_ldc C ck_M_211 d_M_seen_2 ?_
  refine g_csI C mv_M_in ml_M_117 d_M_seen_4 hf (fun r μ1 h => t_M_in C.2.2.2.2.2.2.2.2.1 h) rfl rfl (by decide) (Nat.le_of_ble_eq_true rfl) (fun r2 μ1 hf => ?_)
  refine g_if_ne (tgt := 12) C d_M_seen_7 (by decide) hf (fun c3 hf => ?_) (fun c3 hf => ?_)
  · refine g_iconst (v := -1) C d_M_seen_10 (by decide) ?_
    exact g_iret C d_M_seen_11 hf
  · refine g_aload_n C d_M_seen_12 rfl rfl ?_
    refine g_cvI C k_M rfl mv_M_laySeen ml_M_231 d_M_seen_13 hf (fun r μ1 h => t_M_laySeen C.2.2.2.2.2.2.2.2.1 h) rfl rfl (by decide) (Nat.le_of_ble_eq_true rfl) (fun r5 μ4 hf => ?_)
    refine g_if_ne (tgt := 22) C d_M_seen_16 (by decide) hf (fun c6 hf => ?_) (fun c6 hf => ?_)
    · refine g_bipush (v := -6) C d_M_seen_19 (by decide) ?_
      exact g_iret C d_M_seen_21 hf
    · refine g_aload_n C d_M_seen_22 rfl rfl ?_
      refine g_getR (b := 21) (k := 32) C k_M (by decide) fl_M_72 rfl rfl d_M_seen_23 ?_
      refine g_iload_n C d_M_seen_26 rfl rfl ?_
      refine g_aload_n C d_M_seen_27 rfl rfl ?_
      refine g_getI (k := 31) C k_M (by decide) fl_M_217 rfl rfl d_M_seen_28 ?_
      refine g_irem C d_M_seen_31 hf (fun hf => ?_)
      refine g_iald C rfl d_M_seen_32 hf (fun hf => ?_)
      refine g_istore_n C d_M_seen_33 rfl (by decide) ?_
      refine g_iconst (v := 0) C d_M_seen_34 (by decide) ?_
      refine g_istore_n C d_M_seen_35 rfl (by decide) ?_
      refine g_iconst (v := 0) C d_M_seen_36 (by decide) ?_
      refine g_istore C d_M_seen_37 (by decide) ?_
      exact t_M_seen_L39 C N N _ _ _ _ _ ((upG (upG (upG rfl rfl) rfl) rfl)) ((upG (upG upS rfl) rfl)) ((upG upS rfl)) upS hf
set_option maxHeartbeats 4000000 in
theorem t_M_isSeen {l : Launch} {ad : Nat → Nat} {dA : Nat → ClassId} {D : va_G} (hi : Inj SHM ad) {N : Nat} {a1 : Int32} {a2 : Int32}  {μ μ' : Mm} {r : Int32} (hf : f_M_isSeen N a1 a2 μ = some (r, μ')) : Ct CLS l SHM ad dA D y_M_isSeen c_M_isSeen 3 (some .boolean) 0 [.ref (ad 0), .int a1, .int a2] μ (some (.int r)) μ' := by
  unfold f_M_isSeen at hf
  refine ct_of (by decide) hi (Nat.le_of_ble_eq_true rfl) ?_
  intro p e s m args below meth c C
  refine g_aload_n C d_M_isSeen_0 rfl rfl ?_
  refine g_getR (b := 21) (k := 32) C k_M (by decide) fl_M_72 rfl rfl d_M_isSeen_1 ?_
  refine g_iload_n C d_M_isSeen_4 rfl rfl ?_
  refine g_aload_n C d_M_isSeen_5 rfl rfl ?_
  refine g_getI (k := 31) C k_M (by decide) fl_M_217 rfl rfl d_M_isSeen_6 ?_
  refine g_irem C d_M_isSeen_9 hf (fun hf => ?_)
  refine g_iald C rfl d_M_isSeen_10 hf (fun hf => ?_)
  refine g_iload_n C d_M_isSeen_11 rfl rfl ?_
  refine g_ishr C d_M_isSeen_12 ?_
  refine g_iconst (v := 1) C d_M_isSeen_13 (by decide) ?_
  refine g_iand C d_M_isSeen_14 ?_
  refine g_iconst (v := 1) C d_M_isSeen_15 (by decide) ?_
  refine g_icmp_ne (tgt := 23) C d_M_isSeen_16 (by decide) hf (fun c3 hf => ?_) (fun c3 hf => ?_)
  · refine g_iconst (v := 1) C d_M_isSeen_19 (by decide) ?_
    refine g_goto (tgt := 24) C d_M_isSeen_20 (by decide) ?_
    exact g_zretc C d_M_isSeen_24 rfl hf
  · refine g_iconst (v := 0) C d_M_isSeen_23 (by decide) ?_
    exact g_zretc C d_M_isSeen_24 rfl hf
set_option maxHeartbeats 4000000 in
theorem t_M_closeRow_B67 {ad : Nat → Nat} {dA : Nat → ClassId} {D : va_G} {p : Program} {l : Launch} {e : Env} {s : State} {m : MethodId} {args : Array Value} {below : List Frame} {meth : Method} {c : Code} {μ' : Mm} (C : Cx CLS SHM ad dA D p s m args meth c c_M_closeRow 5 R_M (none)) (N : Nat)   : ∀ (s1 : Int32) (s2 : Int32) (μ : Mm) (lv : Nat → Option Value), f_M_closeRow_B67 N s1 s2 μ = some μ' → Go CLS SHM ad dA D p l e (rmD 0) s m args below meth c 5 none μ' 67 lv [.int s2, .int s1, .ref (ad 0)] μ := by
  intro s1 s2 μ lv hf
  unfold f_M_closeRow_B67 at hf
  refine g_iadd C d_M_closeRow_67 ?_
  refine g_putI (k := 35) C k_M (by decide) fl_M_243 rfl rfl rfl rfl d_M_closeRow_68 ?_
  exact g_vret C d_M_closeRow_71 hf
set_option maxHeartbeats 4000000 in
theorem t_M_closeRow_B48 {ad : Nat → Nat} {dA : Nat → ClassId} {D : va_G} {p : Program} {l : Launch} {e : Env} {s : State} {m : MethodId} {args : Array Value} {below : List Frame} {meth : Method} {c : Code} {μ' : Mm} (C : Cx CLS SHM ad dA D p s m args meth c c_M_closeRow 5 R_M (none)) (N : Nat)   : ∀ (v1 : Int32) (v3 : Int32) (μ : Mm) (lv : Nat → Option Value), lv 0 = some (.ref (ad 0)) → lv 1 = some (.int v1) → lv 3 = some (.int v3) → f_M_closeRow_B48 N v1 v3 μ = some μ' → Go CLS SHM ad dA D p l e (rmD 0) s m args below meth c 5 none μ' 48 lv [] μ := by
  intro v1 v3 μ lv hl0 hl1 hl3 hf
  unfold f_M_closeRow_B48 at hf
  refine g_aload_n C d_M_closeRow_48 rfl hl0 ?_
  refine g_dup C d_M_closeRow_49 rfl ?_
  refine g_getI (k := 35) C k_M (by decide) fl_M_243 rfl rfl d_M_closeRow_50 ?_
  refine g_iload_n C d_M_closeRow_53 rfl hl1 ?_
  refine g_iload_n C d_M_closeRow_54 rfl hl3 ?_
  refine g_icmp_lt (tgt := 66) C d_M_closeRow_55 (by decide) hf (fun c7 hf => ?_) (fun c7 hf => ?_)
  · refine g_iconst (v := 0) C d_M_closeRow_66 (by decide) ?_
    exact t_M_closeRow_B67 C N _ _ _ _ hf
  · refine g_iload_n C d_M_closeRow_58 rfl hl1 ?_
    refine g_iload_n C d_M_closeRow_59 rfl hl3 ?_
    refine g_isub C d_M_closeRow_60 ?_
    refine g_iconst (v := 1) C d_M_closeRow_61 (by decide) ?_
    refine g_iadd C d_M_closeRow_62 ?_
    refine g_goto (tgt := 67) C d_M_closeRow_63 (by decide) ?_
    exact t_M_closeRow_B67 C N _ _ _ _ hf
set_option maxHeartbeats 4000000 in
theorem t_M_closeRow_B37 {ad : Nat → Nat} {dA : Nat → ClassId} {D : va_G} {p : Program} {l : Launch} {e : Env} {s : State} {m : MethodId} {args : Array Value} {below : List Frame} {meth : Method} {c : Code} {μ' : Mm} (C : Cx CLS SHM ad dA D p s m args meth c c_M_closeRow 5 R_M (none)) (N : Nat)   : ∀ (v1 : Int32) (v3 : Int32) (v4 : Int32) (μ : Mm) (lv : Nat → Option Value), lv 0 = some (.ref (ad 0)) → lv 1 = some (.int v1) → lv 3 = some (.int v3) → lv 4 = some (.int v4) → f_M_closeRow_B37 N v1 v3 v4 μ = some μ' → Go CLS SHM ad dA D p l e (rmD 0) s m args below meth c 5 none μ' 37 lv [] μ := by
  intro v1 v3 v4 μ lv hl0 hl1 hl3 hl4 hf
  unfold f_M_closeRow_B37 at hf
  refine g_aload_n C d_M_closeRow_37 rfl hl0 ?_
  refine g_iload_n C d_M_closeRow_38 rfl hl1 ?_
  refine g_putI (k := 33) C k_M (by decide) fl_M_237 rfl rfl rfl rfl d_M_closeRow_39 ?_
  refine g_aload_n C d_M_closeRow_42 rfl hl0 ?_
  refine g_iload C d_M_closeRow_43 hl4 ?_
  refine g_putI (k := 34) C k_M (by decide) fl_M_240 rfl rfl rfl rfl d_M_closeRow_45 ?_
  exact t_M_closeRow_B48 C N _ _ _ _ hl0 hl1 hl3 hf
set_option maxHeartbeats 4000000 in
theorem t_M_closeRow {l : Launch} {ad : Nat → Nat} {dA : Nat → ClassId} {D : va_G} (hi : Inj SHM ad) {N : Nat} {a1 : Int32} {a2 : Int32} {a3 : Int32}  {μ μ' : Mm} (hf : f_M_closeRow N a1 a2 a3 μ = some μ') : Ct CLS l SHM ad dA D y_M_closeRow c_M_closeRow 5 (none) 0 [.ref (ad 0), .int a1, .int a2, .int a3] μ none μ' := by
  unfold f_M_closeRow at hf
  refine ct_of (by decide) hi (Nat.le_of_ble_eq_true rfl) ?_
  intro p e s m args below meth c C
  refine g_iload_n C d_M_closeRow_0 rfl rfl ?_
  refine g_aload_n C d_M_closeRow_1 rfl rfl ?_
  refine g_getI (k := 31) C k_M (by decide) fl_M_217 rfl rfl d_M_closeRow_2 ?_
  refine g_irem C d_M_closeRow_5 hf (fun hf => ?_)
  refine g_istore C d_M_closeRow_6 (by decide) ?_
  refine g_iload_n C d_M_closeRow_8 rfl (upG rfl rfl) ?_
  refine g_aload_n C d_M_closeRow_9 rfl (upG rfl rfl) ?_
  refine g_getI (k := 33) C k_M (by decide) fl_M_237 rfl rfl d_M_closeRow_10 ?_
  refine g_icmp_gt (tgt := 37) C d_M_closeRow_13 (by decide) hf (fun c3 hf => ?_) (fun c3 hf => ?_)
  · exact t_M_closeRow_B37 C N _ _ _ _ _ ((upG rfl rfl)) ((upG rfl rfl)) ((upG rfl rfl)) upS hf
  · refine g_iload_n C d_M_closeRow_16 rfl (upG rfl rfl) ?_
    refine g_if_le (tgt := 48) C d_M_closeRow_17 (by decide) hf (fun c4 hf => ?_) (fun c4 hf => ?_)
    · exact t_M_closeRow_B48 C N _ _ _ _ ((upG rfl rfl)) ((upG rfl rfl)) ((upG rfl rfl)) hf
    · refine g_iload_n C d_M_closeRow_20 rfl (upG rfl rfl) ?_
      refine g_aload_n C d_M_closeRow_21 rfl (upG rfl rfl) ?_
      refine g_getI (k := 33) C k_M (by decide) fl_M_237 rfl rfl d_M_closeRow_22 ?_
      refine g_icmp_ne (tgt := 48) C d_M_closeRow_25 (by decide) hf (fun c5 hf => ?_) (fun c5 hf => ?_)
      · refine g_iload C d_M_closeRow_28 upS ?_
        refine g_aload_n C d_M_closeRow_30 rfl (upG rfl rfl) ?_
        refine g_getI (k := 34) C k_M (by decide) fl_M_240 rfl rfl d_M_closeRow_31 ?_
        refine g_icmp_ge (tgt := 48) C d_M_closeRow_34 (by decide) hf (fun c6 hf => ?_) (fun c6 hf => ?_)
        · exact t_M_closeRow_B48 C N _ _ _ _ ((upG rfl rfl)) ((upG rfl rfl)) ((upG rfl rfl)) hf
        · exact t_M_closeRow_B37 C N _ _ _ _ _ ((upG rfl rfl)) ((upG rfl rfl)) ((upG rfl rfl)) upS hf
      · exact t_M_closeRow_B48 C N _ _ _ _ ((upG rfl rfl)) ((upG rfl rfl)) ((upG rfl rfl)) hf
