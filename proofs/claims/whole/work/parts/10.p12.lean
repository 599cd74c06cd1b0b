set_option maxHeartbeats 4000000 in
theorem t_M_meetFrom_B224 {ad : Nat → Nat} {dA : Nat → ClassId} {D : va_G} {p : Program} {l : Launch} {e : Env} {s : State} {m : MethodId} {args : Array Value} {below : List Frame} {meth : Method} {c : Code} {r : Int64} {μ' : Mm} (C : Cx CLS SHM ad dA D p s m args meth c c_M_meetFrom 19 R_M (some .long)) (N : Nat)   : ∀  (μ : Mm) (lv : Nat → Option Value), f_M_meetFrom_B224 N μ = some (r, μ') → Go CLS SHM ad dA D p l e (rmD 5) s m args below meth c 19 (some (.long r)) μ' 224 lv [] μ := by
  intro μ lv hf
  unfold f_M_meetFrom_B224 at hf
  refine g_ldc2 C cl_M_306 d_M_meetFrom_224 ?_
  exact g_lret C d_M_meetFrom_227 hf
set_option maxHeartbeats 4000000 in
theorem t_M_meetFrom_B218 {ad : Nat → Nat} {dA : Nat → ClassId} {D : va_G} {p : Program} {l : Launch} {e : Env} {s : State} {m : MethodId} {args : Array Value} {below : List Frame} {meth : Method} {c : Code} {r : Int64} {μ' : Mm} (C : Cx CLS SHM ad dA D p s m args meth c c_M_meetFrom 19 R_M (some .long)) (N : Nat)   (k20 : Int32 → Int32 → Int64 → Int64 → Int32 → Int32 → Mm → Option (Int64 × Mm)) (hk20 : ∀ (v1 : Int32) (v2 : Int32) (v3 : Int64) (v5 : Int64) (v7 : Int32) (v8 : Int32) (μ : Mm) (lv : Nat → Option Value), lv 0 = some (.ref (ad 0)) → lv 1 = some (.int v1) → lv 2 = some (.int v2) → lv 3 = some (.long v3) → lv 5 = some (.long v5) → lv 7 = some (.int v7) → lv 8 = some (.int v8) → k20 v1 v2 v3 v5 v7 v8 μ = some (r, μ') → Go CLS SHM ad dA D p l e (rmD 5) s m args below meth c 19 (some (.long r)) μ' 20 lv [] μ) : ∀ (v1 : Int32) (v2 : Int32) (v3 : Int64) (v5 : Int64) (v7 : Int32) (v8 : Int32) (μ : Mm) (lv : Nat → Option Value), lv 0 = some (.ref (ad 0)) → lv 1 = some (.int v1) → lv 2 = some (.int v2) → lv 3 = some (.long v3) → lv 5 = some (.long v5) → lv 7 = some (.int v7) → lv 8 = some (.int v8) → f_M_meetFrom_B218 N k20 v1 v2 v3 v5 v7 v8 μ = some (r, μ') → Go CLS SHM ad dA D p l e (rmD 5) s m args below meth c 19 (some (.long r)) μ' 218 lv [] μ := by
  intro v1 v2 v3 v5 v7 v8 μ lv hl0 hl1 hl2 hl3 hl5 hl7 hl8 hf
  unfold f_M_meetFrom_B218 at hf
  refine g_iinc (v := 1) C d_M_meetFrom_218 hl8 (by decide) (by decide) ?_
  refine g_goto (tgt := 20) C d_M_meetFrom_221 (by decide) ?_
  exact hk20 _ _ _ _ _ _ _ _ ((upG hl0 rfl)) ((upG hl1 rfl)) ((upG hl2 rfl)) ((upG hl3 rfl)) ((upG hl5 rfl)) ((upG hl7 rfl)) upS hf
set_option maxHeartbeats 4000000 in
theorem t_M_meetFrom_B184 {ad : Nat → Nat} {dA : Nat → ClassId} {D : va_G} {p : Program} {l : Launch} {e : Env} {s : State} {m : MethodId} {args : Array Value} {below : List Frame} {meth : Method} {c : Code} {r : Int64} {μ' : Mm} (C : Cx CLS SHM ad dA D p s m args meth c c_M_meetFrom 19 R_M (some .long)) (N : Nat)   (k20 : Int32 → Int32 → Int64 → Int64 → Int32 → Int32 → Mm → Option (Int64 × Mm)) (hk20 : ∀ (v1 : Int32) (v2 : Int32) (v3 : Int64) (v5 : Int64) (v7 : Int32) (v8 : Int32) (μ : Mm) (lv : Nat → Option Value), lv 0 = some (.ref (ad 0)) → lv 1 = some (.int v1) → lv 2 = some (.int v2) → lv 3 = some (.long v3) → lv 5 = some (.long v5) → lv 7 = some (.int v7) → lv 8 = some (.int v8) → k20 v1 v2 v3 v5 v7 v8 μ = some (r, μ') → Go CLS SHM ad dA D p l e (rmD 5) s m args below meth c 19 (some (.long r)) μ' 20 lv [] μ) : ∀ (v1 : Int32) (v2 : Int32) (v3 : Int64) (v5 : Int64) (v7 : Int32) (v8 : Int32) (v13 : Int64) (s0 : Int64) (μ : Mm) (lv : Nat → Option Value), lv 0 = some (.ref (ad 0)) → lv 1 = some (.int v1) → lv 2 = some (.int v2) → lv 3 = some (.long v3) → lv 5 = some (.long v5) → lv 7 = some (.int v7) → lv 8 = some (.int v8) → lv 13 = some (.long v13) → f_M_meetFrom_B184 N k20 v1 v2 v3 v5 v7 v8 v13 s0 μ = some (r, μ') → Go CLS SHM ad dA D p l e (rmD 5) s m args below meth c 19 (some (.long r)) μ' 184 lv [.long s0] μ := by
  intro v1 v2 v3 v5 v7 v8 v13 s0 μ lv hl0 hl1 hl2 hl3 hl5 hl7 hl8 hl13 hf
  unfold f_M_meetFrom_B184 at hf
  refine g_lstore C d_M_meetFrom_184 (by decide) ?_
  refine g_iload C d_M_meetFrom_186 (upG hl8 rfl) ?_
  refine g_i2l C d_M_meetFrom_188 ?_
  refine g_ldc2 C cl_M_297 d_M_meetFrom_189 ?_
  refine g_lmul C d_M_meetFrom_192 ?_
  refine g_ldc2 C cl_M_297 d_M_meetFrom_193 ?_
  refine g_lload C d_M_meetFrom_196 (upG hl13 rfl) ?_
  refine g_lload C d_M_meetFrom_198 upS ?_
  refine g_ladd C d_M_meetFrom_200 ?_
  refine g_ldiv C d_M_meetFrom_201 hf (fun hf => ?_)
  refine g_lload C d_M_meetFrom_202 (upG hl13 rfl) ?_
  refine g_lmul C d_M_meetFrom_204 ?_
  refine g_ladd C d_M_meetFrom_205 ?_
  refine g_lstore C d_M_meetFrom_206 (by decide) ?_
  refine g_lload C d_M_meetFrom_208 upS ?_
  refine g_lload_n C d_M_meetFrom_210 rfl (upG (upG hl3 rfl) rfl) ?_
  refine g_lcmp C d_M_meetFrom_211 ?_
  refine g_if_lt (tgt := 218) C d_M_meetFrom_212 (by decide) hf (fun c21 hf => ?_) (fun c21 hf => ?_)
  · exact t_M_meetFrom_B218 C N _ hk20 _ _ _ _ _ _ _ _ ((upG (upG hl0 rfl) rfl)) ((upG (upG hl1 rfl) rfl)) ((upG (upG hl2 rfl) rfl)) ((upG (upG hl3 rfl) rfl)) ((upG (upG hl5 rfl) rfl)) ((upG (upG hl7 rfl) rfl)) ((upG (upG hl8 rfl) rfl)) hf
  · refine g_lload C d_M_meetFrom_215 upS ?_
    exact g_lret C d_M_meetFrom_217 hf
set_option maxHeartbeats 4000000 in
theorem t_M_meetFrom_B167 {ad : Nat → Nat} {dA : Nat → ClassId} {D : va_G} {p : Program} {l : Launch} {e : Env} {s : State} {m : MethodId} {args : Array Value} {below : List Frame} {meth : Method} {c : Code} {r : Int64} {μ' : Mm} (C : Cx CLS SHM ad dA D p s m args meth c c_M_meetFrom 19 R_M (some .long)) (N : Nat)   (k20 : Int32 → Int32 → Int64 → Int64 → Int32 → Int32 → Mm → Option (Int64 × Mm)) (hk20 : ∀ (v1 : Int32) (v2 : Int32) (v3 : Int64) (v5 : Int64) (v7 : Int32) (v8 : Int32) (μ : Mm) (lv : Nat → Option Value), lv 0 = some (.ref (ad 0)) → lv 1 = some (.int v1) → lv 2 = some (.int v2) → lv 3 = some (.long v3) → lv 5 = some (.long v5) → lv 7 = some (.int v7) → lv 8 = some (.int v8) → k20 v1 v2 v3 v5 v7 v8 μ = some (r, μ') → Go CLS SHM ad dA D p l e (rmD 5) s m args below meth c 19 (some (.long r)) μ' 20 lv [] μ) : ∀ (v1 : Int32) (v2 : Int32) (v3 : Int64) (v5 : Int64) (v7 : Int32) (v8 : Int32) (v11 : Int64) (s0 : Int64) (μ : Mm) (lv : Nat → Option Value), lv 0 = some (.ref (ad 0)) → lv 1 = some (.int v1) → lv 2 = some (.int v2) → lv 3 = some (.long v3) → lv 5 = some (.long v5) → lv 7 = some (.int v7) → lv 8 = some (.int v8) → lv 11 = some (.long v11) → f_M_meetFrom_B167 N k20 v1 v2 v3 v5 v7 v8 v11 s0 μ = some (r, μ') → Go CLS SHM ad dA D p l e (rmD 5) s m args below meth c 19 (some (.long r)) μ' 167 lv [.long s0] μ := by
  intro v1 v2 v3 v5 v7 v8 v11 s0 μ lv hl0 hl1 hl2 hl3 hl5 hl7 hl8 hl11 hf
  unfold f_M_meetFrom_B167 at hf
  refine g_lstore C d_M_meetFrom_167 (by decide) ?_
  refine g_lload C d_M_meetFrom_169 (upG hl11 rfl) ?_
  refine g_lconst (v := 0) C d_M_meetFrom_171 (by decide) ?_
  refine g_lcmp C d_M_meetFrom_172 ?_
  refine g_if_ge (tgt := 182) C d_M_meetFrom_173 (by decide) hf (fun c18 hf => ?_) (fun c18 hf => ?_)
  · refine g_lload C d_M_meetFrom_182 (upG hl11 rfl) ?_
    exact t_M_meetFrom_B184 C N _ hk20 _ _ _ _ _ _ _ _ _ _ ((upG hl0 rfl)) ((upG hl1 rfl)) ((upG hl2 rfl)) ((upG hl3 rfl)) ((upG hl5 rfl)) ((upG hl7 rfl)) ((upG hl8 rfl)) upS hf
  · refine g_lload C d_M_meetFrom_176 (upG hl11 rfl) ?_
    refine g_lneg C d_M_meetFrom_178 ?_
    refine g_goto (tgt := 184) C d_M_meetFrom_179 (by decide) ?_
    exact t_M_meetFrom_B184 C N _ hk20 _ _ _ _ _ _ _ _ _ _ ((upG hl0 rfl)) ((upG hl1 rfl)) ((upG hl2 rfl)) ((upG hl3 rfl)) ((upG hl5 rfl)) ((upG hl7 rfl)) ((upG hl8 rfl)) upS hf
set_option maxHeartbeats 4000000 in
theorem t_M_meetFrom_B152 {ad : Nat → Nat} {dA : Nat → ClassId} {D : va_G} {p : Program} {l : Launch} {e : Env} {s : State} {m : MethodId} {args : Array Value} {below : List Frame} {meth : Method} {c : Code} {r : Int64} {μ' : Mm} (C : Cx CLS SHM ad dA D p s m args meth c c_M_meetFrom 19 R_M (some .long)) (N : Nat)   (k20 : Int32 → Int32 → Int64 → Int64 → Int32 → Int32 → Mm → Option (Int64 × Mm)) (hk20 : ∀ (v1 : Int32) (v2 : Int32) (v3 : Int64) (v5 : Int64) (v7 : Int32) (v8 : Int32) (μ : Mm) (lv : Nat → Option Value), lv 0 = some (.ref (ad 0)) → lv 1 = some (.int v1) → lv 2 = some (.int v2) → lv 3 = some (.long v3) → lv 5 = some (.long v5) → lv 7 = some (.int v7) → lv 8 = some (.int v8) → k20 v1 v2 v3 v5 v7 v8 μ = some (r, μ') → Go CLS SHM ad dA D p l e (rmD 5) s m args below meth c 19 (some (.long r)) μ' 20 lv [] μ) : ∀ (v1 : Int32) (v2 : Int32) (v3 : Int64) (v5 : Int64) (v7 : Int32) (v8 : Int32) (v9 : Int64) (v11 : Int64) (μ : Mm) (lv : Nat → Option Value), lv 0 = some (.ref (ad 0)) → lv 1 = some (.int v1) → lv 2 = some (.int v2) → lv 3 = some (.long v3) → lv 5 = some (.long v5) → lv 7 = some (.int v7) → lv 8 = some (.int v8) → lv 9 = some (.long v9) → lv 11 = some (.long v11) → f_M_meetFrom_B152 N k20 v1 v2 v3 v5 v7 v8 v9 v11 μ = some (r, μ') → Go CLS SHM ad dA D p l e (rmD 5) s m args below meth c 19 (some (.long r)) μ' 152 lv [] μ := by
  intro v1 v2 v3 v5 v7 v8 v9 v11 μ lv hl0 hl1 hl2 hl3 hl5 hl7 hl8 hl9 hl11 hf
  unfold f_M_meetFrom_B152 at hf
  refine g_lload C d_M_meetFrom_152 hl9 ?_
  refine g_lconst (v := 0) C d_M_meetFrom_154 (by decide) ?_
  refine g_lcmp C d_M_meetFrom_155 ?_
  refine g_if_ge (tgt := 165) C d_M_meetFrom_156 (by decide) hf (fun c17 hf => ?_) (fun c17 hf => ?_)
  · refine g_lload C d_M_meetFrom_165 hl9 ?_
    exact t_M_meetFrom_B167 C N _ hk20 _ _ _ _ _ _ _ _ _ _ hl0 hl1 hl2 hl3 hl5 hl7 hl8 hl11 hf
  · refine g_lload C d_M_meetFrom_159 hl9 ?_
    refine g_lneg C d_M_meetFrom_161 ?_
    refine g_goto (tgt := 167) C d_M_meetFrom_162 (by decide) ?_
    exact t_M_meetFrom_B167 C N _ hk20 _ _ _ _ _ _ _ _ _ _ hl0 hl1 hl2 hl3 hl5 hl7 hl8 hl11 hf
set_option maxHeartbeats 4000000 in
theorem t_M_meetFrom_B138 {ad : Nat → Nat} {dA : Nat → ClassId} {D : va_G} {p : Program} {l : Launch} {e : Env} {s : State} {m : MethodId} {args : Array Value} {below : List Frame} {meth : Method} {c : Code} {r : Int64} {μ' : Mm} (C : Cx CLS SHM ad dA D p s m args meth c c_M_meetFrom 19 R_M (some .long)) (N : Nat)   (k20 : Int32 → Int32 → Int64 → Int64 → Int32 → Int32 → Mm → Option (Int64 × Mm)) (hk20 : ∀ (v1 : Int32) (v2 : Int32) (v3 : Int64) (v5 : Int64) (v7 : Int32) (v8 : Int32) (μ : Mm) (lv : Nat → Option Value), lv 0 = some (.ref (ad 0)) → lv 1 = some (.int v1) → lv 2 = some (.int v2) → lv 3 = some (.long v3) → lv 5 = some (.long v5) → lv 7 = some (.int v7) → lv 8 = some (.int v8) → k20 v1 v2 v3 v5 v7 v8 μ = some (r, μ') → Go CLS SHM ad dA D p l e (rmD 5) s m args below meth c 19 (some (.long r)) μ' 20 lv [] μ) : ∀ (v1 : Int32) (v2 : Int32) (v3 : Int64) (v5 : Int64) (v7 : Int32) (v8 : Int32) (v9 : Int64) (v11 : Int64) (μ : Mm) (lv : Nat → Option Value), lv 0 = some (.ref (ad 0)) → lv 1 = some (.int v1) → lv 2 = some (.int v2) → lv 3 = some (.long v3) → lv 5 = some (.long v5) → lv 7 = some (.int v7) → lv 8 = some (.int v8) → lv 9 = some (.long v9) → lv 11 = some (.long v11) → f_M_meetFrom_B138 N k20 v1 v2 v3 v5 v7 v8 v9 v11 μ = some (r, μ') → Go CLS SHM ad dA D p l e (rmD 5) s m args below meth c 19 (some (.long r)) μ' 138 lv [] μ := by
  intro v1 v2 v3 v5 v7 v8 v9 v11 μ lv hl0 hl1 hl2 hl3 hl5 hl7 hl8 hl9 hl11 hf
  unfold f_M_meetFrom_B138 at hf
  refine g_lload C d_M_meetFrom_138 hl9 ?_
  refine g_lconst (v := 0) C d_M_meetFrom_140 (by decide) ?_
  refine g_lcmp C d_M_meetFrom_141 ?_
  refine g_if_le (tgt := 218) C d_M_meetFrom_142 (by decide) hf (fun c22 hf => ?_) (fun c22 hf => ?_)
  · exact t_M_meetFrom_B218 C N _ hk20 _ _ _ _ _ _ _ _ hl0 hl1 hl2 hl3 hl5 hl7 hl8 hf
  · refine g_lload C d_M_meetFrom_145 hl11 ?_
    refine g_lconst (v := 0) C d_M_meetFrom_147 (by decide) ?_
    refine g_lcmp C d_M_meetFrom_148 ?_
    refine g_if_ge (tgt := 218) C d_M_meetFrom_149 (by decide) hf (fun c23 hf => ?_) (fun c23 hf => ?_)
    · exact t_M_meetFrom_B218 C N _ hk20 _ _ _ _ _ _ _ _ hl0 hl1 hl2 hl3 hl5 hl7 hl8 hf
    · exact t_M_meetFrom_B152 C N _ hk20 _ _ _ _ _ _ _ _ _ _ hl0 hl1 hl2 hl3 hl5 hl7 hl8 hl9 hl11 hf
set_option maxHeartbeats 4000000 in
theorem t_M_meetFrom_B64 {ad : Nat → Nat} {dA : Nat → ClassId} {D : va_G} {p : Program} {l : Launch} {e : Env} {s : State} {m : MethodId} {args : Array Value} {below : List Frame} {meth : Method} {c : Code} {r : Int64} {μ' : Mm} (C : Cx CLS SHM ad dA D p s m args meth c c_M_meetFrom 19 R_M (some .long)) (N : Nat)   (k20 : Int32 → Int32 → Int64 → Int64 → Int32 → Int32 → Mm → Option (Int64 × Mm)) (hk20 : ∀ (v1 : Int32) (v2 : Int32) (v3 : Int64) (v5 : Int64) (v7 : Int32) (v8 : Int32) (μ : Mm) (lv : Nat → Option Value), lv 0 = some (.ref (ad 0)) → lv 1 = some (.int v1) → lv 2 = some (.int v2) → lv 3 = some (.long v3) → lv 5 = some (.long v5) → lv 7 = some (.int v7) → lv 8 = some (.int v8) → k20 v1 v2 v3 v5 v7 v8 μ = some (r, μ') → Go CLS SHM ad dA D p l e (rmD 5) s m args below meth c 19 (some (.long r)) μ' 20 lv [] μ) : ∀ (v1 : Int32) (v2 : Int32) (v3 : Int64) (v5 : Int64) (v7 : Int32) (v8 : Int32) (μ : Mm) (lv : Nat → Option Value), lv 0 = some (.ref (ad 0)) → lv 1 = some (.int v1) → lv 2 = some (.int v2) → lv 3 = some (.long v3) → lv 5 = some (.long v5) → lv 7 = some (.int v7) → lv 8 = some (.int v8) → f_M_meetFrom_B64 N k20 v1 v2 v3 v5 v7 v8 μ = some (r, μ') → Go CLS SHM ad dA D p l e (rmD 5) s m args below meth c 19 (some (.long r)) μ' 64 lv [] μ := by
  intro v1 v2 v3 v5 v7 v8 μ lv hl0 hl1 hl2 hl3 hl5 hl7 hl8 hf
  unfold f_M_meetFrom_B64 at hf
  refine g_aload_n C d_M_meetFrom_64 rfl hl0 ?_
  refine g_iload_n C d_M_meetFrom_65 rfl hl1 ?_
  refine g_iload C d_M_meetFrom_66 hl8 ?_
  refine g_iconst (v := 0) C d_M_meetFrom_68 (by decide) ?_
  refine g_cvV C k_M rfl mv_M_walk ml_M_302 d_M_meetFrom_69 hf (fun μ1 h => t_M_walk C.2.2.2.2.2.2.2.2.1 h) rfl rfl (by decide) (Nat.le_of_ble_eq_true rfl) (fun μ9 hf => ?_)
  refine g_aload_n C d_M_meetFrom_72 rfl hl0 ?_
  refine g_iload_n C d_M_meetFrom_73 rfl hl2 ?_
  refine g_iload C d_M_meetFrom_74 hl8 ?_
  refine g_iconst (v := 1) C d_M_meetFrom_76 (by decide) ?_
  refine g_cvV C k_M rfl mv_M_walk ml_M_302 d_M_meetFrom_77 hf (fun μ1 h => t_M_walk C.2.2.2.2.2.2.2.2.1 h) rfl rfl (by decide) (Nat.le_of_ble_eq_true rfl) (fun μ10 hf => ?_)
  refine g_aload_n C d_M_meetFrom_80 rfl hl0 ?_
  refine g_getI (k := 38) C k_M (by decide) fl_M_284 rfl rfl d_M_meetFrom_81 ?_
  refine g_bipush (v := -9) C d_M_meetFrom_84 (by decide) ?_
  refine g_icmp_eq (tgt := 218) C d_M_meetFrom_86 (by decide) hf (fun c11 hf => ?_) (fun c11 hf => ?_)
  · exact t_M_meetFrom_B218 C N _ hk20 _ _ _ _ _ _ _ _ hl0 hl1 hl2 hl3 hl5 hl7 hl8 hf
  · refine g_aload_n C d_M_meetFrom_89 rfl hl0 ?_
    refine g_getI (k := 38) C k_M (by decide) fl_M_284 rfl rfl d_M_meetFrom_90 ?_
    refine g_aload_n C d_M_meetFrom_93 rfl hl0 ?_
    refine g_getI (k := 39) C k_M (by decide) fl_M_275 rfl rfl d_M_meetFrom_94 ?_
    refine g_icmp_ne (tgt := 218) C d_M_meetFrom_97 (by decide) hf (fun c12 hf => ?_) (fun c12 hf => ?_)
    · refine g_aload_n C d_M_meetFrom_100 rfl hl0 ?_
      refine g_getI (k := 40) C k_M (by decide) fl_M_287 rfl rfl d_M_meetFrom_101 ?_
      refine g_aload_n C d_M_meetFrom_104 rfl hl0 ?_
      refine g_getI (k := 41) C k_M (by decide) fl_M_278 rfl rfl d_M_meetFrom_105 ?_
      refine g_isub C d_M_meetFrom_108 ?_
      refine g_i2l C d_M_meetFrom_109 ?_
      refine g_lstore C d_M_meetFrom_110 (by decide) ?_
      refine g_aload_n C d_M_meetFrom_112 rfl (upG hl0 rfl) ?_
      refine g_getI (k := 42) C k_M (by decide) fl_M_290 rfl rfl d_M_meetFrom_113 ?_
      refine g_aload_n C d_M_meetFrom_116 rfl (upG hl0 rfl) ?_
      refine g_getI (k := 43) C k_M (by decide) fl_M_281 rfl rfl d_M_meetFrom_117 ?_
      refine g_isub C d_M_meetFrom_120 ?_
      refine g_i2l C d_M_meetFrom_121 ?_
      refine g_lstore C d_M_meetFrom_122 (by decide) ?_
      refine g_lload C d_M_meetFrom_124 (upG upS rfl) ?_
      refine g_lconst (v := 0) C d_M_meetFrom_126 (by decide) ?_
      refine g_lcmp C d_M_meetFrom_127 ?_
      refine g_if_ge (tgt := 138) C d_M_meetFrom_128 (by decide) hf (fun c15 hf => ?_) (fun c15 hf => ?_)
      · exact t_M_meetFrom_B138 C N _ hk20 _ _ _ _ _ _ _ _ _ _ ((upG (upG hl0 rfl) rfl)) ((upG (upG hl1 rfl) rfl)) ((upG (upG hl2 rfl) rfl)) ((upG (upG hl3 rfl) rfl)) ((upG (upG hl5 rfl) rfl)) ((upG (upG hl7 rfl) rfl)) ((upG (upG hl8 rfl) rfl)) ((upG upS rfl)) upS hf
      · refine g_lload C d_M_meetFrom_131 upS ?_
        refine g_lconst (v := 0) C d_M_meetFrom_133 (by decide) ?_
        refine g_lcmp C d_M_meetFrom_134 ?_
        refine g_if_gt (tgt := 152) C d_M_meetFrom_135 (by decide) hf (fun c16 hf => ?_) (fun c16 hf => ?_)
        · exact t_M_meetFrom_B152 C N _ hk20 _ _ _ _ _ _ _ _ _ _ ((upG (upG hl0 rfl) rfl)) ((upG (upG hl1 rfl) rfl)) ((upG (upG hl2 rfl) rfl)) ((upG (upG hl3 rfl) rfl)) ((upG (upG hl5 rfl) rfl)) ((upG (upG hl7 rfl) rfl)) ((upG (upG hl8 rfl) rfl)) ((upG upS rfl)) upS hf
        · exact t_M_meetFrom_B138 C N _ hk20 _ _ _ _ _ _ _ _ _ _ ((upG (upG hl0 rfl) rfl)) ((upG (upG hl1 rfl) rfl)) ((upG (upG hl2 rfl) rfl)) ((upG (upG hl3 rfl) rfl)) ((upG (upG hl5 rfl) rfl)) ((upG (upG hl7 rfl) rfl)) ((upG (upG hl8 rfl) rfl)) ((upG upS rfl)) upS hf
    · exact t_M_meetFrom_B218 C N _ hk20 _ _ _ _ _ _ _ _ hl0 hl1 hl2 hl3 hl5 hl7 hl8 hf
set_option maxHeartbeats 4000000 in
theorem t_M_meetFrom_B56 {ad : Nat → Nat} {dA : Nat → ClassId} {D : va_G} {p : Program} {l : Launch} {e : Env} {s : State} {m : MethodId} {args : Array Value} {below : List Frame} {meth : Method} {c : Code} {r : Int64} {μ' : Mm} (C : Cx CLS SHM ad dA D p s m args meth c c_M_meetFrom 19 R_M (some .long)) (N : Nat)   : ∀ (v8 : Int32) (μ : Mm) (lv : Nat → Option Value), lv 8 = some (.int v8) → f_M_meetFrom_B56 N v8 μ = some (r, μ') → Go CLS SHM ad dA D p l e (rmD 5) s m args below meth c 19 (some (.long r)) μ' 56 lv [] μ := by
  intro v8 μ lv hl8 hf
  unfold f_M_meetFrom_B56 at hf
  refine g_iload C d_M_meetFrom_56 hl8 ?_
  refine g_i2l C d_M_meetFrom_58 ?_
  refine g_ldc2 C cl_M_297 d_M_meetFrom_59 ?_
  refine g_lmul C d_M_meetFrom_62 ?_
  exact g_lret C d_M_meetFrom_63 hf
set_option maxHeartbeats 4000000 in
theorem t_M_meetFrom_L20 {ad : Nat → Nat} {dA : Nat → ClassId} {D : va_G} {p : Program} {l : Launch} {e : Env} {s : State} {m : MethodId} {args : Array Value} {below : List Frame} {meth : Method} {c : Code} {r : Int64} {μ' : Mm} (C : Cx CLS SHM ad dA D p s m args meth c c_M_meetFrom 19 R_M (some .long)) (N : Nat)   : ∀ (n : Nat) (v1 : Int32) (v2 : Int32) (v3 : Int64) (v5 : Int64) (v7 : Int32) (v8 : Int32) (μ : Mm) (lv : Nat → Option Value), lv 0 = some (.ref (ad 0)) → lv 1 = some (.int v1) → lv 2 = some (.int v2) → lv 3 = some (.long v3) → lv 5 = some (.long v5) → lv 7 = some (.int v7) → lv 8 = some (.int v8) → f_M_meetFrom_L20 N n v1 v2 v3 v5 v7 v8 μ = some (r, μ') → Go CLS SHM ad dA D p l e (rmD 5) s m args below meth c 19 (some (.long r)) μ' 20 lv [] μ := by
  intro n
  induction n with
  | zero => intro v1 v2 v3 v5 v7 v8 μ lv hl0 hl1 hl2 hl3 hl5 hl7 hl8 hf; cases (show none = some _ from hf)
  | succ n ih =>
    intro v1 v2 v3 v5 v7 v8 μ lv hl0 hl1 hl2 hl3 hl5 hl7 hl8 hf
    unfold f_M_meetFrom_L20 at hf
    refine g_iload C d_M_meetFrom_20 hl8 ?_
    refine g_i2l C d_M_meetFrom_22 ?_
    refine g_iload C d_M_meetFrom_23 hl7 ?_
    refine g_i2l C d_M_meetFrom_25 ?_
    refine g_lload C d_M_meetFrom_26 hl5 ?_
    refine g_ladd C d_M_meetFrom_28 ?_
    refine g_lcmp C d_M_meetFrom_29 ?_
    refine g_if_gt (tgt := 224) C d_M_meetFrom_30 (by decide) hf (fun c4 hf => ?_) (fun c4 hf => ?_)
    · exact t_M_meetFrom_B224 C N _ _ hf
    · refine g_iload C d_M_meetFrom_33 hl8 ?_
      refine g_i2l C d_M_meetFrom_35 ?_
      refine g_ldc2 C cl_M_297 d_M_meetFrom_36 ?_
      refine g_lmul C d_M_meetFrom_39 ?_
      refine g_lload_n C d_M_meetFrom_40 rfl hl3 ?_
      refine g_lcmp C d_M_meetFrom_41 ?_
      refine g_if_lt (tgt := 64) C d_M_meetFrom_42 (by decide) hf (fun c5 hf => ?_) (fun c5 hf => ?_)
      · exact t_M_meetFrom_B64 C N _ ih _ _ _ _ _ _ _ _ hl0 hl1 hl2 hl3 hl5 hl7 hl8 hf
      · refine g_aload_n C d_M_meetFrom_45 rfl hl0 ?_
        refine g_iload_n C d_M_meetFrom_46 rfl hl1 ?_
        refine g_iload_n C d_M_meetFrom_47 rfl hl2 ?_
        refine g_iload C d_M_meetFrom_48 hl8 ?_
        refine g_cvI C k_M rfl mv_M_areTogether ml_M_299 d_M_meetFrom_50 hf (fun r μ1 h => t_M_areTogether C.2.2.2.2.2.2.2.2.1 h) rfl rfl (by decide) (Nat.le_of_ble_eq_true rfl) (fun r7 μ6 hf => ?_)
        refine g_if_eq (tgt := 64) C d_M_meetFrom_53 (by decide) hf (fun c8 hf => ?_) (fun c8 hf => ?_)
        · exact t_M_meetFrom_B64 C N _ ih _ _ _ _ _ _ _ _ hl0 hl1 hl2 hl3 hl5 hl7 hl8 hf
        · exact t_M_meetFrom_B56 C N _ _ _ hl8 hf
set_option maxHeartbeats 4000000 in
theorem t_M_meetFrom {l : Launch} {ad : Nat → Nat} {dA : Nat → ClassId} {D : va_G} (hi : Inj SHM ad) {N : Nat} {a1 : Int32} {a2 : Int32} {a3 : Int64}  {μ μ' : Mm} {r : Int64} (hf : f_M_meetFrom N a1 a2 a3 μ = some (r, μ')) : Ct CLS l SHM ad dA D y_M_meetFrom c_M_meetFrom 19 (some .long) 5 [.ref (ad 0), .int a1, .int a2, .long a3] μ (some (.long r)) μ' := by
  unfold f_M_meetFrom at hf
  refine ct_of (by decide) hi (Nat.le_of_ble_eq_true rfl) ?_
  intro p e s m args below meth c C
  refine g_aload_n C d_M_meetFrom_0 rfl rfl ?_
  refine g_iload_n C d_M_meetFrom_1 rfl rfl ?_
  refine g_iload_n C d_M_meetFrom_2 rfl rfl ?_
  refine g_cvL C k_M rfl mv_M_jointOf ml_M_293 d_M_meetFrom_3 hf (fun r μ1 h => t_M_jointOf C.2.2.2.2.2.2.2.2.1 h) rfl rfl (by decide) (Nat.le_of_ble_eq_true rfl) (fun r2 μ1 hf => ?_)
  refine g_lstore C d_M_meetFrom_6 (by decide) ?_
  refine g_lload_n C d_M_meetFrom_8 rfl (upG rfl rfl) ?_
  refine g_ldc2 C cl_M_297 d_M_meetFrom_9 ?_
  refine g_ldiv C d_M_meetFrom_12 hf (fun hf => ?_)
  refine g_l2i C d_M_meetFrom_13 ?_
  refine g_istore C d_M_meetFrom_14 (by decide) ?_
  refine g_iload C d_M_meetFrom_16 upS ?_
  refine g_istore C d_M_meetFrom_18 (by decide) ?_
  exact t_M_meetFrom_L20 C N N _ _ _ _ _ _ _ _ ((upG (upG (upG rfl rfl) rfl) rfl)) ((upG (upG (upG rfl rfl) rfl) rfl)) ((upG (upG (upG rfl rfl) rfl) rfl)) ((upG (upG (upG rfl rfl) rfl) rfl)) ((upG (upG upS rfl) rfl)) ((upG upS rfl)) upS hf
set_option maxHeartbeats 4000000 in
theorem t_M_areShort_B64 {ad : Nat → Nat} {dA : Nat → ClassId} {D : va_G} {p : Program} {l : Launch} {e : Env} {s : State} {m : MethodId} {args : Array Value} {below : List Frame} {meth : Method} {c : Code} {r : Int32} {μ' : Mm} (C : Cx CLS SHM ad dA D p s m args meth c c_M_areShort 4 R_M (some .boolean)) (N : Nat)   (k4 : Int32 → Int32 → Mm → Option (Int32 × Mm)) (hk4 : ∀ (v1 : Int32) (v2 : Int32) (μ : Mm) (lv : Nat → Option Value), lv 0 = some (.ref (ad 0)) → lv 1 = some (.int v1) → lv 2 = some (.int v2) → k4 v1 v2 μ = some (r, μ') → Go CLS SHM ad dA D p l e (rmD 5) s m args below meth c 4 (some (.int r)) μ' 4 lv [] μ) : ∀ (v1 : Int32) (v2 : Int32) (μ : Mm) (lv : Nat → Option Value), lv 0 = some (.ref (ad 0)) → lv 1 = some (.int v1) → lv 2 = some (.int v2) → f_M_areShort_B64 N k4 v1 v2 μ = some (r, μ') → Go CLS SHM ad dA D p l e (rmD 5) s m args below meth c 4 (some (.int r)) μ' 64 lv [] μ := by
  intro v1 v2 μ lv hl0 hl1 hl2 hf
  unfold f_M_areShort_B64 at hf
  refine g_iinc (v := 1) C d_M_areShort_64 hl2 (by decide) (by decide) ?_
  refine g_goto (tgt := 4) C d_M_areShort_67 (by decide) ?_
  exact hk4 _ _ _ _ ((upG hl0 rfl)) ((upG hl1 rfl)) upS hf
set_option maxHeartbeats 4000000 in
theorem t_M_areShort_B57 {ad : Nat → Nat} {dA : Nat → ClassId} {D : va_G} {p : Program} {l : Launch} {e : Env} {s : State} {m : MethodId} {args : Array Value} {below : List Frame} {meth : Method} {c : Code} {r : Int32} {μ' : Mm} (C : Cx CLS SHM ad dA D p s m args meth c c_M_areShort 4 R_M (some .boolean)) (N : Nat)   (k4 : Int32 → Int32 → Mm → Option (Int32 × Mm)) (hk4 : ∀ (v1 : Int32) (v2 : Int32) (μ : Mm) (lv : Nat → Option Value), lv 0 = some (.ref (ad 0)) → lv 1 = some (.int v1) → lv 2 = some (.int v2) → k4 v1 v2 μ = some (r, μ') → Go CLS SHM ad dA D p l e (rmD 5) s m args below meth c 4 (some (.int r)) μ' 4 lv [] μ) (k14 : Int32 → Int32 → Int32 → Mm → Option (Int32 × Mm)) (hk14 : ∀ (v1 : Int32) (v2 : Int32) (v3 : Int32) (μ : Mm) (lv : Nat → Option Value), lv 0 = some (.ref (ad 0)) → lv 1 = some (.int v1) → lv 2 = some (.int v2) → lv 3 = some (.int v3) → k14 v1 v2 v3 μ = some (r, μ') → Go CLS SHM ad dA D p l e (rmD 5) s m args below meth c 4 (some (.int r)) μ' 14 lv [] μ) : ∀ (v2 : Int32) (v3 : Int32) (s0 : Int32) (μ : Mm) (lv : Nat → Option Value), lv 0 = some (.ref (ad 0)) → lv 2 = some (.int v2) → lv 3 = some (.int v3) → f_M_areShort_B57 N k4 k14 v2 v3 s0 μ = some (r, μ') → Go CLS SHM ad dA D p l e (rmD 5) s m args below meth c 4 (some (.int r)) μ' 57 lv [.int s0] μ := by
  intro v2 v3 s0 μ lv hl0 hl2 hl3 hf
  unfold f_M_areShort_B57 at hf
  refine g_istore_n C d_M_areShort_57 rfl (by decide) ?_
  refine g_iinc (v := 1) C d_M_areShort_58 (upG hl3 rfl) (by decide) (by decide) ?_
  refine g_goto (tgt := 14) C d_M_areShort_61 (by decide) ?_
  exact hk14 _ _ _ _ _ ((upG (upG hl0 rfl) rfl)) ((upG upS rfl)) ((upG (upG hl2 rfl) rfl)) upS hf
set_option maxHeartbeats 4000000 in
theorem t_M_areShort_B56 {ad : Nat → Nat} {dA : Nat → ClassId} {D : va_G} {p : Program} {l : Launch} {e : Env} {s : State} {m : MethodId} {args : Array Value} {below : List Frame} {meth : Method} {c : Code} {r : Int32} {μ' : Mm} (C : Cx CLS SHM ad dA D p s m args meth c c_M_areShort 4 R_M (some .boolean)) (N : Nat)   (k4 : Int32 → Int32 → Mm → Option (Int32 × Mm)) (hk4 : ∀ (v1 : Int32) (v2 : Int32) (μ : Mm) (lv : Nat → Option Value), lv 0 = some (.ref (ad 0)) → lv 1 = some (.int v1) → lv 2 = some (.int v2) → k4 v1 v2 μ = some (r, μ') → Go CLS SHM ad dA D p l e (rmD 5) s m args below meth c 4 (some (.int r)) μ' 4 lv [] μ) (k14 : Int32 → Int32 → Int32 → Mm → Option (Int32 × Mm)) (hk14 : ∀ (v1 : Int32) (v2 : Int32) (v3 : Int32) (μ : Mm) (lv : Nat → Option Value), lv 0 = some (.ref (ad 0)) → lv 1 = some (.int v1) → lv 2 = some (.int v2) → lv 3 = some (.int v3) → k14 v1 v2 v3 μ = some (r, μ') → Go CLS SHM ad dA D p l e (rmD 5) s m args below meth c 4 (some (.int r)) μ' 14 lv [] μ) : ∀ (v2 : Int32) (v3 : Int32) (μ : Mm) (lv : Nat → Option Value), lv 0 = some (.ref (ad 0)) → lv 2 = some (.int v2) → lv 3 = some (.int v3) → f_M_areShort_B56 N k4 k14 v2 v3 μ = some (r, μ') → Go CLS SHM ad dA D p l e (rmD 5) s m args below meth c 4 (some (.int r)) μ' 56 lv [] μ := by
  intro v2 v3 μ lv hl0 hl2 hl3 hf
  unfold f_M_areShort_B56 at hf
  refine g_iconst (v := 0) C d_M_areShort_56 (by decide) ?_
  exact t_M_areShort_B57 C N _ hk4 _ hk14 _ _ _ _ _ hl0 hl2 hl3 hf
set_option maxHeartbeats 4000000 in
theorem t_M_areShort_B52 {ad : Nat → Nat} {dA : Nat → ClassId} {D : va_G} {p : Program} {l : Launch} {e : Env} {s : State} {m : MethodId} {args : Array Value} {below : List Frame} {meth : Method} {c : Code} {r : Int32} {μ' : Mm} (C : Cx CLS SHM ad dA D p s m args meth c c_M_areShort 4 R_M (some .boolean)) (N : Nat)   (k4 : Int32 → Int32 → Mm → Option (Int32 × Mm)) (hk4 : ∀ (v1 : Int32) (v2 : Int32) (μ : Mm) (lv : Nat → Option Value), lv 0 = some (.ref (ad 0)) → lv 1 = some (.int v1) → lv 2 = some (.int v2) → k4 v1 v2 μ = some (r, μ') → Go CLS SHM ad dA D p l e (rmD 5) s m args below meth c 4 (some (.int r)) μ' 4 lv [] μ) (k14 : Int32 → Int32 → Int32 → Mm → Option (Int32 × Mm)) (hk14 : ∀ (v1 : Int32) (v2 : Int32) (v3 : Int32) (μ : Mm) (lv : Nat → Option Value), lv 0 = some (.ref (ad 0)) → lv 1 = some (.int v1) → lv 2 = some (.int v2) → lv 3 = some (.int v3) → k14 v1 v2 v3 μ = some (r, μ') → Go CLS SHM ad dA D p l e (rmD 5) s m args below meth c 4 (some (.int r)) μ' 14 lv [] μ) : ∀ (v2 : Int32) (v3 : Int32) (μ : Mm) (lv : Nat → Option Value), lv 0 = some (.ref (ad 0)) → lv 2 = some (.int v2) → lv 3 = some (.int v3) → f_M_areShort_B52 N k4 k14 v2 v3 μ = some (r, μ') → Go CLS SHM ad dA D p l e (rmD 5) s m args below meth c 4 (some (.int r)) μ' 52 lv [] μ := by
  intro v2 v3 μ lv hl0 hl2 hl3 hf
  unfold f_M_areShort_B52 at hf
  refine g_iconst (v := 1) C d_M_areShort_52 (by decide) ?_
  refine g_goto (tgt := 57) C d_M_areShort_53 (by decide) ?_
  exact t_M_areShort_B57 C N _ hk4 _ hk14 _ _ _ _ _ hl0 hl2 hl3 hf
set_option maxHeartbeats 4000000 in
theorem t_M_areShort_L14 {ad : Nat → Nat} {dA : Nat → ClassId} {D : va_G} {p : Program} {l : Launch} {e : Env} {s : State} {m : MethodId} {args : Array Value} {below : List Frame} {meth : Method} {c : Code} {r : Int32} {μ' : Mm} (C : Cx CLS SHM ad dA D p s m args meth c c_M_areShort 4 R_M (some .boolean)) (N : Nat)   (k4 : Int32 → Int32 → Mm → Option (Int32 × Mm)) (hk4 : ∀ (v1 : Int32) (v2 : Int32) (μ : Mm) (lv : Nat → Option Value), lv 0 = some (.ref (ad 0)) → lv 1 = some (.int v1) → lv 2 = some (.int v2) → k4 v1 v2 μ = some (r, μ') → Go CLS SHM ad dA D p l e (rmD 5) s m args below meth c 4 (some (.int r)) μ' 4 lv [] μ) : ∀ (n : Nat) (v1 : Int32) (v2 : Int32) (v3 : Int32) (μ : Mm) (lv : Nat → Option Value), lv 0 = some (.ref (ad 0)) → lv 1 = some (.int v1) → lv 2 = some (.int v2) → lv 3 = some (.int v3) → f_M_areShort_L14 N k4 n v1 v2 v3 μ = some (r, μ') → Go CLS SHM ad dA D p l e (rmD 5) s m args below meth c 4 (some (.int r)) μ' 14 lv [] μ := by
  intro n
  induction n with
  | zero => intro v1 v2 v3 μ lv hl0 hl1 hl2 hl3 hf; cases (show none = some _ from hf)
  | succ n ih =>
    intro v1 v2 v3 μ lv hl0 hl1 hl2 hl3 hf
    unfold f_M_areShort_L14 at hf
    refine g_iload_n C d_M_areShort_14 rfl hl3 ?_
    refine g_iload_n C d_M_areShort_15 rfl hl2 ?_
    refine g_icmp_ge (tgt := 64) C d_M_areShort_16 (by decide) hf (fun c2 hf => ?_) (fun c2 hf => ?_)
    · exact t_M_areShort_B64 C N _ hk4 _ _ _ _ hl0 hl1 hl2 hf
    · refine g_iload_n C d_M_areShort_19 rfl hl1 ?_
      refine g_if_eq (tgt := 56) C d_M_areShort_20 (by decide) hf (fun c3 hf => ?_) (fun c3 hf => ?_)
      · exact t_M_areShort_B56 C N _ hk4 _ ih _ _ _ _ hl0 hl2 hl3 hf
      · refine g_aload_n C d_M_areShort_23 rfl hl0 ?_
        refine g_iload_n C d_M_areShort_24 rfl hl2 ?_
        refine g_cvI C k_M rfl mv_M_goes ml_M_193 d_M_areShort_25 hf (fun r μ1 h => t_M_goes C.2.2.2.2.2.2.2.2.1 h) rfl rfl (by decide) (Nat.le_of_ble_eq_true rfl) (fun r5 μ4 hf => ?_)
        refine g_if_eq (tgt := 52) C d_M_areShort_28 (by decide) hf (fun c6 hf => ?_) (fun c6 hf => ?_)
        · exact t_M_areShort_B52 C N _ hk4 _ ih _ _ _ _ hl0 hl2 hl3 hf
        · refine g_aload_n C d_M_areShort_31 rfl hl0 ?_
          refine g_iload_n C d_M_areShort_32 rfl hl3 ?_
          refine g_cvI C k_M rfl mv_M_goes ml_M_193 d_M_areShort_33 hf (fun r μ1 h => t_M_goes C.2.2.2.2.2.2.2.2.1 h) rfl rfl (by decide) (Nat.le_of_ble_eq_true rfl) (fun r8 μ7 hf => ?_)
          refine g_if_eq (tgt := 52) C d_M_areShort_36 (by decide) hf (fun c9 hf => ?_) (fun c9 hf => ?_)
          · exact t_M_areShort_B52 C N _ hk4 _ ih _ _ _ _ hl0 hl2 hl3 hf
          · refine g_aload_n C d_M_areShort_39 rfl hl0 ?_
            refine g_iload_n C d_M_areShort_40 rfl hl2 ?_
            refine g_iload_n C d_M_areShort_41 rfl hl3 ?_
            refine g_cvL C k_M rfl mv_M_jointOf ml_M_293 d_M_areShort_42 hf (fun r μ1 h => t_M_jointOf C.2.2.2.2.2.2.2.2.1 h) rfl rfl (by decide) (Nat.le_of_ble_eq_true rfl) (fun r11 μ10 hf => ?_)
            refine g_ldc2 C cl_M_215 d_M_areShort_45 ?_
            refine g_lcmp C d_M_areShort_48 ?_
            refine g_if_gt (tgt := 56) C d_M_areShort_49 (by decide) hf (fun c12 hf => ?_) (fun c12 hf => ?_)
            · exact t_M_areShort_B56 C N _ hk4 _ ih _ _ _ _ hl0 hl2 hl3 hf
            · exact t_M_areShort_B52 C N _ hk4 _ ih _ _ _ _ hl0 hl2 hl3 hf
set_option maxHeartbeats 4000000 in
theorem t_M_areShort_L4 {ad : Nat → Nat} {dA : Nat → ClassId} {D : va_G} {p : Program} {l : Launch} {e : Env} {s : State} {m : MethodId} {args : Array Value} {below : List Frame} {meth : Method} {c : Code} {r : Int32} {μ' : Mm} (C : Cx CLS SHM ad dA D p s m args meth c c_M_areShort 4 R_M (some .boolean)) (N : Nat)   : ∀ (n : Nat) (v1 : Int32) (v2 : Int32) (μ : Mm) (lv : Nat → Option Value), lv 0 = some (.ref (ad 0)) → lv 1 = some (.int v1) → lv 2 = some (.int v2) → f_M_areShort_L4 N n v1 v2 μ = some (r, μ') → Go CLS SHM ad dA D p l e (rmD 5) s m args below meth c 4 (some (.int r)) μ' 4 lv [] μ := by
  intro n
  induction n with
  | zero => intro v1 v2 μ lv hl0 hl1 hl2 hf; cases (show none = some _ from hf)
  | succ n ih =>
    intro v1 v2 μ lv hl0 hl1 hl2 hf
    unfold f_M_areShort_L4 at hf
    refine g_iload_n C d_M_areShort_4 rfl hl2 ?_
    refine g_aload_n C d_M_areShort_5 rfl hl0 ?_
    refine g_getI (k := 15) C k_M (by decide) fl_M_162 rfl rfl d_M_areShort_6 ?_
    refine g_icmp_ge (tgt := 70) C d_M_areShort_9 (by decide) hf (fun c1 hf => ?_) (fun c1 hf => ?_)
    · refine g_iload_n C d_M_areShort_70 rfl hl1 ?_
      exact g_zret C d_M_areShort_71 hf
    · refine g_iconst (v := 0) C d_M_areShort_12 (by decide) ?_
      refine g_istore_n C d_M_areShort_13 rfl (by decide) ?_
      exact t_M_areShort_L14 C N _ ih N _ _ _ _ _ ((upG hl0 rfl)) ((upG hl1 rfl)) ((upG hl2 rfl)) upS hf
set_option maxHeartbeats 4000000 in
theorem t_M_areShort {l : Launch} {ad : Nat → Nat} {dA : Nat → ClassId} {D : va_G} (hi : Inj SHM ad) {N : Nat}   {μ μ' : Mm} {r : Int32} (hf : f_M_areShort N  μ = some (r, μ')) : Ct CLS l SHM ad dA D y_M_areShort c_M_areShort 4 (some .boolean) 5 [.ref (ad 0)] μ (some (.int r)) μ' := by
  unfold f_M_areShort at hf
  refine ct_of (by decide) hi (Nat.le_of_ble_eq_true rfl) ?_
  intro p e s m args below meth c C
  refine g_iconst (v := 1) C d_M_areShort_0 (by decide) ?_
  refine g_istore_n C d_M_areShort_1 rfl (by decide) ?_
  refine g_iconst (v := 0) C d_M_areShort_2 (by decide) ?_
  refine g_istore_n C d_M_areShort_3 rfl (by decide) ?_
  exact t_M_areShort_L4 C N N _ _ _ _ ((upG (upG rfl rfl) rfl)) ((upG upS rfl)) upS hf
set_option maxHeartbeats 4000000 in
theorem t_M_needTwo_B52 {ad : Nat → Nat} {dA : Nat → ClassId} {D : va_G} {p : Program} {l : Launch} {e : Env} {s : State} {m : MethodId} {args : Array Value} {below : List Frame} {meth : Method} {c : Code} {r : Int32} {μ' : Mm} (C : Cx CLS SHM ad dA D p s m args meth c c_M_needTwo 5 R_M (some .int)) (N : Nat)   : ∀  (μ : Mm) (lv : Nat → Option Value), lv 0 = some (.ref (ad 0)) → f_M_needTwo_B52 N μ = some (r, μ') → Go CLS SHM ad dA D p l e (rmD 6) s m args below meth c 5 (some (.int r)) μ' 52 lv [] μ := by
  intro μ lv hl0 hf
  unfold f_M_needTwo_B52 at hf
  refine g_aload_n C d_M_needTwo_52 rfl hl0 ?_
  refine g_iconst (v := 1) C d_M_needTwo_53 (by decide) ?_
  refine g_cvI C k_M rfl mv_M_meets ml_M_135 d_M_needTwo_54 hf (fun r μ1 h => t_M_meets C.2.2.2.2.2.2.2.2.1 h) rfl rfl (by decide) (Nat.le_of_ble_eq_true rfl) (fun r27 μ26 hf => ?_)
  exact g_iret C d_M_needTwo_57 hf
set_option maxHeartbeats 4000000 in
theorem t_M_needTwo {l : Launch} {ad : Nat → Nat} {dA : Nat → ClassId} {D : va_G} (hi : Inj SHM ad) {N : Nat} {a1 : Int32} {a2 : Int32} {a3 : Int32} {a4 : Int32}  {μ μ' : Mm} {r : Int32} (hf : f_M_needTwo N a1 a2 a3 a4 μ = some (r, μ')) : Ct CLS l SHM ad dA D y_M_needTwo c_M_needTwo 5 (some .int) 6 [.ref (ad 0), .int a1, .int a2, .int a3, .int a4] μ (some (.int r)) μ' := by
  unfold f_M_needTwo at hf
  refine ct_of (by decide) hi (Nat.le_of_ble_eq_true rfl) ?_
  intro p e s m args below meth c C
  refine g_aload_n C d_M_needTwo_0 rfl rfl ?_
  refine g_iload_n C d_M_needTwo_1 rfl rfl ?_
  refine g_cvI C k_M rfl mv_M_isWalker ml_M_165 d_M_needTwo_2 hf (fun r μ1 h => t_M_isWalker C.2.2.2.2.2.2.2.2.1 h) rfl rfl (by decide) (Nat.le_of_ble_eq_true rfl) (fun r2 μ1 hf => ?_)
  refine g_if_eq (tgt := 32) C d_M_needTwo_5 (by decide) hf (fun c3 hf => ?_) (fun c3 hf => ?_)
  · refine g_iconst (v := -1) C d_M_needTwo_32 (by decide) ?_
    exact g_iret C d_M_needTwo_33 hf
  · refine g_aload_n C d_M_needTwo_8 rfl rfl ?_
    refine g_iload_n C d_M_needTwo_9 rfl rfl ?_
    refine g_cvI C k_M rfl mv_M_isWalker ml_M_165 d_M_needTwo_10 hf (fun r μ1 h => t_M_isWalker C.2.2.2.2.2.2.2.2.1 h) rfl rfl (by decide) (Nat.le_of_ble_eq_true rfl) (fun r5 μ4 hf => ?_)
    refine g_if_eq (tgt := 32) C d_M_needTwo_13 (by decide) hf (fun c6 hf => ?_) (fun c6 hf => ?_)
    · refine g_iconst (v := -1) C d_M_needTwo_32 (by decide) ?_
      exact g_iret C d_M_needTwo_33 hf
    · refine g_iload_n C d_M_needTwo_16 rfl rfl ?_
      refine g_iload_n C d_M_needTwo_17 rfl rfl ?_
      refine g_icmp_eq (tgt := 32) C d_M_needTwo_18 (by decide) hf (fun c7 hf => ?_) (fun c7 hf => ?_)
      · refine g_iconst (v := -1) C d_M_needTwo_32 (by decide) ?_
        exact g_iret C d_M_needTwo_33 hf
      · refine g_iload_n C d_M_needTwo_21 rfl rfl ?_
        refine g_iconst (v := 0) C d_M_needTwo_22 (by decide) ?_
        refine g_sipush (v := 14399) C d_M_needTwo_23 (by decide) ?_
        refine g_csI C mv_M_in ml_M_117 d_M_needTwo_26 hf (fun r μ1 h => t_M_in C.2.2.2.2.2.2.2.2.1 h) rfl rfl (by decide) (Nat.le_of_ble_eq_true rfl) (fun r9 μ8 hf => ?_)
        refine g_if_ne (tgt := 34) C d_M_needTwo_29 (by decide) hf (fun c10 hf => ?_) (fun c10 hf => ?_)
        · refine g_iconst (v := -1) C d_M_needTwo_32 (by decide) ?_
          exact g_iret C d_M_needTwo_33 hf
        · refine g_aload_n C d_M_needTwo_34 rfl rfl ?_
          refine g_getR (b := 16) (k := 22) C k_M (by decide) fl_M_57 rfl rfl d_M_needTwo_35 ?_
          refine g_iload_n C d_M_needTwo_38 rfl rfl ?_
          refine g_zald C rfl d_M_needTwo_39 hf (fun hf => ?_)
          refine g_if_ne (tgt := 52) C d_M_needTwo_40 (by decide) hf (fun c11 hf => ?_) (fun c11 hf => ?_)
          · refine g_aload_n C d_M_needTwo_43 rfl rfl ?_
            refine g_getR (b := 16) (k := 22) C k_M (by decide) fl_M_57 rfl rfl d_M_needTwo_44 ?_
            refine g_iload_n C d_M_needTwo_47 rfl rfl ?_
            refine g_zald C rfl d_M_needTwo_48 hf (fun hf => ?_)
            refine g_if_eq (tgt := 58) C d_M_needTwo_49 (by decide) hf (fun c12 hf => ?_) (fun c12 hf => ?_)
            · refine g_aload_n C d_M_needTwo_58 rfl rfl ?_
              refine g_iload_n C d_M_needTwo_59 rfl rfl ?_
              refine g_cvI C k_M rfl mv_M_goes ml_M_193 d_M_needTwo_60 hf (fun r μ1 h => t_M_goes C.2.2.2.2.2.2.2.2.1 h) rfl rfl (by decide) (Nat.le_of_ble_eq_true rfl) (fun r14 μ13 hf => ?_)
              refine g_if_eq (tgt := 74) C d_M_needTwo_63 (by decide) hf (fun c15 hf => ?_) (fun c15 hf => ?_)
              · refine g_bipush (v := -4) C d_M_needTwo_74 (by decide) ?_
                exact g_iret C d_M_needTwo_76 hf
              · refine g_aload_n C d_M_needTwo_66 rfl rfl ?_
                refine g_iload_n C d_M_needTwo_67 rfl rfl ?_
                refine g_cvI C k_M rfl mv_M_goes ml_M_193 d_M_needTwo_68 hf (fun r μ1 h => t_M_goes C.2.2.2.2.2.2.2.2.1 h) rfl rfl (by decide) (Nat.le_of_ble_eq_true rfl) (fun r17 μ16 hf => ?_)
                refine g_if_ne (tgt := 77) C d_M_needTwo_71 (by decide) hf (fun c18 hf => ?_) (fun c18 hf => ?_)
                · refine g_bipush (v := -4) C d_M_needTwo_74 (by decide) ?_
                  exact g_iret C d_M_needTwo_76 hf
                · refine g_iload C d_M_needTwo_77 rfl ?_
                  refine g_if_eq (tgt := 98) C d_M_needTwo_79 (by decide) hf (fun c19 hf => ?_) (fun c19 hf => ?_)
                  · refine g_aload_n C d_M_needTwo_98 rfl rfl ?_
                    refine g_iload_n C d_M_needTwo_99 rfl rfl ?_
                    refine g_iload_n C d_M_needTwo_100 rfl rfl ?_
                    refine g_cvL C k_M rfl mv_M_jointOf ml_M_293 d_M_needTwo_101 hf (fun r μ1 h => t_M_jointOf C.2.2.2.2.2.2.2.2.1 h) rfl rfl (by decide) (Nat.le_of_ble_eq_true rfl) (fun r21 μ20 hf => ?_)
                    refine g_ldc2 C cl_M_215 d_M_needTwo_104 ?_
                    refine g_lcmp C d_M_needTwo_107 ?_
                    refine g_if_le (tgt := 116) C d_M_needTwo_108 (by decide) hf (fun c22 hf => ?_) (fun c22 hf => ?_)
                    · refine g_iconst (v := 0) C d_M_needTwo_116 (by decide) ?_
                      exact g_iret C d_M_needTwo_117 hf
                    · refine g_bipush (v := -6) C d_M_needTwo_111 (by decide) ?_
                      refine g_goto (tgt := 117) C d_M_needTwo_113 (by decide) ?_
                      exact g_iret C d_M_needTwo_117 hf
                  · refine g_aload_n C d_M_needTwo_82 rfl rfl ?_
                    refine g_cvI C k_M rfl mv_M_areShort ml_M_308 d_M_needTwo_83 hf (fun r μ1 h => t_M_areShort C.2.2.2.2.2.2.2.2.1 h) rfl rfl (by decide) (Nat.le_of_ble_eq_true rfl) (fun r24 μ23 hf => ?_)
                    refine g_if_eq (tgt := 93) C d_M_needTwo_86 (by decide) hf (fun c25 hf => ?_) (fun c25 hf => ?_)
                    · refine g_bipush (v := -6) C d_M_needTwo_93 (by decide) ?_
                      refine g_goto (tgt := 117) C d_M_needTwo_95 (by decide) ?_
                      exact g_iret C d_M_needTwo_117 hf
                    · refine g_iconst (v := 0) C d_M_needTwo_89 (by decide) ?_
                      refine g_goto (tgt := 117) C d_M_needTwo_90 (by decide) ?_
                      exact g_iret C d_M_needTwo_117 hf
            · exact t_M_needTwo_B52 C N _ _ rfl hf
          · exact t_M_needTwo_B52 C N _ _ rfl hf
set_option maxHeartbeats 4000000 in
theorem t_M_meet {l : Launch} {ad : Nat → Nat} {dA : Nat → ClassId} {D : va_G} (hi : Inj SHM ad) {N : Nat} {a1 : Int32} {a2 : Int32} {a3 : Int32}  {μ μ' : Mm} {r : Int32} (hf : f_M_meet N a1 a2 a3 μ = some (r, μ')) : Ct CLS l SHM ad dA D y_M_meet c_M_meet 7 (some .int) 7 [.ref (ad 0), .int a1, .int a2, .int a3] μ (some (.int r)) μ' := by
  unfold f_M_meet at hf
  refine ct_of (by decide) hi (Nat.le_of_ble_eq_true rfl) ?_
  intro p e s m args below meth c C
  refine g_aload_n C d_M_meet_0 rfl rfl ?_
  refine g_iload_n C d_M_meet_1 rfl rfl ?_
  refine g_iload_n C d_M_meet_2 rfl rfl ?_
  refine g_iload_n C d_M_meet_3 rfl rfl ?_
  refine g_iconst (v := 0) C d_M_meet_4 (by decide) ?_
  refine g_cvI C k_M rfl mv_M_needTwo ml_M_311 d_M_meet_5 hf (fun r μ1 h => t_M_needTwo C.2.2.2.2.2.2.2.2.1 h) rfl rfl (by decide) (Nat.le_of_ble_eq_true rfl) (fun r2 μ1 hf => ?_)
  refine g_istore C d_M_meet_8 (by decide) ?_
  refine g_iload C d_M_meet_10 upS ?_
  refine g_if_ge (tgt := 18) C d_M_meet_12 (by decide) hf (fun c3 hf => ?_) (fun c3 hf => ?_)
  · refine g_aload_n C d_M_meet_18 rfl (upG rfl rfl) ?_
    refine g_iload_n C d_M_meet_19 rfl (upG rfl rfl) ?_
    refine g_iload_n C d_M_meet_20 rfl (upG rfl rfl) ?_
    refine g_iload_n C d_M_meet_21 rfl (upG rfl rfl) ?_
    refine g_i2l C d_M_meet_22 ?_
    refine g_ldc2 C cl_M_297 d_M_meet_23 ?_
    refine g_lmul C d_M_meet_26 ?_
    refine g_cvL C k_M rfl mv_M_meetFrom ml_M_315 d_M_meet_27 hf (fun r μ1 h => t_M_meetFrom C.2.2.2.2.2.2.2.2.1 h) rfl rfl (by decide) (Nat.le_of_ble_eq_true rfl) (fun r5 μ4 hf => ?_)
    refine g_lstore C d_M_meet_30 (by decide) ?_
    refine g_lload C d_M_meet_32 upS ?_
    refine g_lconst (v := 0) C d_M_meet_34 (by decide) ?_
    refine g_lcmp C d_M_meet_35 ?_
    refine g_if_ge (tgt := 44) C d_M_meet_36 (by decide) hf (fun c6 hf => ?_) (fun c6 hf => ?_)
    · refine g_aload_n C d_M_meet_44 rfl (upG (upG rfl rfl) rfl) ?_
      refine g_lload C d_M_meet_45 upS ?_
      refine g_ldc2 C cl_M_297 d_M_meet_47 ?_
      refine g_iconst (v := 1) C d_M_meet_50 (by decide) ?_
      refine g_cvI C k_M rfl mv_M_fraction ml_M_265 d_M_meet_51 hf (fun r μ1 h => t_M_fraction C.2.2.2.2.2.2.2.2.1 h) rfl rfl (by decide) (Nat.le_of_ble_eq_true rfl) (fun r8 μ7 hf => ?_)
      exact g_iret C d_M_meet_54 hf
    · refine g_bipush (v := -9) C d_M_meet_39 (by decide) ?_
      refine g_goto (tgt := 54) C d_M_meet_41 (by decide) ?_
      exact g_iret C d_M_meet_54 hf
  · refine g_iload C d_M_meet_15 upS ?_
    exact g_iret C d_M_meet_17 hf
set_option maxHeartbeats 4000000 in
theorem t_M_layWord_B235 {ad : Nat → Nat} {dA : Nat → ClassId} {D : va_G} {p : Program} {l : Launch} {e : Env} {s : State} {m : MethodId} {args : Array Value} {below : List Frame} {meth : Method} {c : Code} {μ' : Mm} (C : Cx CLS SHM ad dA D p s m args meth c c_M_layWord 7 R_M (none)) (N : Nat)   (k46 : Int32 → Mm → Option Mm) (hk46 : ∀ (v3 : Int32) (μ : Mm) (lv : Nat → Option Value), lv 0 = some (.ref (ad 0)) → lv 3 = some (.int v3) → k46 v3 μ = some μ' → Go CLS SHM ad dA D p l e (rmD 6) s m args below meth c 7 none μ' 46 lv [] μ) : ∀ (v3 : Int32) (μ : Mm) (lv : Nat → Option Value), lv 0 = some (.ref (ad 0)) → lv 3 = some (.int v3) → f_M_layWord_B235 N k46 v3 μ = some μ' → Go CLS SHM ad dA D p l e (rmD 6) s m args below meth c 7 none μ' 235 lv [] μ := by
  intro v3 μ lv hl0 hl3 hf
  unfold f_M_layWord_B235 at hf
  refine g_goto (tgt := 46) C d_M_layWord_235 (by decide) ?_
  exact hk46 _ _ _ hl0 hl3 hf
set_option maxHeartbeats 4000000 in
theorem t_M_layWord_B228 {ad : Nat → Nat} {dA : Nat → ClassId} {D : va_G} {p : Program} {l : Launch} {e : Env} {s : State} {m : MethodId} {args : Array Value} {below : List Frame} {meth : Method} {c : Code} {μ' : Mm} (C : Cx CLS SHM ad dA D p s m args meth c c_M_layWord 7 R_M (none)) (N : Nat)   (k46 : Int32 → Mm → Option Mm) (hk46 : ∀ (v3 : Int32) (μ : Mm) (lv : Nat → Option Value), lv 0 = some (.ref (ad 0)) → lv 3 = some (.int v3) → k46 v3 μ = some μ' → Go CLS SHM ad dA D p l e (rmD 6) s m args below meth c 7 none μ' 46 lv [] μ) (k168 : Int32 → Int32 → Mm → Option Mm) (hk168 : ∀ (v3 : Int32) (v4 : Int32) (μ : Mm) (lv : Nat → Option Value), lv 0 = some (.ref (ad 0)) → lv 3 = some (.int v3) → lv 4 = some (.int v4) → k168 v3 v4 μ = some μ' → Go CLS SHM ad dA D p l e (rmD 6) s m args below meth c 7 none μ' 168 lv [] μ) : ∀ (v4 : Int32) (s0 : Int32) (μ : Mm) (lv : Nat → Option Value), lv 0 = some (.ref (ad 0)) → lv 4 = some (.int v4) → f_M_layWord_B228 N k46 k168 v4 s0 μ = some μ' → Go CLS SHM ad dA D p l e (rmD 6) s m args below meth c 7 none μ' 228 lv [.int s0] μ := by
  intro v4 s0 μ lv hl0 hl4 hf
  unfold f_M_layWord_B228 at hf
  refine g_istore_n C d_M_layWord_228 rfl (by decide) ?_
  refine g_iinc (v := 1) C d_M_layWord_229 (upG hl4 rfl) (by decide) (by decide) ?_
  refine g_goto (tgt := 168) C d_M_layWord_232 (by decide) ?_
  exact hk168 _ _ _ _ ((upG (upG hl0 rfl) rfl)) ((upG upS rfl)) upS hf
set_option maxHeartbeats 4000000 in
theorem t_M_layWord_B227 {ad : Nat → Nat} {dA : Nat → ClassId} {D : va_G} {p : Program} {l : Launch} {e : Env} {s : State} {m : MethodId} {args : Array Value} {below : List Frame} {meth : Method} {c : Code} {μ' : Mm} (C : Cx CLS SHM ad dA D p s m args meth c c_M_layWord 7 R_M (none)) (N : Nat)   (k46 : Int32 → Mm → Option Mm) (hk46 : ∀ (v3 : Int32) (μ : Mm) (lv : Nat → Option Value), lv 0 = some (.ref (ad 0)) → lv 3 = some (.int v3) → k46 v3 μ = some μ' → Go CLS SHM ad dA D p l e (rmD 6) s m args below meth c 7 none μ' 46 lv [] μ) (k168 : Int32 → Int32 → Mm → Option Mm) (hk168 : ∀ (v3 : Int32) (v4 : Int32) (μ : Mm) (lv : Nat → Option Value), lv 0 = some (.ref (ad 0)) → lv 3 = some (.int v3) → lv 4 = some (.int v4) → k168 v3 v4 μ = some μ' → Go CLS SHM ad dA D p l e (rmD 6) s m args below meth c 7 none μ' 168 lv [] μ) : ∀ (v3 : Int32) (v4 : Int32) (μ : Mm) (lv : Nat → Option Value), lv 0 = some (.ref (ad 0)) → lv 3 = some (.int v3) → lv 4 = some (.int v4) → f_M_layWord_B227 N k46 k168 v3 v4 μ = some μ' → Go CLS SHM ad dA D p l e (rmD 6) s m args below meth c 7 none μ' 227 lv [] μ := by
  intro v3 v4 μ lv hl0 hl3 hl4 hf
  unfold f_M_layWord_B227 at hf
  refine g_iload_n C d_M_layWord_227 rfl hl3 ?_
  exact t_M_layWord_B228 C N _ hk46 _ hk168 _ _ _ _ hl0 hl4 hf
set_option maxHeartbeats 4000000 in
theorem t_M_layWord_B222 {ad : Nat → Nat} {dA : Nat → ClassId} {D : va_G} {p : Program} {l : Launch} {e : Env} {s : State} {m : MethodId} {args : Array Value} {below : List Frame} {meth : Method} {c : Code} {μ' : Mm} (C : Cx CLS SHM ad dA D p s m args meth c c_M_layWord 7 R_M (none)) (N : Nat)   (k46 : Int32 → Mm → Option Mm) (hk46 : ∀ (v3 : Int32) (μ : Mm) (lv : Nat → Option Value), lv 0 = some (.ref (ad 0)) → lv 3 = some (.int v3) → k46 v3 μ = some μ' → Go CLS SHM ad dA D p l e (rmD 6) s m args below meth c 7 none μ' 46 lv [] μ) (k168 : Int32 → Int32 → Mm → Option Mm) (hk168 : ∀ (v3 : Int32) (v4 : Int32) (μ : Mm) (lv : Nat → Option Value), lv 0 = some (.ref (ad 0)) → lv 3 = some (.int v3) → lv 4 = some (.int v4) → k168 v3 v4 μ = some μ' → Go CLS SHM ad dA D p l e (rmD 6) s m args below meth c 7 none μ' 168 lv [] μ) : ∀ (v4 : Int32) (μ : Mm) (lv : Nat → Option Value), lv 0 = some (.ref (ad 0)) → lv 4 = some (.int v4) → f_M_layWord_B222 N k46 k168 v4 μ = some μ' → Go CLS SHM ad dA D p l e (rmD 6) s m args below meth c 7 none μ' 222 lv [] μ := by
  intro v4 μ lv hl0 hl4 hf
  unfold f_M_layWord_B222 at hf
  refine g_iload C d_M_layWord_222 hl4 ?_
  refine g_goto (tgt := 228) C d_M_layWord_224 (by decide) ?_
  exact t_M_layWord_B228 C N _ hk46 _ hk168 _ _ _ _ hl0 hl4 hf
set_option maxHeartbeats 4000000 in
theorem t_M_layWord_L168 {ad : Nat → Nat} {dA : Nat → ClassId} {D : va_G} {p : Program} {l : Launch} {e : Env} {s : State} {m : MethodId} {args : Array Value} {below : List Frame} {meth : Method} {c : Code} {μ' : Mm} (C : Cx CLS SHM ad dA D p s m args meth c c_M_layWord 7 R_M (none)) (N : Nat)   (k46 : Int32 → Mm → Option Mm) (hk46 : ∀ (v3 : Int32) (μ : Mm) (lv : Nat → Option Value), lv 0 = some (.ref (ad 0)) → lv 3 = some (.int v3) → k46 v3 μ = some μ' → Go CLS SHM ad dA D p l e (rmD 6) s m args below meth c 7 none μ' 46 lv [] μ) : ∀ (n : Nat) (v3 : Int32) (v4 : Int32) (μ : Mm) (lv : Nat → Option Value), lv 0 = some (.ref (ad 0)) → lv 3 = some (.int v3) → lv 4 = some (.int v4) → f_M_layWord_L168 N k46 n v3 v4 μ = some μ' → Go CLS SHM ad dA D p l e (rmD 6) s m args below meth c 7 none μ' 168 lv [] μ := by
  intro n
  induction n with
  | zero => intro v3 v4 μ lv hl0 hl3 hl4 hf; cases (show none = some _ from hf)
  | succ n ih =>
    intro v3 v4 μ lv hl0 hl3 hl4 hf
    unfold f_M_layWord_L168 at hf
    refine g_iload C d_M_layWord_168 hl4 ?_
    refine g_aload_n C d_M_layWord_170 rfl hl0 ?_
    refine g_getI (k := 15) C k_M (by decide) fl_M_162 rfl rfl d_M_layWord_171 ?_
    refine g_icmp_ge (tgt := 235) C d_M_layWord_174 (by decide) hf (fun c21 hf => ?_) (fun c21 hf => ?_)
    · exact t_M_layWord_B235 C N _ hk46 _ _ _ hl0 hl3 hf
    · refine g_aload_n C d_M_layWord_177 rfl hl0 ?_
      refine g_getR (b := 23) (k := 45) C k_M (by decide) fl_M_79 rfl rfl d_M_layWord_178 ?_
      refine g_iload C d_M_layWord_181 hl4 ?_
      refine g_zald C rfl d_M_layWord_183 hf (fun hf => ?_)
      refine g_if_ne (tgt := 227) C d_M_layWord_184 (by decide) hf (fun c22 hf => ?_) (fun c22 hf => ?_)
      · refine g_aload_n C d_M_layWord_187 rfl hl0 ?_
        refine g_getR (b := 22) (k := 44) C k_M (by decide) fl_M_75 rfl rfl d_M_layWord_188 ?_
        refine g_iload C d_M_layWord_191 hl4 ?_
        refine g_lald C rfl d_M_layWord_193 hf (fun hf => ?_)
        refine g_lconst (v := 0) C d_M_layWord_194 (by decide) ?_
        refine g_lcmp C d_M_layWord_195 ?_
        refine g_if_lt (tgt := 227) C d_M_layWord_196 (by decide) hf (fun c23 hf => ?_) (fun c23 hf => ?_)
        · exact t_M_layWord_B227 C N _ hk46 _ ih _ _ _ _ hl0 hl3 hl4 hf
        · refine g_iload_n C d_M_layWord_199 rfl hl3 ?_
          refine g_bipush (v := -9) C d_M_layWord_200 (by decide) ?_
          refine g_icmp_eq (tgt := 222) C d_M_layWord_202 (by decide) hf (fun c24 hf => ?_) (fun c24 hf => ?_)
          · exact t_M_layWord_B222 C N _ hk46 _ ih _ _ _ hl0 hl4 hf
          · refine g_aload_n C d_M_layWord_205 rfl hl0 ?_
            refine g_getR (b := 22) (k := 44) C k_M (by decide) fl_M_75 rfl rfl d_M_layWord_206 ?_
            refine g_iload C d_M_layWord_209 hl4 ?_
            refine g_lald C rfl d_M_layWord_211 hf (fun hf => ?_)
            refine g_aload_n C d_M_layWord_212 rfl hl0 ?_
            refine g_getR (b := 22) (k := 44) C k_M (by decide) fl_M_75 rfl rfl d_M_layWord_213 ?_
            refine g_iload_n C d_M_layWord_216 rfl hl3 ?_
            refine g_lald C rfl d_M_layWord_217 hf (fun hf => ?_)
            refine g_lcmp C d_M_layWord_218 ?_
            refine g_if_ge (tgt := 227) C d_M_layWord_219 (by decide) hf (fun c25 hf => ?_) (fun c25 hf => ?_)
            · exact t_M_layWord_B227 C N _ hk46 _ ih _ _ _ _ hl0 hl3 hl4 hf
            · exact t_M_layWord_B222 C N _ hk46 _ ih _ _ _ hl0 hl4 hf
      · exact t_M_layWord_B227 C N _ hk46 _ ih _ _ _ _ hl0 hl3 hl4 hf
set_option maxHeartbeats 4000000 in
theorem t_M_layWord_B162 {ad : Nat → Nat} {dA : Nat → ClassId} {D : va_G} {p : Program} {l : Launch} {e : Env} {s : State} {m : MethodId} {args : Array Value} {below : List Frame} {meth : Method} {c : Code} {μ' : Mm} (C : Cx CLS SHM ad dA D p s m args meth c c_M_layWord 7 R_M (none)) (N : Nat)   (k46 : Int32 → Mm → Option Mm) (hk46 : ∀ (v3 : Int32) (μ : Mm) (lv : Nat → Option Value), lv 0 = some (.ref (ad 0)) → lv 3 = some (.int v3) → k46 v3 μ = some μ' → Go CLS SHM ad dA D p l e (rmD 6) s m args below meth c 7 none μ' 46 lv [] μ) : ∀  (μ : Mm) (lv : Nat → Option Value), lv 0 = some (.ref (ad 0)) → f_M_layWord_B162 N k46 μ = some μ' → Go CLS SHM ad dA D p l e (rmD 6) s m args below meth c 7 none μ' 162 lv [] μ := by
  intro μ lv hl0 hf
  unfold f_M_layWord_B162 at hf
  refine g_bipush (v := -9) C d_M_layWord_162 (by decide) ?_
  refine g_istore_n C d_M_layWord_164 rfl (by decide) ?_
  refine g_iconst (v := 0) C d_M_layWord_165 (by decide) ?_
  refine g_istore C d_M_layWord_166 (by decide) ?_
  exact t_M_layWord_L168 C N _ hk46 N _ _ _ _ ((upG (upG hl0 rfl) rfl)) ((upG upS rfl)) upS hf
set_option maxHeartbeats 4000000 in
theorem t_M_layWord_B156 {ad : Nat → Nat} {dA : Nat → ClassId} {D : va_G} {p : Program} {l : Launch} {e : Env} {s : State} {m : MethodId} {args : Array Value} {below : List Frame} {meth : Method} {c : Code} {μ' : Mm} (C : Cx CLS SHM ad dA D p s m args meth c c_M_layWord 7 R_M (none)) (N : Nat)   (k46 : Int32 → Mm → Option Mm) (hk46 : ∀ (v3 : Int32) (μ : Mm) (lv : Nat → Option Value), lv 0 = some (.ref (ad 0)) → lv 3 = some (.int v3) → k46 v3 μ = some μ' → Go CLS SHM ad dA D p l e (rmD 6) s m args below meth c 7 none μ' 46 lv [] μ) (k62 : Int32 → Int32 → Mm → Option Mm) (hk62 : ∀ (v3 : Int32) (v4 : Int32) (μ : Mm) (lv : Nat → Option Value), lv 0 = some (.ref (ad 0)) → lv 3 = some (.int v3) → lv 4 = some (.int v4) → k62 v3 v4 μ = some μ' → Go CLS SHM ad dA D p l e (rmD 6) s m args below meth c 7 none μ' 62 lv [] μ) : ∀ (v3 : Int32) (v4 : Int32) (μ : Mm) (lv : Nat → Option Value), lv 0 = some (.ref (ad 0)) → lv 3 = some (.int v3) → lv 4 = some (.int v4) → f_M_layWord_B156 N k46 k62 v3 v4 μ = some μ' → Go CLS SHM ad dA D p l e (rmD 6) s m args below meth c 7 none μ' 156 lv [] μ := by
  intro v3 v4 μ lv hl0 hl3 hl4 hf
  unfold f_M_layWord_B156 at hf
  refine g_iinc (v := 1) C d_M_layWord_156 hl4 (by decide) (by decide) ?_
  refine g_goto (tgt := 62) C d_M_layWord_159 (by decide) ?_
  exact hk62 _ _ _ _ ((upG hl0 rfl)) ((upG hl3 rfl)) upS hf
set_option maxHeartbeats 4000000 in
theorem t_M_layWord_B155 {ad : Nat → Nat} {dA : Nat → ClassId} {D : va_G} {p : Program} {l : Launch} {e : Env} {s : State} {m : MethodId} {args : Array Value} {below : List Frame} {meth : Method} {c : Code} {μ' : Mm} (C : Cx CLS SHM ad dA D p s m args meth c c_M_layWord 7 R_M (none)) (N : Nat)   (k46 : Int32 → Mm → Option Mm) (hk46 : ∀ (v3 : Int32) (μ : Mm) (lv : Nat → Option Value), lv 0 = some (.ref (ad 0)) → lv 3 = some (.int v3) → k46 v3 μ = some μ' → Go CLS SHM ad dA D p l e (rmD 6) s m args below meth c 7 none μ' 46 lv [] μ) (k62 : Int32 → Int32 → Mm → Option Mm) (hk62 : ∀ (v3 : Int32) (v4 : Int32) (μ : Mm) (lv : Nat → Option Value), lv 0 = some (.ref (ad 0)) → lv 3 = some (.int v3) → lv 4 = some (.int v4) → k62 v3 v4 μ = some μ' → Go CLS SHM ad dA D p l e (rmD 6) s m args below meth c 7 none μ' 62 lv [] μ) : ∀ (v3 : Int32) (v4 : Int32) (s1 : Int32) (s2 : Int64) (μ : Mm) (lv : Nat → Option Value), lv 0 = some (.ref (ad 0)) → lv 3 = some (.int v3) → lv 4 = some (.int v4) → f_M_layWord_B155 N k46 k62 v3 v4 s1 s2 μ = some μ' → Go CLS SHM ad dA D p l e (rmD 6) s m args below meth c 7 none μ' 155 lv [.long s2, .int s1, .ref (ad 22)] μ := by
  intro v3 v4 s1 s2 μ lv hl0 hl3 hl4 hf
  unfold f_M_layWord_B155 at hf
  refine g_last C rfl d_M_layWord_155 hf (fun hf => ?_)
  exact t_M_layWord_B156 C N _ hk46 _ hk62 _ _ _ _ hl0 hl3 hl4 hf
set_option maxHeartbeats 4000000 in
theorem t_M_layWord_B148 {ad : Nat → Nat} {dA : Nat → ClassId} {D : va_G} {p : Program} {l : Launch} {e : Env} {s : State} {m : MethodId} {args : Array Value} {below : List Frame} {meth : Method} {c : Code} {μ' : Mm} (C : Cx CLS SHM ad dA D p s m args meth c c_M_layWord 7 R_M (none)) (N : Nat)   (k46 : Int32 → Mm → Option Mm) (hk46 : ∀ (v3 : Int32) (μ : Mm) (lv : Nat → Option Value), lv 0 = some (.ref (ad 0)) → lv 3 = some (.int v3) → k46 v3 μ = some μ' → Go CLS SHM ad dA D p l e (rmD 6) s m args below meth c 7 none μ' 46 lv [] μ) (k62 : Int32 → Int32 → Mm → Option Mm) (hk62 : ∀ (v3 : Int32) (v4 : Int32) (μ : Mm) (lv : Nat → Option Value), lv 0 = some (.ref (ad 0)) → lv 3 = some (.int v3) → lv 4 = some (.int v4) → k62 v3 v4 μ = some μ' → Go CLS SHM ad dA D p l e (rmD 6) s m args below meth c 7 none μ' 62 lv [] μ) : ∀ (v3 : Int32) (v4 : Int32) (s1 : Int32) (μ : Mm) (lv : Nat → Option Value), lv 0 = some (.ref (ad 0)) → lv 3 = some (.int v3) → lv 4 = some (.int v4) → f_M_layWord_B148 N k46 k62 v3 v4 s1 μ = some μ' → Go CLS SHM ad dA D p l e (rmD 6) s m args below meth c 7 none μ' 148 lv [.int s1, .ref (ad 22)] μ := by
  intro v3 v4 s1 μ lv hl0 hl3 hl4 hf
  unfold f_M_layWord_B148 at hf
  refine g_aload_n C d_M_layWord_148 rfl hl0 ?_
  refine g_getR (b := 22) (k := 44) C k_M (by decide) fl_M_75 rfl rfl d_M_layWord_149 ?_
  refine g_iload C d_M_layWord_152 hl4 ?_
  refine g_lald C rfl d_M_layWord_154 hf (fun hf => ?_)
  exact t_M_layWord_B155 C N _ hk46 _ hk62 _ _ _ _ _ _ hl0 hl3 hl4 hf
set_option maxHeartbeats 4000000 in
theorem t_M_layWord_B143 {ad : Nat → Nat} {dA : Nat → ClassId} {D : va_G} {p : Program} {l : Launch} {e : Env} {s : State} {m : MethodId} {args : Array Value} {below : List Frame} {meth : Method} {c : Code} {μ' : Mm} (C : Cx CLS SHM ad dA D p s m args meth c c_M_layWord 7 R_M (none)) (N : Nat)   (k46 : Int32 → Mm → Option Mm) (hk46 : ∀ (v3 : Int32) (μ : Mm) (lv : Nat → Option Value), lv 0 = some (.ref (ad 0)) → lv 3 = some (.int v3) → k46 v3 μ = some μ' → Go CLS SHM ad dA D p l e (rmD 6) s m args below meth c 7 none μ' 46 lv [] μ) (k62 : Int32 → Int32 → Mm → Option Mm) (hk62 : ∀ (v3 : Int32) (v4 : Int32) (μ : Mm) (lv : Nat → Option Value), lv 0 = some (.ref (ad 0)) → lv 3 = some (.int v3) → lv 4 = some (.int v4) → k62 v3 v4 μ = some μ' → Go CLS SHM ad dA D p l e (rmD 6) s m args below meth c 7 none μ' 62 lv [] μ) : ∀ (v3 : Int32) (v4 : Int32) (v5 : Int64) (s1 : Int32) (μ : Mm) (lv : Nat → Option Value), lv 0 = some (.ref (ad 0)) → lv 3 = some (.int v3) → lv 4 = some (.int v4) → lv 5 = some (.long v5) → f_M_layWord_B143 N k46 k62 v3 v4 v5 s1 μ = some μ' → Go CLS SHM ad dA D p l e (rmD 6) s m args below meth c 7 none μ' 143 lv [.int s1, .ref (ad 22)] μ := by
  intro v3 v4 v5 s1 μ lv hl0 hl3 hl4 hl5 hf
  unfold f_M_layWord_B143 at hf
  refine g_lload C d_M_layWord_143 hl5 ?_
  refine g_goto (tgt := 155) C d_M_layWord_145 (by decide) ?_
  exact t_M_layWord_B155 C N _ hk46 _ hk62 _ _ _ _ _ _ hl0 hl3 hl4 hf
set_option maxHeartbeats 4000000 in
theorem t_M_layWord_L62 {ad : Nat → Nat} {dA : Nat → ClassId} {D : va_G} {p : Program} {l : Launch} {e : Env} {s : State} {m : MethodId} {args : Array Value} {below : List Frame} {meth : Method} {c : Code} {μ' : Mm} (C : Cx CLS SHM ad dA D p s m args meth c c_M_layWord 7 R_M (none)) (N : Nat)   (k46 : Int32 → Mm → Option Mm) (hk46 : ∀ (v3 : Int32) (μ : Mm) (lv : Nat → Option Value), lv 0 = some (.ref (ad 0)) → lv 3 = some (.int v3) → k46 v3 μ = some μ' → Go CLS SHM ad dA D p l e (rmD 6) s m args below meth c 7 none μ' 46 lv [] μ) : ∀ (n : Nat) (v3 : Int32) (v4 : Int32) (μ : Mm) (lv : Nat → Option Value), lv 0 = some (.ref (ad 0)) → lv 3 = some (.int v3) → lv 4 = some (.int v4) → f_M_layWord_L62 N k46 n v3 v4 μ = some μ' → Go CLS SHM ad dA D p l e (rmD 6) s m args below meth c 7 none μ' 62 lv [] μ := by
  intro n
  induction n with
  | zero => intro v3 v4 μ lv hl0 hl3 hl4 hf; cases (show none = some _ from hf)
  | succ n ih =>
    intro v3 v4 μ lv hl0 hl3 hl4 hf
    unfold f_M_layWord_L62 at hf
    refine g_iload C d_M_layWord_62 hl4 ?_
    refine g_aload_n C d_M_layWord_64 rfl hl0 ?_
    refine g_getI (k := 15) C k_M (by decide) fl_M_162 rfl rfl d_M_layWord_65 ?_
    refine g_icmp_ge (tgt := 162) C d_M_layWord_68 (by decide) hf (fun c9 hf => ?_) (fun c9 hf => ?_)
    · exact t_M_layWord_B162 C N _ hk46 _ _ hl0 hf
    · refine g_aload_n C d_M_layWord_71 rfl hl0 ?_
      refine g_iload C d_M_layWord_72 hl4 ?_
      refine g_cvI C k_M rfl mv_M_goes ml_M_193 d_M_layWord_74 hf (fun r μ1 h => t_M_goes C.2.2.2.2.2.2.2.2.1 h) rfl rfl (by decide) (Nat.le_of_ble_eq_true rfl) (fun r11 μ10 hf => ?_)
      refine g_if_eq (tgt := 156) C d_M_layWord_77 (by decide) hf (fun c12 hf => ?_) (fun c12 hf => ?_)
      · exact t_M_layWord_B156 C N _ hk46 _ ih _ _ _ _ hl0 hl3 hl4 hf
      · refine g_aload_n C d_M_layWord_80 rfl hl0 ?_
        refine g_getR (b := 23) (k := 45) C k_M (by decide) fl_M_79 rfl rfl d_M_layWord_81 ?_
        refine g_iload C d_M_layWord_84 hl4 ?_
        refine g_zald C rfl d_M_layWord_86 hf (fun hf => ?_)
        refine g_if_ne (tgt := 156) C d_M_layWord_87 (by decide) hf (fun c13 hf => ?_) (fun c13 hf => ?_)
        · refine g_aload_n C d_M_layWord_90 rfl hl0 ?_
          refine g_iload_n C d_M_layWord_91 rfl hl3 ?_
          refine g_iload C d_M_layWord_92 hl4 ?_
          refine g_aload_n C d_M_layWord_94 rfl hl0 ?_
          refine g_getR (b := 22) (k := 44) C k_M (by decide) fl_M_75 rfl rfl d_M_layWord_95 ?_
          refine g_iload_n C d_M_layWord_98 rfl hl3 ?_
          refine g_lald C rfl d_M_layWord_99 hf (fun hf => ?_)
          refine g_cvL C k_M rfl mv_M_meetFrom ml_M_315 d_M_layWord_100 hf (fun r μ1 h => t_M_meetFrom C.2.2.2.2.2.2.2.2.1 h) rfl rfl (by decide) (Nat.le_of_ble_eq_true rfl) (fun r15 μ14 hf => ?_)
          refine g_lstore C d_M_layWord_103 (by decide) ?_
          refine g_aload_n C d_M_layWord_105 rfl (upG hl0 rfl) ?_
          refine g_getR (b := 22) (k := 44) C k_M (by decide) fl_M_75 rfl rfl d_M_layWord_106 ?_
          refine g_iload C d_M_layWord_109 (upG hl4 rfl) ?_
          refine g_lload C d_M_layWord_111 upS ?_
          refine g_lconst (v := 0) C d_M_layWord_113 (by decide) ?_
          refine g_lcmp C d_M_layWord_114 ?_
          refine g_if_lt (tgt := 148) C d_M_layWord_115 (by decide) hf (fun c16 hf => ?_) (fun c16 hf => ?_)
          · exact t_M_layWord_B148 C N _ hk46 _ ih _ _ _ _ _ ((upG hl0 rfl)) ((upG hl3 rfl)) ((upG hl4 rfl)) hf
          · refine g_aload_n C d_M_layWord_118 rfl (upG hl0 rfl) ?_
            refine g_getR (b := 22) (k := 44) C k_M (by decide) fl_M_75 rfl rfl d_M_layWord_119 ?_
            refine g_iload C d_M_layWord_122 (upG hl4 rfl) ?_
            refine g_lald C rfl d_M_layWord_124 hf (fun hf => ?_)
            refine g_lconst (v := 0) C d_M_layWord_125 (by decide) ?_
            refine g_lcmp C d_M_layWord_126 ?_
            refine g_if_lt (tgt := 143) C d_M_layWord_127 (by decide) hf (fun c17 hf => ?_) (fun c17 hf => ?_)
            · exact t_M_layWord_B143 C N _ hk46 _ ih _ _ _ _ _ _ ((upG hl0 rfl)) ((upG hl3 rfl)) ((upG hl4 rfl)) upS hf
            · refine g_lload C d_M_layWord_130 upS ?_
              refine g_aload_n C d_M_layWord_132 rfl (upG hl0 rfl) ?_
              refine g_getR (b := 22) (k := 44) C k_M (by decide) fl_M_75 rfl rfl d_M_layWord_133 ?_
              refine g_iload C d_M_layWord_136 (upG hl4 rfl) ?_
              refine g_lald C rfl d_M_layWord_138 hf (fun hf => ?_)
              refine g_lcmp C d_M_layWord_139 ?_
              refine g_if_ge (tgt := 148) C d_M_layWord_140 (by decide) hf (fun c18 hf => ?_) (fun c18 hf => ?_)
              · exact t_M_layWord_B148 C N _ hk46 _ ih _ _ _ _ _ ((upG hl0 rfl)) ((upG hl3 rfl)) ((upG hl4 rfl)) hf
              · exact t_M_layWord_B143 C N _ hk46 _ ih _ _ _ _ _ _ ((upG hl0 rfl)) ((upG hl3 rfl)) ((upG hl4 rfl)) upS hf
        · exact t_M_layWord_B156 C N _ hk46 _ ih _ _ _ _ hl0 hl3 hl4 hf
set_option maxHeartbeats 4000000 in
theorem t_M_layWord_L46 {ad : Nat → Nat} {dA : Nat → ClassId} {D : va_G} {p : Program} {l : Launch} {e : Env} {s : State} {m : MethodId} {args : Array Value} {below : List Frame} {meth : Method} {c : Code} {μ' : Mm} (C : Cx CLS SHM ad dA D p s m args meth c c_M_layWord 7 R_M (none)) (N : Nat)   : ∀ (n : Nat) (v3 : Int32) (μ : Mm) (lv : Nat → Option Value), lv 0 = some (.ref (ad 0)) → lv 3 = some (.int v3) → f_M_layWord_L46 N n v3 μ = some μ' → Go CLS SHM ad dA D p l e (rmD 6) s m args below meth c 7 none μ' 46 lv [] μ := by
  intro n
  induction n with
  | zero => intro v3 μ lv hl0 hl3 hf; cases (show none = some _ from hf)
  | succ n ih =>
    intro v3 μ lv hl0 hl3 hf
    unfold f_M_layWord_L46 at hf
    refine g_iload_n C d_M_layWord_46 rfl hl3 ?_
    refine g_bipush (v := -9) C d_M_layWord_47 (by decide) ?_
    refine g_icmp_eq (tgt := 238) C d_M_layWord_49 (by decide) hf (fun c7 hf => ?_) (fun c7 hf => ?_)
    · exact g_vret C d_M_layWord_238 hf
    · refine g_aload_n C d_M_layWord_52 rfl hl0 ?_
      refine g_getR (b := 23) (k := 45) C k_M (by decide) fl_M_79 rfl rfl d_M_layWord_53 ?_
      refine g_iload_n C d_M_layWord_56 rfl hl3 ?_
      refine g_iconst (v := 1) C d_M_layWord_57 (by decide) ?_
      refine g_zast C rfl d_M_layWord_58 hf (fun hf => ?_)
      refine g_iconst (v := 0) C d_M_layWord_59 (by decide) ?_
      refine g_istore C d_M_layWord_60 (by decide) ?_
      exact t_M_layWord_L62 C N _ ih N _ _ _ _ ((upG hl0 rfl)) ((upG hl3 rfl)) upS hf
set_option maxHeartbeats 4000000 in
theorem t_M_layWord_B32 {ad : Nat → Nat} {dA : Nat → ClassId} {D : va_G} {p : Program} {l : Launch} {e : Env} {s : State} {m : MethodId} {args : Array Value} {below : List Frame} {meth : Method} {c : Code} {μ' : Mm} (C : Cx CLS SHM ad dA D p s m args meth c c_M_layWord 7 R_M (none)) (N : Nat)   : ∀ (v1 : Int32) (v2 : Int32) (μ : Mm) (lv : Nat → Option Value), lv 0 = some (.ref (ad 0)) → lv 1 = some (.int v1) → lv 2 = some (.int v2) → f_M_layWord_B32 N v1 v2 μ = some μ' → Go CLS SHM ad dA D p l e (rmD 6) s m args below meth c 7 none μ' 32 lv [] μ := by
  intro v1 v2 μ lv hl0 hl1 hl2 hf
  unfold f_M_layWord_B32 at hf
  refine g_aload_n C d_M_layWord_32 rfl hl0 ?_
  refine g_getR (b := 22) (k := 44) C k_M (by decide) fl_M_75 rfl rfl d_M_layWord_33 ?_
  refine g_iload_n C d_M_layWord_36 rfl hl2 ?_
  refine g_iload_n C d_M_layWord_37 rfl hl1 ?_
  refine g_i2l C d_M_layWord_38 ?_
  refine g_ldc2 C cl_M_297 d_M_layWord_39 ?_
  refine g_lmul C d_M_layWord_42 ?_
  refine g_last C rfl d_M_layWord_43 hf (fun hf => ?_)
  refine g_iload_n C d_M_layWord_44 rfl hl2 ?_
  refine g_istore_n C d_M_layWord_45 rfl (by decide) ?_
  exact t_M_layWord_L46 C N N _ _ _ ((upG hl0 rfl)) upS hf
set_option maxHeartbeats 4000000 in
theorem t_M_layWord_L2 {ad : Nat → Nat} {dA : Nat → ClassId} {D : va_G} {p : Program} {l : Launch} {e : Env} {s : State} {m : MethodId} {args : Array Value} {below : List Frame} {meth : Method} {c : Code} {μ' : Mm} (C : Cx CLS SHM ad dA D p s m args meth c c_M_layWord 7 R_M (none)) (N : Nat)   : ∀ (n : Nat) (v1 : Int32) (v2 : Int32) (v3 : Int32) (μ : Mm) (lv : Nat → Option Value), lv 0 = some (.ref (ad 0)) → lv 1 = some (.int v1) → lv 2 = some (.int v2) → lv 3 = some (.int v3) → f_M_layWord_L2 N n v1 v2 v3 μ = some μ' → Go CLS SHM ad dA D p l e (rmD 6) s m args below meth c 7 none μ' 2 lv [] μ := by
  intro n
  induction n with
  | zero => intro v1 v2 v3 μ lv hl0 hl1 hl2 hl3 hf; cases (show none = some _ from hf)
  | succ n ih =>
    intro v1 v2 v3 μ lv hl0 hl1 hl2 hl3 hf
    unfold f_M_layWord_L2 at hf
    refine g_iload_n C d_M_layWord_2 rfl hl3 ?_
    refine g_aload_n C d_M_layWord_3 rfl hl0 ?_
    refine g_getI (k := 15) C k_M (by decide) fl_M_162 rfl rfl d_M_layWord_4 ?_
    refine g_icmp_ge (tgt := 32) C d_M_layWord_7 (by decide) hf (fun c1 hf => ?_) (fun c1 hf => ?_)
    · exact t_M_layWord_B32 C N _ _ _ _ hl0 hl1 hl2 hf
    · refine g_aload_n C d_M_layWord_10 rfl hl0 ?_
      refine g_getR (b := 22) (k := 44) C k_M (by decide) fl_M_75 rfl rfl d_M_layWord_11 ?_
      refine g_iload_n C d_M_layWord_14 rfl hl3 ?_
      refine g_ldc2 C cl_M_306 d_M_layWord_15 ?_
      refine g_last C rfl d_M_layWord_18 hf (fun hf => ?_)
      refine g_aload_n C d_M_layWord_19 rfl hl0 ?_
      refine g_getR (b := 23) (k := 45) C k_M (by decide) fl_M_79 rfl rfl d_M_layWord_20 ?_
      refine g_iload_n C d_M_layWord_23 rfl hl3 ?_
      refine g_iconst (v := 0) C d_M_layWord_24 (by decide) ?_
      refine g_zast C rfl d_M_layWord_25 hf (fun hf => ?_)
      refine g_iinc (v := 1) C d_M_layWord_26 hl3 (by decide) (by decide) ?_
      refine g_goto (tgt := 2) C d_M_layWord_29 (by decide) ?_
      exact ih _ _ _ _ _ ((upG hl0 rfl)) ((upG hl1 rfl)) ((upG hl2 rfl)) upS hf
set_option maxHeartbeats 4000000 in
theorem t_M_layWord {l : Launch} {ad : Nat → Nat} {dA : Nat → ClassId} {D : va_G} (hi : Inj SHM ad) {N : Nat} {a1 : Int32} {a2 : Int32}  {μ μ' : Mm} (hf : f_M_layWord N a1 a2 μ = some μ') : Ct CLS l SHM ad dA D y_M_layWord c_M_layWord 7 (none) 6 [.ref (ad 0), .int a1, .int a2] μ none μ' := by
  unfold f_M_layWord at hf
  refine ct_of (by decide) hi (Nat.le_of_ble_eq_true rfl) ?_
  intro p e s m args below meth c C
  refine g_iconst (v := 0) C d_M_layWord_0 (by decide) ?_
  refine g_istore_n C d_M_layWord_1 rfl (by decide) ?_
  exact t_M_layWord_L2 C N N _ _ _ _ _ ((upG rfl rfl)) ((upG rfl rfl)) ((upG rfl rfl)) upS hf
set_option maxHeartbeats 4000000 in
theorem t_M_needOne {l : Launch} {ad : Nat → Nat} {dA : Nat → ClassId} {D : va_G} (hi : Inj SHM ad) {N : Nat} {a1 : Int32} {a2 : Int32}  {μ μ' : Mm} {r : Int32} (hf : f_M_needOne N a1 a2 μ = some (r, μ')) : Ct CLS l SHM ad dA D y_M_needOne c_M_needOne 4 (some .int) 6 [.ref (ad 0), .int a1, .int a2] μ (some (.int r)) μ' := by
  unfold f_M_needOne at hf
  refine ct_of (by decide) hi (Nat.le_of_ble_eq_true rfl) ?_
  intro p e s m args below meth c C
  refine g_aload_n C d_M_needOne_0 rfl rfl ?_
  refine g_iload_n C d_M_needOne_1 rfl rfl ?_
  refine g_iconst (v := 0) C d_M_needOne_2 (by decide) ?_
  refine g_sipush (v := 14399) C d_M_needOne_3 (by decide) ?_
  refine g_csI C mv_M_in ml_M_117 d_M_needOne_6 hf (fun r μ1 h => t_M_in C.2.2.2.2.2.2.2.2.1 h) rfl rfl (by decide) (Nat.le_of_ble_eq_true rfl) (fun r2 μ1 hf => ?_)
  refine g_iload_n C d_M_needOne_9 rfl rfl ?_
  refine g_cvI C k_M rfl mv_M_need ml_M_168 d_M_needOne_10 hf (fun r μ1 h => t_M_need C.2.2.2.2.2.2.2.2.1 h) rfl rfl (by decide) (Nat.le_of_ble_eq_true rfl) (fun r4 μ3 hf => ?_)
  refine g_istore_n C d_M_needOne_13 rfl (by decide) ?_
  refine g_iload_n C d_M_needOne_14 rfl upS ?_
  refine g_if_ge (tgt := 22) C d_M_needOne_15 (by decide) hf (fun c5 hf => ?_) (fun c5 hf => ?_)
  · refine g_aload_n C d_M_needOne_22 rfl (upG rfl rfl) ?_
    refine g_iload_n C d_M_needOne_23 rfl (upG rfl rfl) ?_
    refine g_cvI C k_M rfl mv_M_goes ml_M_193 d_M_needOne_24 hf (fun r μ1 h => t_M_goes C.2.2.2.2.2.2.2.2.1 h) rfl rfl (by decide) (Nat.le_of_ble_eq_true rfl) (fun r7 μ6 hf => ?_)
    refine g_if_ne (tgt := 35) C d_M_needOne_27 (by decide) hf (fun c8 hf => ?_) (fun c8 hf => ?_)
    · refine g_bipush (v := -4) C d_M_needOne_30 (by decide) ?_
      refine g_goto (tgt := 48) C d_M_needOne_32 (by decide) ?_
      exact g_iret C d_M_needOne_48 hf
    · refine g_aload_n C d_M_needOne_35 rfl (upG rfl rfl) ?_
      refine g_cvI C k_M rfl mv_M_areShort ml_M_308 d_M_needOne_36 hf (fun r μ1 h => t_M_areShort C.2.2.2.2.2.2.2.2.1 h) rfl rfl (by decide) (Nat.le_of_ble_eq_true rfl) (fun r10 μ9 hf => ?_)
      refine g_if_eq (tgt := 46) C d_M_needOne_39 (by decide) hf (fun c11 hf => ?_) (fun c11 hf => ?_)
      · refine g_bipush (v := -6) C d_M_needOne_46 (by decide) ?_
        exact g_iret C d_M_needOne_48 hf
      · refine g_iconst (v := 0) C d_M_needOne_42 (by decide) ?_
        refine g_goto (tgt := 48) C d_M_needOne_43 (by decide) ?_
        exact g_iret C d_M_needOne_48 hf
  · refine g_iload_n C d_M_needOne_18 rfl upS ?_
    refine g_goto (tgt := 48) C d_M_needOne_19 (by decide) ?_
    exact g_iret C d_M_needOne_48 hf
set_option maxHeartbeats 4000000 in
theorem t_M_word {l : Launch} {ad : Nat → Nat} {dA : Nat → ClassId} {D : va_G} (hi : Inj SHM ad) {N : Nat} {a1 : Int32} {a2 : Int32} {a3 : Int32}  {μ μ' : Mm} {r : Int32} (hf : f_M_word N a1 a2 a3 μ = some (r, μ')) : Ct CLS l SHM ad dA D y_M_word c_M_word 5 (some .int) 7 [.ref (ad 0), .int a1, .int a2, .int a3] μ (some (.int r)) μ' := by
  unfold f_M_word at hf
  refine ct_of (by decide) hi (Nat.le_of_ble_eq_true rfl) ?_
  intro p e s m args below meth c C
  refine g_iload_n C d_M_word_0 rfl rfl ?_
  refine g_iload_n C d_M_word_1 rfl rfl ?_
  refine g_icmp_ne (tgt := 32) C d_M_word_2 (by decide) hf (fun c1 hf => ?_) (fun c1 hf => ?_)
  · refine g_aload_n C d_M_word_5 rfl rfl ?_
    refine g_iload_n C d_M_word_6 rfl rfl ?_
    refine g_iload_n C d_M_word_7 rfl rfl ?_
    refine g_cvI C k_M rfl mv_M_needOne ml_M_319 d_M_word_8 hf (fun r μ1 h => t_M_needOne C.2.2.2.2.2.2.2.2.1 h) rfl rfl (by decide) (Nat.le_of_ble_eq_true rfl) (fun r3 μ2 hf => ?_)
    refine g_istore C d_M_word_11 (by decide) ?_
    refine g_iload C d_M_word_13 upS ?_
    refine g_if_ge (tgt := 23) C d_M_word_15 (by decide) hf (fun c4 hf => ?_) (fun c4 hf => ?_)
    · refine g_aload_n C d_M_word_23 rfl (upG rfl rfl) ?_
      refine g_iload_n C d_M_word_24 rfl (upG rfl rfl) ?_
      refine g_i2l C d_M_word_25 ?_
      refine g_lconst (v := 1) C d_M_word_26 (by decide) ?_
      refine g_iconst (v := 1) C d_M_word_27 (by decide) ?_
      refine g_cvI C k_M rfl mv_M_fraction ml_M_265 d_M_word_28 hf (fun r μ1 h => t_M_fraction C.2.2.2.2.2.2.2.2.1 h) rfl rfl (by decide) (Nat.le_of_ble_eq_true rfl) (fun r6 μ5 hf => ?_)
      exact g_iret C d_M_word_31 hf
    · refine g_iload C d_M_word_18 upS ?_
      refine g_goto (tgt := 31) C d_M_word_20 (by decide) ?_
      exact g_iret C d_M_word_31 hf
  · refine g_aload_n C d_M_word_32 rfl rfl ?_
    refine g_iload_n C d_M_word_33 rfl rfl ?_
    refine g_iload_n C d_M_word_34 rfl rfl ?_
    refine g_iload_n C d_M_word_35 rfl rfl ?_
    refine g_iconst (v := 1) C d_M_word_36 (by decide) ?_
    refine g_cvI C k_M rfl mv_M_needTwo ml_M_311 d_M_word_37 hf (fun r μ1 h => t_M_needTwo C.2.2.2.2.2.2.2.2.1 h) rfl rfl (by decide) (Nat.le_of_ble_eq_true rfl) (fun r8 μ7 hf => ?_)
    refine g_istore C d_M_word_40 (by decide) ?_
    refine g_iload C d_M_word_42 upS ?_
    refine g_if_ge (tgt := 50) C d_M_word_44 (by decide) hf (fun c9 hf => ?_) (fun c9 hf => ?_)
    · refine g_aload_n C d_M_word_50 rfl (upG rfl rfl) ?_
      refine g_iload_n C d_M_word_51 rfl (upG rfl rfl) ?_
      refine g_iload_n C d_M_word_52 rfl (upG rfl rfl) ?_
      refine g_cvV C k_M rfl mv_M_layWord ml_M_322 d_M_word_53 hf (fun μ1 h => t_M_layWord C.2.2.2.2.2.2.2.2.1 h) rfl rfl (by decide) (Nat.le_of_ble_eq_true rfl) (fun μ10 hf => ?_)
      refine g_aload_n C d_M_word_56 rfl (upG rfl rfl) ?_
      refine g_getR (b := 22) (k := 44) C k_M (by decide) fl_M_75 rfl rfl d_M_word_57 ?_
      refine g_iload_n C d_M_word_60 rfl (upG rfl rfl) ?_
      refine g_lald C rfl d_M_word_61 hf (fun hf => ?_)
      refine g_lconst (v := 0) C d_M_word_62 (by decide) ?_
      refine g_lcmp C d_M_word_63 ?_
      refine g_if_ge (tgt := 72) C d_M_word_64 (by decide) hf (fun c11 hf => ?_) (fun c11 hf => ?_)
      · refine g_aload_n C d_M_word_72 rfl (upG rfl rfl) ?_
        refine g_aload_n C d_M_word_73 rfl (upG rfl rfl) ?_
        refine g_getR (b := 22) (k := 44) C k_M (by decide) fl_M_75 rfl rfl d_M_word_74 ?_
        refine g_iload_n C d_M_word_77 rfl (upG rfl rfl) ?_
        refine g_lald C rfl d_M_word_78 hf (fun hf => ?_)
        refine g_ldc2 C cl_M_297 d_M_word_79 ?_
        refine g_iconst (v := 1) C d_M_word_82 (by decide) ?_
        refine g_cvI C k_M rfl mv_M_fraction ml_M_265 d_M_word_83 hf (fun r μ1 h => t_M_fraction C.2.2.2.2.2.2.2.2.1 h) rfl rfl (by decide) (Nat.le_of_ble_eq_true rfl) (fun r13 μ12 hf => ?_)
        exact g_iret C d_M_word_86 hf
      · refine g_bipush (v := -9) C d_M_word_67 (by decide) ?_
        refine g_goto (tgt := 86) C d_M_word_69 (by decide) ?_
        exact g_iret C d_M_word_86 hf
    · refine g_iload C d_M_word_47 upS ?_
      exact g_iret C d_M_word_49 hf
set_option maxHeartbeats 4000000 in
theorem t_M_spread_B53 {ad : Nat → Nat} {dA : Nat → ClassId} {D : va_G} {p : Program} {l : Launch} {e : Env} {s : State} {m : MethodId} {args : Array Value} {below : List Frame} {meth : Method} {c : Code} {r : Int32} {μ' : Mm} (C : Cx CLS SHM ad dA D p s m args meth c c_M_spread 6 R_M (some .int)) (N : Nat)   (k25 : Int32 → Int32 → Mm → Option (Int32 × Mm)) (hk25 : ∀ (v4 : Int32) (v5 : Int32) (μ : Mm) (lv : Nat → Option Value), lv 0 = some (.ref (ad 0)) → lv 4 = some (.int v4) → lv 5 = some (.int v5) → k25 v4 v5 μ = some (r, μ') → Go CLS SHM ad dA D p l e (rmD 7) s m args below meth c 6 (some (.int r)) μ' 25 lv [] μ) : ∀ (v5 : Int32) (s0 : Int32) (s1 : Int32) (μ : Mm) (lv : Nat → Option Value), lv 0 = some (.ref (ad 0)) → lv 5 = some (.int v5) → f_M_spread_B53 N k25 v5 s0 s1 μ = some (r, μ') → Go CLS SHM ad dA D p l e (rmD 7) s m args below meth c 6 (some (.int r)) μ' 53 lv [.int s1, .int s0] μ := by
  intro v5 s0 s1 μ lv hl0 hl5 hf
  unfold f_M_spread_B53 at hf
  refine g_iadd C d_M_spread_53 ?_
  refine g_istore C d_M_spread_54 (by decide) ?_
  refine g_iinc (v := 1) C d_M_spread_56 (upG hl5 rfl) (by decide) (by decide) ?_
  refine g_goto (tgt := 25) C d_M_spread_59 (by decide) ?_
  exact hk25 _ _ _ _ ((upG (upG hl0 rfl) rfl)) ((upG upS rfl)) upS hf
set_option maxHeartbeats 4000000 in
theorem t_M_spread_L25 {ad : Nat → Nat} {dA : Nat → ClassId} {D : va_G} {p : Program} {l : Launch} {e : Env} {s : State} {m : MethodId} {args : Array Value} {below : List Frame} {meth : Method} {c : Code} {r : Int32} {μ' : Mm} (C : Cx CLS SHM ad dA D p s m args meth c c_M_spread 6 R_M (some .int)) (N : Nat)   : ∀ (n : Nat) (v4 : Int32) (v5 : Int32) (μ : Mm) (lv : Nat → Option Value), lv 0 = some (.ref (ad 0)) → lv 4 = some (.int v4) → lv 5 = some (.int v5) → f_M_spread_L25 N n v4 v5 μ = some (r, μ') → Go CLS SHM ad dA D p l e (rmD 7) s m args below meth c 6 (some (.int r)) μ' 25 lv [] μ := by
  intro n
  induction n with
  | zero => intro v4 v5 μ lv hl0 hl4 hl5 hf; cases (show none = some _ from hf)
  | succ n ih =>
    intro v4 v5 μ lv hl0 hl4 hl5 hf
    unfold f_M_spread_L25 at hf
    refine g_iload C d_M_spread_25 hl5 ?_
    refine g_aload_n C d_M_spread_27 rfl hl0 ?_
    refine g_getI (k := 15) C k_M (by decide) fl_M_162 rfl rfl d_M_spread_28 ?_
    refine g_icmp_ge (tgt := 62) C d_M_spread_31 (by decide) hf (fun c5 hf => ?_) (fun c5 hf => ?_)
    · refine g_iload C d_M_spread_62 hl4 ?_
      exact g_iret C d_M_spread_64 hf
    · refine g_iload C d_M_spread_34 hl4 ?_
      refine g_aload_n C d_M_spread_36 rfl hl0 ?_
      refine g_getR (b := 22) (k := 44) C k_M (by decide) fl_M_75 rfl rfl d_M_spread_37 ?_
      refine g_iload C d_M_spread_40 hl5 ?_
      refine g_lald C rfl d_M_spread_42 hf (fun hf => ?_)
      refine g_lconst (v := 0) C d_M_spread_43 (by decide) ?_
      refine g_lcmp C d_M_spread_44 ?_
      refine g_if_lt (tgt := 52) C d_M_spread_45 (by decide) hf (fun c6 hf => ?_) (fun c6 hf => ?_)
      · refine g_iconst (v := 0) C d_M_spread_52 (by decide) ?_
        exact t_M_spread_B53 C N _ ih _ _ _ _ _ hl0 hl5 hf
      · refine g_iconst (v := 1) C d_M_spread_48 (by decide) ?_
        refine g_goto (tgt := 53) C d_M_spread_49 (by decide) ?_
        exact t_M_spread_B53 C N _ ih _ _ _ _ _ hl0 hl5 hf
set_option maxHeartbeats 4000000 in
theorem t_M_spread {l : Launch} {ad : Nat → Nat} {dA : Nat → ClassId} {D : va_G} (hi : Inj SHM ad) {N : Nat} {a1 : Int32} {a2 : Int32}  {μ μ' : Mm} {r : Int32} (hf : f_M_spread N a1 a2 μ = some (r, μ')) : Ct CLS l SHM ad dA D y_M_spread c_M_spread 6 (some .int) 7 [.ref (ad 0), .int a1, .int a2] μ (some (.int r)) μ' := by
  unfold f_M_spread at hf
  refine ct_of (by decide) hi (Nat.le_of_ble_eq_true rfl) ?_
  intro p e s m args below meth c C
  refine g_aload_n C d_M_spread_0 rfl rfl ?_
  refine g_iload_n C d_M_spread_1 rfl rfl ?_
  refine g_iload_n C d_M_spread_2 rfl rfl ?_
  refine g_cvI C k_M rfl mv_M_needOne ml_M_319 d_M_spread_3 hf (fun r μ1 h => t_M_needOne C.2.2.2.2.2.2.2.2.1 h) rfl rfl (by decide) (Nat.le_of_ble_eq_true rfl) (fun r2 μ1 hf => ?_)
  refine g_istore_n C d_M_spread_6 rfl (by decide) ?_
  refine g_iload_n C d_M_spread_7 rfl upS ?_
  refine g_if_ge (tgt := 13) C d_M_spread_8 (by decide) hf (fun c3 hf => ?_) (fun c3 hf => ?_)
  · refine g_aload_n C d_M_spread_13 rfl (upG rfl rfl) ?_
    refine g_iload_n C d_M_spread_14 rfl (upG rfl rfl) ?_
    refine g_iload_n C d_M_spread_15 rfl (upG rfl rfl) ?_
    refine g_cvV C k_M rfl mv_M_layWord ml_M_322 d_M_spread_16 hf (fun μ1 h => t_M_layWord C.2.2.2.2.2.2.2.2.1 h) rfl rfl (by decide) (Nat.le_of_ble_eq_true rfl) (fun μ4 hf => ?_)
    refine g_iconst (v := 0) C d_M_spread_19 (by decide) ?_
    refine g_istore C d_M_spread_20 (by decide) ?_
    refine g_iconst (v := 0) C d_M_spread_22 (by decide) ?_
    refine g_istore C d_M_spread_23 (by decide) ?_
    exact t_M_spread_L25 C N N _ _ _ _ ((upG (upG (upG rfl rfl) rfl) rfl)) ((upG upS rfl)) upS hf
  · refine g_iload_n C d_M_spread_11 rfl upS ?_
    exact g_iret C d_M_spread_12 hf
set_option maxHeartbeats 4000000 in
theorem t_M_restOf {l : Launch} {ad : Nat → Nat} {dA : Nat → ClassId} {D : va_G} (hi : Inj SHM ad) {N : Nat} {a1 : Int32} {a2 : Int32}  {μ μ' : Mm} {r : Int32} (hf : f_M_restOf N a1 a2 μ = some (r, μ')) : Ct CLS l SHM ad dA D y_M_restOf c_M_restOf 3 (some .int) 0 [.ref (ad 0), .int a1, .int a2] μ (some (.int r)) μ' := by
  unfold f_M_restOf at hf
  refine ct_of (by decide) hi (Nat.le_of_ble_eq_true rfl) ?_
  intro p e s m args below meth c C
  refine g_aload_n C d_M_restOf_0 rfl rfl ?_
  refine g_getR (b := 25) (k := 48) C k_M (by decide) fl_M_85 rfl rfl d_M_restOf_1 ?_
  refine g_bipush (v := 10) C d_M_restOf_4 (by decide) ?_
  refine g_iload_n C d_M_restOf_6 rfl rfl ?_
  refine g_imul C d_M_restOf_7 ?_
  refine g_iload_n C d_M_restOf_8 rfl rfl ?_
  refine g_iadd C d_M_restOf_9 ?_
  refine g_iald C rfl d_M_restOf_10 hf (fun hf => ?_)
  exact g_iret C d_M_restOf_11 hf
set_option maxHeartbeats 4000000 in
theorem t_M_hop {l : Launch} {ad : Nat → Nat} {dA : Nat → ClassId} {D : va_G} (hi : Inj SHM ad) {N : Nat} {a1 : Int32} {a2 : Int32}  {μ μ' : Mm} {r : Int32} (hf : f_M_hop N a1 a2 μ = some (r, μ')) : Ct CLS l SHM ad dA D y_M_hop c_M_hop 3 (some .int) 0 [.ref (ad 0), .int a1, .int a2] μ (some (.int r)) μ' := by
  unfold f_M_hop at hf
  refine ct_of (by decide) hi (Nat.le_of_ble_eq_true rfl) ?_
  intro p e s m args below meth c C
  refine g_aload_n C d_M_hop_0 rfl rfl ?_
  refine g_getR (b := 9) (k := 14) C k_M (by decide) fl_M_36 rfl rfl d_M_hop_1 ?_
  refine g_bipush (v := 16) C d_M_hop_4 (by decide) ?_
  refine g_aload_n C d_M_hop_6 rfl rfl ?_
  refine g_getR (b := 24) (k := 47) C k_M (by decide) fl_M_82 rfl rfl d_M_hop_7 ?_
  refine g_iload_n C d_M_hop_10 rfl rfl ?_
  refine g_iald C rfl d_M_hop_11 hf (fun hf => ?_)
  refine g_imul C d_M_hop_12 ?_
  refine g_aload_n C d_M_hop_13 rfl rfl ?_
  refine g_getR (b := 24) (k := 47) C k_M (by decide) fl_M_82 rfl rfl d_M_hop_14 ?_
  refine g_iload_n C d_M_hop_17 rfl rfl ?_
  refine g_iald C rfl d_M_hop_18 hf (fun hf => ?_)
  refine g_iadd C d_M_hop_19 ?_
  refine g_iald C rfl d_M_hop_20 hf (fun hf => ?_)
  exact g_iret C d_M_hop_21 hf
set_option maxHeartbeats 4000000 in
theorem t_M_layRound_B228 {ad : Nat → Nat} {dA : Nat → ClassId} {D : va_G} {p : Program} {l : Launch} {e : Env} {s : State} {m : MethodId} {args : Array Value} {below : List Frame} {meth : Method} {c : Code} {r : Int32} {μ' : Mm} (C : Cx CLS SHM ad dA D p s m args meth c c_M_layRound 7 R_M (some .boolean)) (N : Nat)   (k92 : Int32 → Mm → Option (Int32 × Mm)) (hk92 : ∀ (v2 : Int32) (μ : Mm) (lv : Nat → Option Value), lv 0 = some (.ref (ad 0)) → lv 2 = some (.int v2) → k92 v2 μ = some (r, μ') → Go CLS SHM ad dA D p l e (rmD 1) s m args below meth c 7 (some (.int r)) μ' 92 lv [] μ) : ∀ (v2 : Int32) (μ : Mm) (lv : Nat → Option Value), lv 0 = some (.ref (ad 0)) → lv 2 = some (.int v2) → f_M_layRound_B228 N k92 v2 μ = some (r, μ') → Go CLS SHM ad dA D p l e (rmD 1) s m args below meth c 7 (some (.int r)) μ' 228 lv [] μ := by
  intro v2 μ lv hl0 hl2 hf
  unfold f_M_layRound_B228 at hf
  refine g_iinc (v := 1) C d_M_layRound_228 hl2 (by decide) (by decide) ?_
  refine g_goto (tgt := 92) C d_M_layRound_231 (by decide) ?_
  exact hk92 _ _ _ ((upG hl0 rfl)) upS hf
set_option maxHeartbeats 4000000 in
theorem t_M_layRound_B221 {ad : Nat → Nat} {dA : Nat → ClassId} {D : va_G} {p : Program} {l : Launch} {e : Env} {s : State} {m : MethodId} {args : Array Value} {below : List Frame} {meth : Method} {c : Code} {r : Int32} {μ' : Mm} (C : Cx CLS SHM ad dA D p s m args meth c c_M_layRound 7 R_M (some .boolean)) (N : Nat)   (k92 : Int32 → Mm → Option (Int32 × Mm)) (hk92 : ∀ (v2 : Int32) (μ : Mm) (lv : Nat → Option Value), lv 0 = some (.ref (ad 0)) → lv 2 = some (.int v2) → k92 v2 μ = some (r, μ') → Go CLS SHM ad dA D p l e (rmD 1) s m args below meth c 7 (some (.int r)) μ' 92 lv [] μ) (k104 : Int32 → Int32 → Mm → Option (Int32 × Mm)) (hk104 : ∀ (v2 : Int32) (v3 : Int32) (μ : Mm) (lv : Nat → Option Value), lv 0 = some (.ref (ad 0)) → lv 2 = some (.int v2) → lv 3 = some (.int v3) → k104 v2 v3 μ = some (r, μ') → Go CLS SHM ad dA D p l e (rmD 1) s m args below meth c 7 (some (.int r)) μ' 104 lv [] μ) : ∀ (v2 : Int32) (v3 : Int32) (s1 : Int32) (s2 : Int32) (μ : Mm) (lv : Nat → Option Value), lv 0 = some (.ref (ad 0)) → lv 2 = some (.int v2) → lv 3 = some (.int v3) → f_M_layRound_B221 N k92 k104 v2 v3 s1 s2 μ = some (r, μ') → Go CLS SHM ad dA D p l e (rmD 1) s m args below meth c 7 (some (.int r)) μ' 221 lv [.int s2, .int s1, .ref (ad 25)] μ := by
  intro v2 v3 s1 s2 μ lv hl0 hl2 hl3 hf
  unfold f_M_layRound_B221 at hf
  refine g_iast C rfl d_M_layRound_221 hf (fun hf => ?_)
  refine g_iinc (v := 1) C d_M_layRound_222 hl3 (by decide) (by decide) ?_
  refine g_goto (tgt := 104) C d_M_layRound_225 (by decide) ?_
  exact hk104 _ _ _ _ ((upG hl0 rfl)) ((upG hl2 rfl)) upS hf
set_option maxHeartbeats 4000000 in
theorem t_M_layRound_B197 {ad : Nat → Nat} {dA : Nat → ClassId} {D : va_G} {p : Program} {l : Launch} {e : Env} {s : State} {m : MethodId} {args : Array Value} {below : List Frame} {meth : Method} {c : Code} {r : Int32} {μ' : Mm} (C : Cx CLS SHM ad dA D p s m args meth c c_M_layRound 7 R_M (some .boolean)) (N : Nat)   (k92 : Int32 → Mm → Option (Int32 × Mm)) (hk92 : ∀ (v2 : Int32) (μ : Mm) (lv : Nat → Option Value), lv 0 = some (.ref (ad 0)) → lv 2 = some (.int v2) → k92 v2 μ = some (r, μ') → Go CLS SHM ad dA D p l e (rmD 1) s m args below meth c 7 (some (.int r)) μ' 92 lv [] μ) (k104 : Int32 → Int32 → Mm → Option (Int32 × Mm)) (hk104 : ∀ (v2 : Int32) (v3 : Int32) (μ : Mm) (lv : Nat → Option Value), lv 0 = some (.ref (ad 0)) → lv 2 = some (.int v2) → lv 3 = some (.int v3) → k104 v2 v3 μ = some (r, μ') → Go CLS SHM ad dA D p l e (rmD 1) s m args below meth c 7 (some (.int r)) μ' 104 lv [] μ) : ∀ (v2 : Int32) (v3 : Int32) (v4 : Int32) (μ : Mm) (lv : Nat → Option Value), lv 0 = some (.ref (ad 0)) → lv 2 = some (.int v2) → lv 3 = some (.int v3) → lv 4 = some (.int v4) → f_M_layRound_B197 N k92 k104 v2 v3 v4 μ = some (r, μ') → Go CLS SHM ad dA D p l e (rmD 1) s m args below meth c 7 (some (.int r)) μ' 197 lv [] μ := by
  intro v2 v3 v4 μ lv hl0 hl2 hl3 hl4 hf
  unfold f_M_layRound_B197 at hf
  refine g_aload_n C d_M_layRound_197 rfl hl0 ?_
  refine g_getR (b := 25) (k := 48) C k_M (by decide) fl_M_85 rfl rfl d_M_layRound_198 ?_
  refine g_bipush (v := 10) C d_M_layRound_201 (by decide) ?_
  refine g_iload_n C d_M_layRound_203 rfl hl2 ?_
  refine g_imul C d_M_layRound_204 ?_
  refine g_iload_n C d_M_layRound_205 rfl hl3 ?_
  refine g_iadd C d_M_layRound_206 ?_
  refine g_iload C d_M_layRound_207 hl4 ?_
  refine g_ldc C ck_M_158 d_M_layRound_209 ?_
  refine g_icmp_le (tgt := 219) C d_M_layRound_211 (by decide) hf (fun c27 hf => ?_) (fun c27 hf => ?_)
  · refine g_iload C d_M_layRound_219 hl4 ?_
    exact t_M_layRound_B221 C N _ hk92 _ hk104 _ _ _ _ _ _ hl0 hl2 hl3 hf
  · refine g_ldc C ck_M_158 d_M_layRound_214 ?_
    refine g_goto (tgt := 221) C d_M_layRound_216 (by decide) ?_
    exact t_M_layRound_B221 C N _ hk92 _ hk104 _ _ _ _ _ _ hl0 hl2 hl3 hf
set_option maxHeartbeats 4000000 in
theorem t_M_layRound_B191 {ad : Nat → Nat} {dA : Nat → ClassId} {D : va_G} {p : Program} {l : Launch} {e : Env} {s : State} {m : MethodId} {args : Array Value} {below : List Frame} {meth : Method} {c : Code} {r : Int32} {μ' : Mm} (C : Cx CLS SHM ad dA D p s m args meth c c_M_layRound 7 R_M (some .boolean)) (N : Nat)   (k92 : Int32 → Mm → Option (Int32 × Mm)) (hk92 : ∀ (v2 : Int32) (μ : Mm) (lv : Nat → Option Value), lv 0 = some (.ref (ad 0)) → lv 2 = some (.int v2) → k92 v2 μ = some (r, μ') → Go CLS SHM ad dA D p l e (rmD 1) s m args below meth c 7 (some (.int r)) μ' 92 lv [] μ) (k104 : Int32 → Int32 → Mm → Option (Int32 × Mm)) (hk104 : ∀ (v2 : Int32) (v3 : Int32) (μ : Mm) (lv : Nat → Option Value), lv 0 = some (.ref (ad 0)) → lv 2 = some (.int v2) → lv 3 = some (.int v3) → k104 v2 v3 μ = some (r, μ') → Go CLS SHM ad dA D p l e (rmD 1) s m args below meth c 7 (some (.int r)) μ' 104 lv [] μ) (k132 : Int32 → Int32 → Int32 → Int32 → Mm → Option (Int32 × Mm)) (hk132 : ∀ (v2 : Int32) (v3 : Int32) (v4 : Int32) (v5 : Int32) (μ : Mm) (lv : Nat → Option Value), lv 0 = some (.ref (ad 0)) → lv 2 = some (.int v2) → lv 3 = some (.int v3) → lv 4 = some (.int v4) → lv 5 = some (.int v5) → k132 v2 v3 v4 v5 μ = some (r, μ') → Go CLS SHM ad dA D p l e (rmD 1) s m args below meth c 7 (some (.int r)) μ' 132 lv [] μ) : ∀ (v2 : Int32) (v3 : Int32) (v4 : Int32) (v5 : Int32) (μ : Mm) (lv : Nat → Option Value), lv 0 = some (.ref (ad 0)) → lv 2 = some (.int v2) → lv 3 = some (.int v3) → lv 4 = some (.int v4) → lv 5 = some (.int v5) → f_M_layRound_B191 N k92 k104 k132 v2 v3 v4 v5 μ = some (r, μ') → Go CLS SHM ad dA D p l e (rmD 1) s m args below meth c 7 (some (.int r)) μ' 191 lv [] μ := by
  intro v2 v3 v4 v5 μ lv hl0 hl2 hl3 hl4 hl5 hf
  unfold f_M_layRound_B191 at hf
  refine g_iinc (v := 1) C d_M_layRound_191 hl5 (by decide) (by decide) ?_
  refine g_goto (tgt := 132) C d_M_layRound_194 (by decide) ?_
  exact hk132 _ _ _ _ _ _ ((upG hl0 rfl)) ((upG hl2 rfl)) ((upG hl3 rfl)) ((upG hl4 rfl)) upS hf
set_option maxHeartbeats 4000000 in
theorem t_M_layRound_B189 {ad : Nat → Nat} {dA : Nat → ClassId} {D : va_G} {p : Program} {l : Launch} {e : Env} {s : State} {m : MethodId} {args : Array Value} {below : List Frame} {meth : Method} {c : Code} {r : Int32} {μ' : Mm} (C : Cx CLS SHM ad dA D p s m args meth c c_M_layRound 7 R_M (some .boolean)) (N : Nat)   (k92 : Int32 → Mm → Option (Int32 × Mm)) (hk92 : ∀ (v2 : Int32) (μ : Mm) (lv : Nat → Option Value), lv 0 = some (.ref (ad 0)) → lv 2 = some (.int v2) → k92 v2 μ = some (r, μ') → Go CLS SHM ad dA D p l e (rmD 1) s m args below meth c 7 (some (.int r)) μ' 92 lv [] μ) (k104 : Int32 → Int32 → Mm → Option (Int32 × Mm)) (hk104 : ∀ (v2 : Int32) (v3 : Int32) (μ : Mm) (lv : Nat → Option Value), lv 0 = some (.ref (ad 0)) → lv 2 = some (.int v2) → lv 3 = some (.int v3) → k104 v2 v3 μ = some (r, μ') → Go CLS SHM ad dA D p l e (rmD 1) s m args below meth c 7 (some (.int r)) μ' 104 lv [] μ) (k132 : Int32 → Int32 → Int32 → Int32 → Mm → Option (Int32 × Mm)) (hk132 : ∀ (v2 : Int32) (v3 : Int32) (v4 : Int32) (v5 : Int32) (μ : Mm) (lv : Nat → Option Value), lv 0 = some (.ref (ad 0)) → lv 2 = some (.int v2) → lv 3 = some (.int v3) → lv 4 = some (.int v4) → lv 5 = some (.int v5) → k132 v2 v3 v4 v5 μ = some (r, μ') → Go CLS SHM ad dA D p l e (rmD 1) s m args below meth c 7 (some (.int r)) μ' 132 lv [] μ) : ∀ (v2 : Int32) (v3 : Int32) (v5 : Int32) (s0 : Int32) (μ : Mm) (lv : Nat → Option Value), lv 0 = some (.ref (ad 0)) → lv 2 = some (.int v2) → lv 3 = some (.int v3) → lv 5 = some (.int v5) → f_M_layRound_B189 N k92 k104 k132 v2 v3 v5 s0 μ = some (r, μ') → Go CLS SHM ad dA D p l e (rmD 1) s m args below meth c 7 (some (.int r)) μ' 189 lv [.int s0] μ := by
  intro v2 v3 v5 s0 μ lv hl0 hl2 hl3 hl5 hf
  unfold f_M_layRound_B189 at hf
  refine g_istore C d_M_layRound_189 (by decide) ?_
  exact t_M_layRound_B191 C N _ hk92 _ hk104 _ hk132 _ _ _ _ _ _ ((upG hl0 rfl)) ((upG hl2 rfl)) ((upG hl3 rfl)) upS ((upG hl5 rfl)) hf
set_option maxHeartbeats 4000000 in
theorem t_M_layRound_L132 {ad : Nat → Nat} {dA : Nat → ClassId} {D : va_G} {p : Program} {l : Launch} {e : Env} {s : State} {m : MethodId} {args : Array Value} {below : List Frame} {meth : Method} {c : Code} {r : Int32} {μ' : Mm} (C : Cx CLS SHM ad dA D p s m args meth c c_M_layRound 7 R_M (some .boolean)) (N : Nat)   (k92 : Int32 → Mm → Option (Int32 × Mm)) (hk92 : ∀ (v2 : Int32) (μ : Mm) (lv : Nat → Option Value), lv 0 = some (.ref (ad 0)) → lv 2 = some (.int v2) → k92 v2 μ = some (r, μ') → Go CLS SHM ad dA D p l e (rmD 1) s m args below meth c 7 (some (.int r)) μ' 92 lv [] μ) (k104 : Int32 → Int32 → Mm → Option (Int32 × Mm)) (hk104 : ∀ (v2 : Int32) (v3 : Int32) (μ : Mm) (lv : Nat → Option Value), lv 0 = some (.ref (ad 0)) → lv 2 = some (.int v2) → lv 3 = some (.int v3) → k104 v2 v3 μ = some (r, μ') → Go CLS SHM ad dA D p l e (rmD 1) s m args below meth c 7 (some (.int r)) μ' 104 lv [] μ) : ∀ (n : Nat) (v2 : Int32) (v3 : Int32) (v4 : Int32) (v5 : Int32) (μ : Mm) (lv : Nat → Option Value), lv 0 = some (.ref (ad 0)) → lv 2 = some (.int v2) → lv 3 = some (.int v3) → lv 4 = some (.int v4) → lv 5 = some (.int v5) → f_M_layRound_L132 N k92 k104 n v2 v3 v4 v5 μ = some (r, μ') → Go CLS SHM ad dA D p l e (rmD 1) s m args below meth c 7 (some (.int r)) μ' 132 lv [] μ := by
  intro n
  induction n with
  | zero => intro v2 v3 v4 v5 μ lv hl0 hl2 hl3 hl4 hl5 hf; cases (show none = some _ from hf)
  | succ n ih =>
    intro v2 v3 v4 v5 μ lv hl0 hl2 hl3 hl4 hl5 hf
    unfold f_M_layRound_L132 at hf
    refine g_iload C d_M_layRound_132 hl5 ?_
    refine g_aload_n C d_M_layRound_134 rfl hl0 ?_
    refine g_getI (k := 46) C k_M (by decide) fl_M_325 rfl rfl d_M_layRound_135 ?_
    refine g_icmp_ge (tgt := 197) C d_M_layRound_138 (by decide) hf (fun c18 hf => ?_) (fun c18 hf => ?_)
    · exact t_M_layRound_B197 C N _ hk92 _ hk104 _ _ _ _ _ hl0 hl2 hl3 hl4 hf
    · refine g_iload_n C d_M_layRound_141 rfl hl2 ?_
      refine g_iload C d_M_layRound_142 hl5 ?_
      refine g_ishr C d_M_layRound_144 ?_
      refine g_iconst (v := 1) C d_M_layRound_145 (by decide) ?_
      refine g_iand C d_M_layRound_146 ?_
      refine g_iconst (v := 1) C d_M_layRound_147 (by decide) ?_
      refine g_icmp_ne (tgt := 191) C d_M_layRound_148 (by decide) hf (fun c19 hf => ?_) (fun c19 hf => ?_)
      · refine g_aload_n C d_M_layRound_151 rfl hl0 ?_
        refine g_iload_n C d_M_layRound_152 rfl hl3 ?_
        refine g_iload C d_M_layRound_153 hl5 ?_
        refine g_cvI C k_M rfl mv_M_hop ml_M_328 d_M_layRound_155 hf (fun r μ1 h => t_M_hop C.2.2.2.2.2.2.2.2.1 h) rfl rfl (by decide) (Nat.le_of_ble_eq_true rfl) (fun r21 μ20 hf => ?_)
        refine g_aload_n C d_M_layRound_158 rfl hl0 ?_
        refine g_iload_n C d_M_layRound_159 rfl hl2 ?_
        refine g_iconst (v := 1) C d_M_layRound_160 (by decide) ?_
        refine g_iload C d_M_layRound_161 hl5 ?_
        refine g_ishl C d_M_layRound_163 ?_
        refine g_iconst (v := -1) C d_M_layRound_164 (by decide) ?_
        refine g_ixor C d_M_layRound_165 ?_
        refine g_iand C d_M_layRound_166 ?_
        refine g_iload C d_M_layRound_167 hl5 ?_
        refine g_cvI C k_M rfl mv_M_restOf ml_M_331 d_M_layRound_169 hf (fun r μ1 h => t_M_restOf C.2.2.2.2.2.2.2.2.1 h) rfl rfl (by decide) (Nat.le_of_ble_eq_true rfl) (fun r23 μ22 hf => ?_)
        refine g_iadd C d_M_layRound_172 ?_
        refine g_istore C d_M_layRound_173 (by decide) ?_
        refine g_iload C d_M_layRound_175 upS ?_
        refine g_iload C d_M_layRound_177 (upG hl4 rfl) ?_
        refine g_icmp_ge (tgt := 187) C d_M_layRound_179 (by decide) hf (fun c25 hf => ?_) (fun c25 hf => ?_)
        · refine g_iload C d_M_layRound_187 (upG hl4 rfl) ?_
          exact t_M_layRound_B189 C N _ hk92 _ hk104 _ ih _ _ _ _ _ _ ((upG hl0 rfl)) ((upG hl2 rfl)) ((upG hl3 rfl)) ((upG hl5 rfl)) hf
        · refine g_iload C d_M_layRound_182 upS ?_
          refine g_goto (tgt := 189) C d_M_layRound_184 (by decide) ?_
          exact t_M_layRound_B189 C N _ hk92 _ hk104 _ ih _ _ _ _ _ _ ((upG hl0 rfl)) ((upG hl2 rfl)) ((upG hl3 rfl)) ((upG hl5 rfl)) hf
      · exact t_M_layRound_B191 C N _ hk92 _ hk104 _ ih _ _ _ _ _ _ hl0 hl2 hl3 hl4 hl5 hf
set_option maxHeartbeats 4000000 in
theorem t_M_layRound_B127 {ad : Nat → Nat} {dA : Nat → ClassId} {D : va_G} {p : Program} {l : Launch} {e : Env} {s : State} {m : MethodId} {args : Array Value} {below : List Frame} {meth : Method} {c : Code} {r : Int32} {μ' : Mm} (C : Cx CLS SHM ad dA D p s m args meth c c_M_layRound 7 R_M (some .boolean)) (N : Nat)   (k92 : Int32 → Mm → Option (Int32 × Mm)) (hk92 : ∀ (v2 : Int32) (μ : Mm) (lv : Nat → Option Value), lv 0 = some (.ref (ad 0)) → lv 2 = some (.int v2) → k92 v2 μ = some (r, μ') → Go CLS SHM ad dA D p l e (rmD 1) s m args below meth c 7 (some (.int r)) μ' 92 lv [] μ) (k104 : Int32 → Int32 → Mm → Option (Int32 × Mm)) (hk104 : ∀ (v2 : Int32) (v3 : Int32) (μ : Mm) (lv : Nat → Option Value), lv 0 = some (.ref (ad 0)) → lv 2 = some (.int v2) → lv 3 = some (.int v3) → k104 v2 v3 μ = some (r, μ') → Go CLS SHM ad dA D p l e (rmD 1) s m args below meth c 7 (some (.int r)) μ' 104 lv [] μ) : ∀ (v2 : Int32) (v3 : Int32) (s0 : Int32) (μ : Mm) (lv : Nat → Option Value), lv 0 = some (.ref (ad 0)) → lv 2 = some (.int v2) → lv 3 = some (.int v3) → f_M_layRound_B127 N k92 k104 v2 v3 s0 μ = some (r, μ') → Go CLS SHM ad dA D p l e (rmD 1) s m args below meth c 7 (some (.int r)) μ' 127 lv [.int s0] μ := by
  intro v2 v3 s0 μ lv hl0 hl2 hl3 hf
  unfold f_M_layRound_B127 at hf
  refine g_istore C d_M_layRound_127 (by decide) ?_
  refine g_iconst (v := 0) C d_M_layRound_129 (by decide) ?_
  refine g_istore C d_M_layRound_130 (by decide) ?_
  exact t_M_layRound_L132 C N _ hk92 _ hk104 N _ _ _ _ _ _ ((upG (upG hl0 rfl) rfl)) ((upG (upG hl2 rfl) rfl)) ((upG (upG hl3 rfl) rfl)) ((upG upS rfl)) upS hf
set_option maxHeartbeats 4000000 in
theorem t_M_layRound_L104 {ad : Nat → Nat} {dA : Nat → ClassId} {D : va_G} {p : Program} {l : Launch} {e : Env} {s : State} {m : MethodId} {args : Array Value} {below : List Frame} {meth : Method} {c : Code} {r : Int32} {μ' : Mm} (C : Cx CLS SHM ad dA D p s m args meth c c_M_layRound 7 R_M (some .boolean)) (N : Nat)   (k92 : Int32 → Mm → Option (Int32 × Mm)) (hk92 : ∀ (v2 : Int32) (μ : Mm) (lv : Nat → Option Value), lv 0 = some (.ref (ad 0)) → lv 2 = some (.int v2) → k92 v2 μ = some (r, μ') → Go CLS SHM ad dA D p l e (rmD 1) s m args below meth c 7 (some (.int r)) μ' 92 lv [] μ) : ∀ (n : Nat) (v2 : Int32) (v3 : Int32) (μ : Mm) (lv : Nat → Option Value), lv 0 = some (.ref (ad 0)) → lv 2 = some (.int v2) → lv 3 = some (.int v3) → f_M_layRound_L104 N k92 n v2 v3 μ = some (r, μ') → Go CLS SHM ad dA D p l e (rmD 1) s m args below meth c 7 (some (.int r)) μ' 104 lv [] μ := by
  intro n
  induction n with
  | zero => intro v2 v3 μ lv hl0 hl2 hl3 hf; cases (show none = some _ from hf)
  | succ n ih =>
    intro v2 v3 μ lv hl0 hl2 hl3 hf
    unfold f_M_layRound_L104 at hf
    refine g_iload_n C d_M_layRound_104 rfl hl3 ?_
    refine g_aload_n C d_M_layRound_105 rfl hl0 ?_
    refine g_getI (k := 46) C k_M (by decide) fl_M_325 rfl rfl d_M_layRound_106 ?_
    refine g_icmp_ge (tgt := 228) C d_M_layRound_109 (by decide) hf (fun c14 hf => ?_) (fun c14 hf => ?_)
    · exact t_M_layRound_B228 C N _ hk92 _ _ _ hl0 hl2 hf
    · refine g_iload_n C d_M_layRound_112 rfl hl2 ?_
      refine g_if_ne (tgt := 125) C d_M_layRound_113 (by decide) hf (fun c15 hf => ?_) (fun c15 hf => ?_)
      · refine g_aload_n C d_M_layRound_116 rfl hl0 ?_
        refine g_iload_n C d_M_layRound_117 rfl hl3 ?_
        refine g_iconst (v := 0) C d_M_layRound_118 (by decide) ?_
        refine g_cvI C k_M rfl mv_M_hop ml_M_328 d_M_layRound_119 hf (fun r μ1 h => t_M_hop C.2.2.2.2.2.2.2.2.1 h) rfl rfl (by decide) (Nat.le_of_ble_eq_true rfl) (fun r17 μ16 hf => ?_)
        refine g_goto (tgt := 127) C d_M_layRound_122 (by decide) ?_
        exact t_M_layRound_B127 C N _ hk92 _ ih _ _ _ _ _ hl0 hl2 hl3 hf
      · refine g_ldc C ck_M_158 d_M_layRound_125 ?_
        exact t_M_layRound_B127 C N _ hk92 _ ih _ _ _ _ _ hl0 hl2 hl3 hf
set_option maxHeartbeats 4000000 in
theorem t_M_layRound_L92 {ad : Nat → Nat} {dA : Nat → ClassId} {D : va_G} {p : Program} {l : Launch} {e : Env} {s : State} {m : MethodId} {args : Array Value} {below : List Frame} {meth : Method} {c : Code} {r : Int32} {μ' : Mm} (C : Cx CLS SHM ad dA D p s m args meth c c_M_layRound 7 R_M (some .boolean)) (N : Nat)   : ∀ (n : Nat) (v2 : Int32) (μ : Mm) (lv : Nat → Option Value), lv 0 = some (.ref (ad 0)) → lv 2 = some (.int v2) → f_M_layRound_L92 N n v2 μ = some (r, μ') → Go CLS SHM ad dA D p l e (rmD 1) s m args below meth c 7 (some (.int r)) μ' 92 lv [] μ := by
  intro n
  induction n with
  | zero => intro v2 μ lv hl0 hl2 hf; cases (show none = some _ from hf)
  | succ n ih =>
    intro v2 μ lv hl0 hl2 hf
    unfold f_M_layRound_L92 at hf
    refine g_iload_n C d_M_layRound_92 rfl hl2 ?_
    refine g_iconst (v := 1) C d_M_layRound_93 (by decide) ?_
    refine g_aload_n C d_M_layRound_94 rfl hl0 ?_
    refine g_getI (k := 46) C k_M (by decide) fl_M_325 rfl rfl d_M_layRound_95 ?_
    refine g_ishl C d_M_layRound_98 ?_
    refine g_icmp_ge (tgt := 234) C d_M_layRound_99 (by decide) hf (fun c13 hf => ?_) (fun c13 hf => ?_)
    · refine g_iconst (v := 1) C d_M_layRound_234 (by decide) ?_
      exact g_zretc C d_M_layRound_235 rfl hf
    · refine g_iconst (v := 0) C d_M_layRound_102 (by decide) ?_
      refine g_istore_n C d_M_layRound_103 rfl (by decide) ?_
      exact t_M_layRound_L104 C N _ ih N _ _ _ _ ((upG hl0 rfl)) ((upG hl2 rfl)) upS hf
set_option maxHeartbeats 4000000 in
theorem t_M_layRound_B78 {ad : Nat → Nat} {dA : Nat → ClassId} {D : va_G} {p : Program} {l : Launch} {e : Env} {s : State} {m : MethodId} {args : Array Value} {below : List Frame} {meth : Method} {c : Code} {r : Int32} {μ' : Mm} (C : Cx CLS SHM ad dA D p s m args meth c c_M_layRound 7 R_M (some .boolean)) (N : Nat)   : ∀ (v1 : Int32) (μ : Mm) (lv : Nat → Option Value), lv 0 = some (.ref (ad 0)) → lv 1 = some (.int v1) → f_M_layRound_B78 N v1 μ = some (r, μ') → Go CLS SHM ad dA D p l e (rmD 1) s m args below meth c 7 (some (.int r)) μ' 78 lv [] μ := by
  intro v1 μ lv hl0 hl1 hf
  unfold f_M_layRound_B78 at hf
  refine g_iload_n C d_M_layRound_78 rfl hl1 ?_
  refine g_bipush (v := 10) C d_M_layRound_79 (by decide) ?_
  refine g_icmp_le (tgt := 86) C d_M_layRound_81 (by decide) hf (fun c11 hf => ?_) (fun c11 hf => ?_)
  · refine g_aload_n C d_M_layRound_86 rfl hl0 ?_
    refine g_cvV C k_M rfl mv_M_layFars ml_M_159 d_M_layRound_87 hf (fun μ1 h => t_M_layFars C.2.2.2.2.2.2.2.2.1 h) rfl rfl (by decide) (Nat.le_of_ble_eq_true rfl) (fun μ12 hf => ?_)
    refine g_iconst (v := 0) C d_M_layRound_90 (by decide) ?_
    refine g_istore_n C d_M_layRound_91 rfl (by decide) ?_
    exact t_M_layRound_L92 C N N _ _ _ ((upG hl0 rfl)) upS hf
  · refine g_iconst (v := 0) C d_M_layRound_84 (by decide) ?_
    exact g_zretc C d_M_layRound_85 rfl hf
set_option maxHeartbeats 4000000 in
theorem t_M_layRound_B72 {ad : Nat → Nat} {dA : Nat → ClassId} {D : va_G} {p : Program} {l : Launch} {e : Env} {s : State} {m : MethodId} {args : Array Value} {below : List Frame} {meth : Method} {c : Code} {r : Int32} {μ' : Mm} (C : Cx CLS SHM ad dA D p s m args meth c c_M_layRound 7 R_M (some .boolean)) (N : Nat)   (k9 : Int32 → Int32 → Mm → Option (Int32 × Mm)) (hk9 : ∀ (v1 : Int32) (v2 : Int32) (μ : Mm) (lv : Nat → Option Value), lv 0 = some (.ref (ad 0)) → lv 1 = some (.int v1) → lv 2 = some (.int v2) → k9 v1 v2 μ = some (r, μ') → Go CLS SHM ad dA D p l e (rmD 1) s m args below meth c 7 (some (.int r)) μ' 9 lv [] μ) : ∀ (v1 : Int32) (v2 : Int32) (μ : Mm) (lv : Nat → Option Value), lv 0 = some (.ref (ad 0)) → lv 1 = some (.int v1) → lv 2 = some (.int v2) → f_M_layRound_B72 N k9 v1 v2 μ = some (r, μ') → Go CLS SHM ad dA D p l e (rmD 1) s m args below meth c 7 (some (.int r)) μ' 72 lv [] μ := by
  intro v1 v2 μ lv hl0 hl1 hl2 hf
  unfold f_M_layRound_B72 at hf
  refine g_iinc (v := 1) C d_M_layRound_72 hl2 (by decide) (by decide) ?_
  refine g_goto (tgt := 9) C d_M_layRound_75 (by decide) ?_
  exact hk9 _ _ _ _ ((upG hl0 rfl)) ((upG hl1 rfl)) upS hf
set_option maxHeartbeats 4000000 in
theorem t_M_layRound_B32 {ad : Nat → Nat} {dA : Nat → ClassId} {D : va_G} {p : Program} {l : Launch} {e : Env} {s : State} {m : MethodId} {args : Array Value} {below : List Frame} {meth : Method} {c : Code} {r : Int32} {μ' : Mm} (C : Cx CLS SHM ad dA D p s m args meth c c_M_layRound 7 R_M (some .boolean)) (N : Nat)   (k9 : Int32 → Int32 → Mm → Option (Int32 × Mm)) (hk9 : ∀ (v1 : Int32) (v2 : Int32) (μ : Mm) (lv : Nat → Option Value), lv 0 = some (.ref (ad 0)) → lv 1 = some (.int v1) → lv 2 = some (.int v2) → k9 v1 v2 μ = some (r, μ') → Go CLS SHM ad dA D p l e (rmD 1) s m args below meth c 7 (some (.int r)) μ' 9 lv [] μ) : ∀ (v2 : Int32) (s0 : Int32) (s1 : Int32) (μ : Mm) (lv : Nat → Option Value), lv 0 = some (.ref (ad 0)) → lv 2 = some (.int v2) → f_M_layRound_B32 N k9 v2 s0 s1 μ = some (r, μ') → Go CLS SHM ad dA D p l e (rmD 1) s m args below meth c 7 (some (.int r)) μ' 32 lv [.int s1, .int s0] μ := by
  intro v2 s0 s1 μ lv hl0 hl2 hf
  unfold f_M_layRound_B32 at hf
  refine g_iadd C d_M_layRound_32 ?_
  refine g_istore_n C d_M_layRound_33 rfl (by decide) ?_
  refine g_aload_n C d_M_layRound_34 rfl (upG hl0 rfl) ?_
  refine g_getR (b := 7) (k := 12) C k_M (by decide) fl_M_30 rfl rfl d_M_layRound_35 ?_
  refine g_iload_n C d_M_layRound_38 rfl (upG hl2 rfl) ?_
  refine g_iald C rfl d_M_layRound_39 hf (fun hf => ?_)
  refine g_if_le (tgt := 72) C d_M_layRound_40 (by decide) hf (fun c5 hf => ?_) (fun c5 hf => ?_)
  · exact t_M_layRound_B72 C N _ hk9 _ _ _ _ ((upG hl0 rfl)) upS ((upG hl2 rfl)) hf
  · refine g_aload_n C d_M_layRound_43 rfl (upG hl0 rfl) ?_
    refine g_getI (k := 46) C k_M (by decide) fl_M_325 rfl rfl d_M_layRound_44 ?_
    refine g_bipush (v := 10) C d_M_layRound_47 (by decide) ?_
    refine g_icmp_ge (tgt := 72) C d_M_layRound_49 (by decide) hf (fun c6 hf => ?_) (fun c6 hf => ?_)
    · exact t_M_layRound_B72 C N _ hk9 _ _ _ _ ((upG hl0 rfl)) upS ((upG hl2 rfl)) hf
    · refine g_aload_n C d_M_layRound_52 rfl (upG hl0 rfl) ?_
      refine g_getR (b := 24) (k := 47) C k_M (by decide) fl_M_82 rfl rfl d_M_layRound_53 ?_
      refine g_aload_n C d_M_layRound_56 rfl (upG hl0 rfl) ?_
      refine g_getI (k := 46) C k_M (by decide) fl_M_325 rfl rfl d_M_layRound_57 ?_
      refine g_iload_n C d_M_layRound_60 rfl (upG hl2 rfl) ?_
      refine g_iast C rfl d_M_layRound_61 hf (fun hf => ?_)
      refine g_aload_n C d_M_layRound_62 rfl (upG hl0 rfl) ?_
      refine g_dup C d_M_layRound_63 rfl ?_
      refine g_getI (k := 46) C k_M (by decide) fl_M_325 rfl rfl d_M_layRound_64 ?_
      refine g_iconst (v := 1) C d_M_layRound_67 (by decide) ?_
      refine g_iadd C d_M_layRound_68 ?_
      refine g_putI (k := 46) C k_M (by decide) fl_M_325 rfl rfl rfl rfl d_M_layRound_69 ?_
      exact t_M_layRound_B72 C N _ hk9 _ _ _ _ ((upG hl0 rfl)) upS ((upG hl2 rfl)) hf
set_option maxHeartbeats 4000000 in
theorem t_M_layRound_L9 {ad : Nat → Nat} {dA : Nat → ClassId} {D : va_G} {p : Program} {l : Launch} {e : Env} {s : State} {m : MethodId} {args : Array Value} {below : List Frame} {meth : Method} {c : Code} {r : Int32} {μ' : Mm} (C : Cx CLS SHM ad dA D p s m args meth c c_M_layRound 7 R_M (some .boolean)) (N : Nat)   : ∀ (n : Nat) (v1 : Int32) (v2 : Int32) (μ : Mm) (lv : Nat → Option Value), lv 0 = some (.ref (ad 0)) → lv 1 = some (.int v1) → lv 2 = some (.int v2) → f_M_layRound_L9 N n v1 v2 μ = some (r, μ') → Go CLS SHM ad dA D p l e (rmD 1) s m args below meth c 7 (some (.int r)) μ' 9 lv [] μ := by
  intro n
  induction n with
  | zero => intro v1 v2 μ lv hl0 hl1 hl2 hf; cases (show none = some _ from hf)
  | succ n ih =>
    intro v1 v2 μ lv hl0 hl1 hl2 hf
    unfold f_M_layRound_L9 at hf
    refine g_iload_n C d_M_layRound_9 rfl hl2 ?_
    refine g_aload_n C d_M_layRound_10 rfl hl0 ?_
    refine g_getI (k := 9) C k_M (by decide) fl_M_111 rfl rfl d_M_layRound_11 ?_
    refine g_icmp_ge (tgt := 78) C d_M_layRound_14 (by decide) hf (fun c2 hf => ?_) (fun c2 hf => ?_)
    · exact t_M_layRound_B78 C N _ _ _ hl0 hl1 hf
    · refine g_iload_n C d_M_layRound_17 rfl hl1 ?_
      refine g_aload_n C d_M_layRound_18 rfl hl0 ?_
      refine g_getR (b := 7) (k := 12) C k_M (by decide) fl_M_30 rfl rfl d_M_layRound_19 ?_
      refine g_iload_n C d_M_layRound_22 rfl hl2 ?_
      refine g_iald C rfl d_M_layRound_23 hf (fun hf => ?_)
      refine g_if_le (tgt := 31) C d_M_layRound_24 (by decide) hf (fun c3 hf => ?_) (fun c3 hf => ?_)
      · refine g_iconst (v := 0) C d_M_layRound_31 (by decide) ?_
        exact t_M_layRound_B32 C N _ ih _ _ _ _ _ hl0 hl2 hf
      · refine g_iconst (v := 1) C d_M_layRound_27 (by decide) ?_
        refine g_goto (tgt := 32) C d_M_layRound_28 (by decide) ?_
        exact t_M_layRound_B32 C N _ ih _ _ _ _ _ hl0 hl2 hf
set_option maxHeartbeats 4000000 in
theorem t_M_layRound {l : Launch} {ad : Nat → Nat} {dA : Nat → ClassId} {D : va_G} (hi : Inj SHM ad) {N : Nat}   {μ μ' : Mm} {r : Int32} (hf : f_M_layRound N  μ = some (r, μ')) : Ct CLS l SHM ad dA D y_M_layRound c_M_layRound 7 (some .boolean) 1 [.ref (ad 0)] μ (some (.int r)) μ' := by
  unfold f_M_layRound at hf
  refine ct_of (by decide) hi (Nat.le_of_ble_eq_true rfl) ?_
  intro p e s m args below meth c C
  refine g_aload_n C d_M_layRound_0 rfl rfl ?_
  refine g_iconst (v := 0) C d_M_layRound_1 (by decide) ?_
  refine g_putI (k := 46) C k_M (by decide) fl_M_325 rfl rfl rfl rfl d_M_layRound_2 ?_
  refine g_iconst (v := 0) C d_M_layRound_5 (by decide) ?_
  refine g_istore_n C d_M_layRound_6 rfl (by decide) ?_
  refine g_iconst (v := 0) C d_M_layRound_7 (by decide) ?_
  refine g_istore_n C d_M_layRound_8 rfl (by decide) ?_
  exact t_M_layRound_L9 C N N _ _ _ _ ((upG (upG rfl rfl) rfl)) ((upG upS rfl)) upS hf
