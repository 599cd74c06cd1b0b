set_option maxHeartbeats 4000000 in
theorem t_Jm_floorMod_f86c9 {CL : List vw_C} {SH : List Shp} {l : Launch} {ad : Nat → Nat} {dA : Nat → ClassId} {D : va_G} (hi : Inj SH ad) {N : Nat} {a1 : Int64} {a2 : Int64}  {μ μ' : Mm} {r : Int64} (hf : f_Jm_floorMod_f86c9 N a1 a2 μ = some (r, μ')) : Ct CL l SH ad dA D y_Jm_floorMod_f86c9 c_Jm_floorMod_f86c9 6 (some .long) 0 [.long a1, .long a2] μ (some (.long r)) μ' := by
  unfold f_Jm_floorMod_f86c9 at hf
  refine ct_ofF (by decide +kernel) hi (Nat.le_of_ble_eq_true rfl) ?_
  intro p e s m args below meth c C
  refine g_lload_n C d_Jm_floorMod_f86c9_0 rfl rfl ?_
  refine g_lload_n C d_Jm_floorMod_f86c9_1 rfl rfl ?_
  refine g_lrem C d_Jm_floorMod_f86c9_2 hf (fun hf => ?_)
  refine g_lstore C d_Jm_floorMod_f86c9_3 (by decide) ?_
  refine g_lload_n C d_Jm_floorMod_f86c9_5 rfl (upG rfl rfl) ?_
  refine g_lload_n C d_Jm_floorMod_f86c9_6 rfl (upG rfl rfl) ?_
  refine g_lxor C d_Jm_floorMod_f86c9_7 ?_
  refine g_lconst (v := 0) C d_Jm_floorMod_f86c9_8 (by decide) ?_
  refine g_lcmp C d_Jm_floorMod_f86c9_9 ?_
  refine g_if_ge (tgt := 25) C d_Jm_floorMod_f86c9_10 (by decide) hf (fun c2 hf => ?_) (fun c2 hf => ?_)
  · refine g_lload C d_Jm_floorMod_f86c9_25 upS ?_
    exact g_lret C d_Jm_floorMod_f86c9_27 hf
  · refine g_lload C d_Jm_floorMod_f86c9_13 upS ?_
    refine g_lconst (v := 0) C d_Jm_floorMod_f86c9_15 (by decide) ?_
    refine g_lcmp C d_Jm_floorMod_f86c9_16 ?_
    refine g_if_eq (tgt := 25) C d_Jm_floorMod_f86c9_17 (by decide) hf (fun c3 hf => ?_) (fun c3 hf => ?_)
    · refine g_lload C d_Jm_floorMod_f86c9_25 upS ?_
      exact g_lret C d_Jm_floorMod_f86c9_27 hf
    · refine g_lload C d_Jm_floorMod_f86c9_20 upS ?_
      refine g_lload_n C d_Jm_floorMod_f86c9_22 rfl (upG rfl rfl) ?_
      refine g_ladd C d_Jm_floorMod_f86c9_23 ?_
      exact g_lret C d_Jm_floorMod_f86c9_24 hf
set_option maxHeartbeats 4000000 in
theorem t_St_stand {l : Launch} {ad : Nat → Nat} {dA : Nat → ClassId} {D : va_G} (hi : Inj SHX ad) {N : Nat} {q : Nat} {a1 : Int32} (hq : q = 72 ∨ q = 73) {μ μ' : Mm} (hf : f_St_stand N q a1 μ = some μ') : Ct CLS l SHX ad dA D y_St_stand c_St_stand 2 (none) 0 [.ref (ad q), .int a1] μ none μ' := by
  unfold f_St_stand at hf
  refine ct_of (by decide) hi (Nat.le_of_ble_eq_true rfl) ?_
  intro p e s m args below meth c C
  refine g_aload_n C d_St_stand_0 rfl rfl ?_
  refine g_iload_n C d_St_stand_1 rfl rfl ?_
  refine g_putI (k := 3) C k_St (by decide) fl_St_19 (shS hq) rfl rfl rfl d_St_stand_2 ?_
  refine g_aload_n C d_St_stand_5 rfl rfl ?_
  refine g_iload_n C d_St_stand_6 rfl rfl ?_
  refine g_putI (k := 4) C k_St (by decide) fl_St_22 (shS hq) rfl rfl rfl d_St_stand_7 ?_
  refine g_aload_n C d_St_stand_10 rfl rfl ?_
  refine g_iconst (v := 0) C d_St_stand_11 (by decide) ?_
  refine g_putI (k := 5) C k_St (by decide) fl_St_25 (shS hq) rfl rfl rfl d_St_stand_12 ?_
  refine g_aload_n C d_St_stand_15 rfl rfl ?_
  refine g_ldc2 C cl_St_77 d_St_stand_16 ?_
  refine g_putL (k := 6) C k_St (by decide) fl_St_28 (shS hq) rfl rfl rfl d_St_stand_19 ?_
  refine g_aload_n C d_St_stand_22 rfl rfl ?_
  refine g_ldc2 C cl_St_79 d_St_stand_23 ?_
  refine g_putL (k := 7) C k_St (by decide) fl_St_31 (shS hq) rfl rfl rfl d_St_stand_26 ?_
  refine g_aload_n C d_St_stand_29 rfl rfl ?_
  refine g_ldc2 C cl_St_79 d_St_stand_30 ?_
  refine g_putL (k := 8) C k_St (by decide) fl_St_34 (shS hq) rfl rfl rfl d_St_stand_33 ?_
  exact g_vret C d_St_stand_36 hf
set_option maxHeartbeats 4000000 in
theorem t_St_set {l : Launch} {ad : Nat → Nat} {dA : Nat → ClassId} {D : va_G} (hi : Inj SHX ad) {N : Nat} {q : Nat} {a1 : Nat} {a2 : Int64} (hq : q = 72 ∨ q = 73) (ha1 : a1 < 8) {μ μ' : Mm} (hf : f_St_set N q a1 a2 μ = some μ') : Ct CLS l SHX ad dA D y_St_set c_St_set 6 (none) 2 [.ref (ad q), .ref (ad (WK a1)), .long a2] μ none μ' := by
  unfold f_St_set at hf
  refine ct_of (by decide) hi (Nat.le_of_ble_eq_true rfl) ?_
  intro p e s m args below meth c C
  refine g_aload_n C d_St_set_0 rfl rfl ?_
  refine g_aload_n C d_St_set_1 rfl rfl ?_
  refine g_putW (k := 0) C k_St (by decide) fl_St_37 (shS hq) rfl rfl rfl ha1 d_St_set_2 ?_
  refine g_aload_n C d_St_set_5 rfl rfl ?_
  refine g_getI (k := 0) C k_Wk (by decide) fl_St_41 (shW _ ha1) rfl d_St_set_6 ?_
  refine g_iconst (v := 3) C d_St_set_9 (by decide) ?_
  refine g_icmp_ne (tgt := 22) C d_St_set_10 (by decide) hf (fun c2 hf => ?_) (fun c2 hf => ?_)
  · refine g_aload_n C d_St_set_13 rfl rfl ?_
    refine g_aload_n C d_St_set_14 rfl rfl ?_
    refine g_getI (k := 3) C k_Wk (by decide) fl_St_46 (shW _ ha1) rfl d_St_set_15 ?_
    refine g_cvV C k_St (shS hq) mv_St_stand ml_St_49 d_St_set_18 hf (fun μ1 h => t_St_stand C.2.2.2.2.2.2.2.2.1 hq h) rfl rfl (by decide) (Nat.le_of_ble_eq_true rfl) (fun μ3 hf => ?_)
    exact g_vret C d_St_set_21 hf
  · refine g_lload_n C d_St_set_22 rfl rfl ?_
    refine g_aload_n C d_St_set_23 rfl rfl ?_
    refine g_getI (k := 7) C k_Wk (by decide) fl_St_53 (shW _ ha1) rfl d_St_set_24 ?_
    refine g_i2l C d_St_set_27 ?_
    refine g_ldc2 C cl_St_58 d_St_set_28 ?_
    refine g_lmul C d_St_set_31 ?_
    refine g_lsub C d_St_set_32 ?_
    refine g_aload_n C d_St_set_33 rfl rfl ?_
    refine g_getI (k := 12) C k_Wk (by decide) fl_St_60 (shW _ ha1) rfl d_St_set_34 ?_
    refine g_i2l C d_St_set_37 ?_
    refine g_ldc2 C cl_St_58 d_St_set_38 ?_
    refine g_lmul C d_St_set_41 ?_
    refine g_csL C mv_Jm_floorMod_f86c9 ml_St_63 d_St_set_42 hf (fun r μ1 h => t_Jm_floorMod_f86c9 C.2.2.2.2.2.2.2.2.1 h) rfl rfl (by decide) (Nat.le_of_ble_eq_true rfl) (fun r5 μ4 hf => ?_)
    refine g_lstore C d_St_set_45 (by decide) ?_
    refine g_aload_n C d_St_set_47 rfl (upG rfl rfl) ?_
    refine g_lload_n C d_St_set_48 rfl (upG rfl rfl) ?_
    refine g_lload C d_St_set_49 upS ?_
    refine g_lsub C d_St_set_51 ?_
    refine g_ldc2 C cl_St_58 d_St_set_52 ?_
    refine g_ldiv C d_St_set_55 hf (fun hf => ?_)
    refine g_putL (k := 2) C k_St (by decide) fl_St_15 (shS hq) rfl rfl rfl d_St_set_56 ?_
    refine g_aload_n C d_St_set_59 rfl (upG rfl rfl) ?_
    refine g_aload_n C d_St_set_60 rfl (upG rfl rfl) ?_
    refine g_lload C d_St_set_61 upS ?_
    refine g_ldc2 C cl_St_58 d_St_set_63 ?_
    refine g_ldiv C d_St_set_66 hf (fun hf => ?_)
    refine g_l2i C d_St_set_67 ?_
    refine g_cvI C k_Wk (shW _ ha1) mv_Wk_legAt ml_St_69 d_St_set_68 hf (fun r μ1 h => t_Wk_legAt C.2.2.2.2.2.2.2.2.1 ha1 h) rfl rfl (by decide) (Nat.le_of_ble_eq_true rfl) (fun r9 μ8 hf => ?_)
    refine g_putI (k := 1) C k_St (by decide) fl_St_9 (shS hq) rfl rfl rfl d_St_set_71 ?_
    refine g_aload_n C d_St_set_74 rfl (upG rfl rfl) ?_
    refine g_aload_n C d_St_set_75 rfl (upG rfl rfl) ?_
    refine g_getI (k := 1) C k_Wk (by decide) fl_St_73 (shW _ ha1) rfl d_St_set_76 ?_
    refine g_putI (k := 5) C k_St (by decide) fl_St_25 (shS hq) rfl rfl rfl d_St_set_79 ?_
    refine g_aload_n C d_St_set_82 rfl (upG rfl rfl) ?_
    refine g_cvV C k_St (shS hq) mv_St_read ml_St_74 d_St_set_83 hf (fun μ1 h => t_St_read C.2.2.2.2.2.2.2.2.1 hq h) rfl rfl (by decide) (Nat.le_of_ble_eq_true rfl) (fun μ12 hf => ?_)
    exact g_vret C d_St_set_86 hf
set_option maxHeartbeats 4000000 in
theorem t_Me_firstOf_B207 {ad : Nat → Nat} {dA : Nat → ClassId} {D : va_G} {p : Program} {l : Launch} {e : Env} {s : State} {m : MethodId} {args : Array Value} {below : List Frame} {meth : Method} {c : Code} {r : Int64} {μ' : Mm} (C : Cx CLS SHX ad dA D p s m args meth c c_Me_firstOf 15 R_Me (some .long)) (N : Nat)   : ∀  (μ : Mm) (lv : Nat → Option Value), f_Me_firstOf_B207 N μ = some (r, μ') → Go CLS SHX ad dA D p l e (rmD 3) s m args below meth c 15 (some (.long r)) μ' 207 lv [] μ := by
  intro μ lv hf
  unfold f_Me_firstOf_B207 at hf
  refine g_ldc2 C cl_Me_57 d_Me_firstOf_207 ?_
  exact g_lret C d_Me_firstOf_210 hf
set_option maxHeartbeats 4000000 in
theorem t_Me_firstOf_B201 {ad : Nat → Nat} {dA : Nat → ClassId} {D : va_G} {p : Program} {l : Launch} {e : Env} {s : State} {m : MethodId} {args : Array Value} {below : List Frame} {meth : Method} {c : Code} {r : Int64} {μ' : Mm} (C : Cx CLS SHX ad dA D p s m args meth c c_Me_firstOf 15 R_Me (some .long)) (N : Nat)   (k62 : Int64 → Int64 → Int32 → Mm → Option (Int64 × Mm)) (hk62 : ∀ (v3 : Int64) (v6 : Int64) (v8 : Int32) (μ : Mm) (lv : Nat → Option Value), lv 0 = some (.ref (ad 71)) → lv 3 = some (.long v3) → lv 6 = some (.long v6) → lv 8 = some (.int v8) → k62 v3 v6 v8 μ = some (r, μ') → Go CLS SHX ad dA D p l e (rmD 3) s m args below meth c 15 (some (.long r)) μ' 62 lv [] μ) : ∀ (v3 : Int64) (v6 : Int64) (v8 : Int32) (μ : Mm) (lv : Nat → Option Value), lv 0 = some (.ref (ad 71)) → lv 3 = some (.long v3) → lv 6 = some (.long v6) → lv 8 = some (.int v8) → f_Me_firstOf_B201 N k62 v3 v6 v8 μ = some (r, μ') → Go CLS SHX ad dA D p l e (rmD 3) s m args below meth c 15 (some (.long r)) μ' 201 lv [] μ := by
  intro v3 v6 v8 μ lv hl0 hl3 hl6 hl8 hf
  unfold f_Me_firstOf_B201 at hf
  refine g_iinc (v := 1) C d_Me_firstOf_201 hl8 (by decide) (by decide) ?_
  refine g_goto (tgt := 62) C d_Me_firstOf_204 (by decide) ?_
  exact hk62 _ _ _ _ _ ((upG hl0 rfl)) ((upG hl3 rfl)) ((upG hl6 rfl)) upS hf
set_option maxHeartbeats 4000000 in
theorem t_Me_firstOf_B181 {ad : Nat → Nat} {dA : Nat → ClassId} {D : va_G} {p : Program} {l : Launch} {e : Env} {s : State} {m : MethodId} {args : Array Value} {below : List Frame} {meth : Method} {c : Code} {r : Int64} {μ' : Mm} (C : Cx CLS SHX ad dA D p s m args meth c c_Me_firstOf 15 R_Me (some .long)) (N : Nat)   (k62 : Int64 → Int64 → Int32 → Mm → Option (Int64 × Mm)) (hk62 : ∀ (v3 : Int64) (v6 : Int64) (v8 : Int32) (μ : Mm) (lv : Nat → Option Value), lv 0 = some (.ref (ad 71)) → lv 3 = some (.long v3) → lv 6 = some (.long v6) → lv 8 = some (.int v8) → k62 v3 v6 v8 μ = some (r, μ') → Go CLS SHX ad dA D p l e (rmD 3) s m args below meth c 15 (some (.long r)) μ' 62 lv [] μ) : ∀ (v3 : Int64) (v6 : Int64) (v8 : Int32) (v13 : Int64) (μ : Mm) (lv : Nat → Option Value), lv 0 = some (.ref (ad 71)) → lv 3 = some (.long v3) → lv 6 = some (.long v6) → lv 8 = some (.int v8) → lv 13 = some (.long v13) → f_Me_firstOf_B181 N k62 v3 v6 v8 v13 μ = some (r, μ') → Go CLS SHX ad dA D p l e (rmD 3) s m args below meth c 15 (some (.long r)) μ' 181 lv [] μ := by
  intro v3 v6 v8 v13 μ lv hl0 hl3 hl6 hl8 hl13 hf
  unfold f_Me_firstOf_B181 at hf
  refine g_aload_n C d_Me_firstOf_181 rfl hl0 ?_
  refine g_getR (b := 73) (k := 2) C k_Me (by decide) fl_Me_34 rfl rfl d_Me_firstOf_182 ?_
  refine g_getL (k := 8) C k_St (by decide) fl_Me_63 rfl rfl d_Me_firstOf_185 ?_
  refine g_lload C d_Me_firstOf_188 hl13 ?_
  refine g_lcmp C d_Me_firstOf_190 ?_
  refine g_if_gt (tgt := 201) C d_Me_firstOf_191 (by decide) hf (fun c26 hf => ?_) (fun c26 hf => ?_)
  · exact t_Me_firstOf_B201 C N _ hk62 _ _ _ _ _ hl0 hl3 hl6 hl8 hf
  · refine g_aload_n C d_Me_firstOf_194 rfl hl0 ?_
    refine g_getR (b := 73) (k := 2) C k_Me (by decide) fl_Me_34 rfl rfl d_Me_firstOf_195 ?_
    refine g_cvV C k_St rfl mv_St_goOn ml_Me_71 d_Me_firstOf_198 hf (fun μ1 h => t_St_goOn C.2.2.2.2.2.2.2.2.1 (Or.inr rfl) h) rfl rfl (by decide) (Nat.le_of_ble_eq_true rfl) (fun μ27 hf => ?_)
    exact t_Me_firstOf_B201 C N _ hk62 _ _ _ _ _ hl0 hl3 hl6 hl8 hf
set_option maxHeartbeats 4000000 in
theorem t_Me_firstOf_B157 {ad : Nat → Nat} {dA : Nat → ClassId} {D : va_G} {p : Program} {l : Launch} {e : Env} {s : State} {m : MethodId} {args : Array Value} {below : List Frame} {meth : Method} {c : Code} {r : Int64} {μ' : Mm} (C : Cx CLS SHX ad dA D p s m args meth c c_Me_firstOf 15 R_Me (some .long)) (N : Nat)   : ∀  (μ : Mm) (lv : Nat → Option Value), f_Me_firstOf_B157 N μ = some (r, μ') → Go CLS SHX ad dA D p l e (rmD 3) s m args below meth c 15 (some (.long r)) μ' 157 lv [] μ := by
  intro μ lv hf
  unfold f_Me_firstOf_B157 at hf
  refine g_ldc2 C cl_Me_57 d_Me_firstOf_157 ?_
  exact g_lret C d_Me_firstOf_160 hf
set_option maxHeartbeats 4000000 in
theorem t_Me_firstOf_B105 {ad : Nat → Nat} {dA : Nat → ClassId} {D : va_G} {p : Program} {l : Launch} {e : Env} {s : State} {m : MethodId} {args : Array Value} {below : List Frame} {meth : Method} {c : Code} {r : Int64} {μ' : Mm} (C : Cx CLS SHX ad dA D p s m args meth c c_Me_firstOf 15 R_Me (some .long)) (N : Nat)   : ∀  (μ : Mm) (lv : Nat → Option Value), f_Me_firstOf_B105 N μ = some (r, μ') → Go CLS SHX ad dA D p l e (rmD 3) s m args below meth c 15 (some (.long r)) μ' 105 lv [] μ := by
  intro μ lv hf
  unfold f_Me_firstOf_B105 at hf
  refine g_ldc2 C cl_Me_57 d_Me_firstOf_105 ?_
  exact g_lret C d_Me_firstOf_108 hf
set_option maxHeartbeats 4000000 in
theorem t_Me_firstOf_L62 {ad : Nat → Nat} {dA : Nat → ClassId} {D : va_G} {p : Program} {l : Launch} {e : Env} {s : State} {m : MethodId} {args : Array Value} {below : List Frame} {meth : Method} {c : Code} {r : Int64} {μ' : Mm} (C : Cx CLS SHX ad dA D p s m args meth c c_Me_firstOf 15 R_Me (some .long)) (N : Nat)   : ∀ (n : Nat) (v3 : Int64) (v6 : Int64) (v8 : Int32) (μ : Mm) (lv : Nat → Option Value), lv 0 = some (.ref (ad 71)) → lv 3 = some (.long v3) → lv 6 = some (.long v6) → lv 8 = some (.int v8) → f_Me_firstOf_L62 N n v3 v6 v8 μ = some (r, μ') → Go CLS SHX ad dA D p l e (rmD 3) s m args below meth c 15 (some (.long r)) μ' 62 lv [] μ := by
  intro n
  induction n with
  | zero => intro v3 v6 v8 μ lv hl0 hl3 hl6 hl8 hf; cases (show none = some _ from hf)
  | succ n ih =>
    intro v3 v6 v8 μ lv hl0 hl3 hl6 hl8 hf
    unfold f_Me_firstOf_L62 at hf
    refine g_iload C d_Me_firstOf_62 hl8 ?_
    refine g_sipush (v := 2980) C d_Me_firstOf_64 (by decide) ?_
    refine g_icmp_ge (tgt := 207) C d_Me_firstOf_67 (by decide) hf (fun c12 hf => ?_) (fun c12 hf => ?_)
    · exact t_Me_firstOf_B207 C N _ _ hf
    · refine g_lload_n C d_Me_firstOf_70 rfl hl3 ?_
      refine g_aload_n C d_Me_firstOf_71 rfl hl0 ?_
      refine g_getR (b := 72) (k := 1) C k_Me (by decide) fl_Me_30 rfl rfl d_Me_firstOf_72 ?_
      refine g_getL (k := 6) C k_St (by decide) fl_Me_47 rfl rfl d_Me_firstOf_75 ?_
      refine g_aload_n C d_Me_firstOf_78 rfl hl0 ?_
      refine g_getR (b := 73) (k := 2) C k_Me (by decide) fl_Me_34 rfl rfl d_Me_firstOf_79 ?_
      refine g_getL (k := 6) C k_St (by decide) fl_Me_47 rfl rfl d_Me_firstOf_82 ?_
      refine g_csL C mv_Jm_max_f86c9 ml_Me_51 d_Me_firstOf_85 hf (fun r μ1 h => t_Jm_max_f86c9 C.2.2.2.2.2.2.2.2.1 h) rfl rfl (by decide) (Nat.le_of_ble_eq_true rfl) (fun r14 μ13 hf => ?_)
      refine g_ldc2 C cl_Me_41 d_Me_firstOf_88 ?_
      refine g_lmul C d_Me_firstOf_91 ?_
      refine g_csL C mv_Jm_max_f86c9 ml_Me_51 d_Me_firstOf_92 hf (fun r μ1 h => t_Jm_max_f86c9 C.2.2.2.2.2.2.2.2.1 h) rfl rfl (by decide) (Nat.le_of_ble_eq_true rfl) (fun r16 μ15 hf => ?_)
      refine g_lstore C d_Me_firstOf_95 (by decide) ?_
      refine g_lload C d_Me_firstOf_97 upS ?_
      refine g_lload C d_Me_firstOf_99 (upG hl6 rfl) ?_
      refine g_lcmp C d_Me_firstOf_101 ?_
      refine g_if_le (tgt := 109) C d_Me_firstOf_102 (by decide) hf (fun c17 hf => ?_) (fun c17 hf => ?_)
      · refine g_aload_n C d_Me_firstOf_109 rfl (upG hl0 rfl) ?_
        refine g_lload C d_Me_firstOf_110 upS ?_
        refine g_cvL C k_Me rfl mv_Me_together ml_Me_59 d_Me_firstOf_112 hf (fun r μ1 h => t_Me_together C.2.2.2.2.2.2.2.2.1 h) rfl rfl (by decide) (Nat.le_of_ble_eq_true rfl) (fun r19 μ18 hf => ?_)
        refine g_lstore C d_Me_firstOf_115 (by decide) ?_
        refine g_lload C d_Me_firstOf_117 upS ?_
        refine g_ldc2 C cl_Me_57 d_Me_firstOf_119 ?_
        refine g_lcmp C d_Me_firstOf_122 ?_
        refine g_if_eq (tgt := 129) C d_Me_firstOf_123 (by decide) hf (fun c20 hf => ?_) (fun c20 hf => ?_)
        · refine g_aload_n C d_Me_firstOf_129 rfl (upG (upG hl0 rfl) rfl) ?_
          refine g_getR (b := 72) (k := 1) C k_Me (by decide) fl_Me_30 rfl rfl d_Me_firstOf_130 ?_
          refine g_getL (k := 8) C k_St (by decide) fl_Me_63 rfl rfl d_Me_firstOf_133 ?_
          refine g_aload_n C d_Me_firstOf_136 rfl (upG (upG hl0 rfl) rfl) ?_
          refine g_getR (b := 73) (k := 2) C k_Me (by decide) fl_Me_34 rfl rfl d_Me_firstOf_137 ?_
          refine g_getL (k := 8) C k_St (by decide) fl_Me_63 rfl rfl d_Me_firstOf_140 ?_
          refine g_csL C mv_Jm_min_f86c9 ml_Me_66 d_Me_firstOf_143 hf (fun r μ1 h => t_Jm_min_f86c9 C.2.2.2.2.2.2.2.2.1 h) rfl rfl (by decide) (Nat.le_of_ble_eq_true rfl) (fun r22 μ21 hf => ?_)
          refine g_lstore C d_Me_firstOf_146 (by decide) ?_
          refine g_lload C d_Me_firstOf_148 upS ?_
          refine g_ldc2 C cl_Me_69 d_Me_firstOf_150 ?_
          refine g_lcmp C d_Me_firstOf_153 ?_
          refine g_if_lt (tgt := 161) C d_Me_firstOf_154 (by decide) hf (fun c23 hf => ?_) (fun c23 hf => ?_)
          · refine g_aload_n C d_Me_firstOf_161 rfl (upG (upG (upG hl0 rfl) rfl) rfl) ?_
            refine g_getR (b := 72) (k := 1) C k_Me (by decide) fl_Me_30 rfl rfl d_Me_firstOf_162 ?_
            refine g_getL (k := 8) C k_St (by decide) fl_Me_63 rfl rfl d_Me_firstOf_165 ?_
            refine g_lload C d_Me_firstOf_168 upS ?_
            refine g_lcmp C d_Me_firstOf_170 ?_
            refine g_if_gt (tgt := 181) C d_Me_firstOf_171 (by decide) hf (fun c24 hf => ?_) (fun c24 hf => ?_)
            · exact t_Me_firstOf_B181 C N _ ih _ _ _ _ _ _ ((upG (upG (upG hl0 rfl) rfl) rfl)) ((upG (upG (upG hl3 rfl) rfl) rfl)) ((upG (upG (upG hl6 rfl) rfl) rfl)) ((upG (upG (upG hl8 rfl) rfl) rfl)) upS hf
            · refine g_aload_n C d_Me_firstOf_174 rfl (upG (upG (upG hl0 rfl) rfl) rfl) ?_
              refine g_getR (b := 72) (k := 1) C k_Me (by decide) fl_Me_30 rfl rfl d_Me_firstOf_175 ?_
              refine g_cvV C k_St rfl mv_St_goOn ml_Me_71 d_Me_firstOf_178 hf (fun μ1 h => t_St_goOn C.2.2.2.2.2.2.2.2.1 (Or.inl rfl) h) rfl rfl (by decide) (Nat.le_of_ble_eq_true rfl) (fun μ25 hf => ?_)
              exact t_Me_firstOf_B181 C N _ ih _ _ _ _ _ _ ((upG (upG (upG hl0 rfl) rfl) rfl)) ((upG (upG (upG hl3 rfl) rfl) rfl)) ((upG (upG (upG hl6 rfl) rfl) rfl)) ((upG (upG (upG hl8 rfl) rfl) rfl)) upS hf
          · exact t_Me_firstOf_B157 C N _ _ hf
        · refine g_lload C d_Me_firstOf_126 upS ?_
          exact g_lret C d_Me_firstOf_128 hf
      · exact t_Me_firstOf_B105 C N _ _ hf
set_option maxHeartbeats 4000000 in
theorem t_Me_firstOf {l : Launch} {ad : Nat → Nat} {dA : Nat → ClassId} {D : va_G} (hi : Inj SHX ad) {N : Nat} {a1 : Int32} {a2 : Int32} {a3 : Int64}  {μ μ' : Mm} {r : Int64} (hf : f_Me_firstOf N a1 a2 a3 μ = some (r, μ')) : Ct CLS l SHX ad dA D y_Me_firstOf c_Me_firstOf 15 (some .long) 3 [.ref (ad 71), .int a1, .int a2, .long a3] μ (some (.long r)) μ' := by
  unfold f_Me_firstOf at hf
  refine ct_of (by decide) hi (Nat.le_of_ble_eq_true rfl) ?_
  intro p e s m args below meth c C
  refine g_aload_n C d_Me_firstOf_0 rfl rfl ?_
  refine g_getR (b := 11) (k := 0) C k_Me (by decide) fl_Me_15 rfl rfl d_Me_firstOf_1 ?_
  refine g_iconst (v := 1) C d_Me_firstOf_4 (by decide) ?_
  refine g_iload_n C d_Me_firstOf_5 rfl rfl ?_
  refine g_ishl C d_Me_firstOf_6 ?_
  refine g_iconst (v := 1) C d_Me_firstOf_7 (by decide) ?_
  refine g_iload_n C d_Me_firstOf_8 rfl rfl ?_
  refine g_ishl C d_Me_firstOf_9 ?_
  refine g_ior C d_Me_firstOf_10 ?_
  refine g_cvI C k_Cr rfl mv_Cr_jointOf ml_Me_37 d_Me_firstOf_11 hf (fun r μ1 h => t_Cr_jointOf C.2.2.2.2.2.2.2.2.1 h) rfl rfl (by decide) (Nat.le_of_ble_eq_true rfl) (fun r2 μ1 hf => ?_)
  refine g_istore C d_Me_firstOf_14 (by decide) ?_
  refine g_lload_n C d_Me_firstOf_16 rfl (upG rfl rfl) ?_
  refine g_iload C d_Me_firstOf_17 upS ?_
  refine g_i2l C d_Me_firstOf_19 ?_
  refine g_ldc2 C cl_Me_41 d_Me_firstOf_20 ?_
  refine g_lmul C d_Me_firstOf_23 ?_
  refine g_ladd C d_Me_firstOf_24 ?_
  refine g_lstore C d_Me_firstOf_25 (by decide) ?_
  refine g_aload_n C d_Me_firstOf_27 rfl (upG (upG rfl rfl) rfl) ?_
  refine g_getR (b := 72) (k := 1) C k_Me (by decide) fl_Me_30 rfl rfl d_Me_firstOf_28 ?_
  refine g_aload_n C d_Me_firstOf_31 rfl (upG (upG rfl rfl) rfl) ?_
  refine g_getR (b := 11) (k := 0) C k_Me (by decide) fl_Me_15 rfl rfl d_Me_firstOf_32 ?_
  refine g_iload_n C d_Me_firstOf_35 rfl (upG (upG rfl rfl) rfl) ?_
  refine g_cvW C k_Cr rfl mv_Cr_get ml_Me_21 d_Me_firstOf_36 hf (fun r μ1 h => t_Cr_get C.2.2.2.2.2.2.2.2.1 h) rfl rfl (by decide) (Nat.le_of_ble_eq_true rfl) (fun r5 μ4 hf => ?_)
  obtain ⟨hw6, hf⟩ := chk8 hf
  refine g_lload_n C d_Me_firstOf_39 rfl (upG (upG rfl rfl) rfl) ?_
  refine g_cvV C k_St rfl mv_St_set ml_Me_43 d_Me_firstOf_40 hf (fun μ1 h => t_St_set C.2.2.2.2.2.2.2.2.1 (Or.inl rfl) hw6 h) rfl rfl (by decide) (Nat.le_of_ble_eq_true rfl) (fun μ7 hf => ?_)
  refine g_aload_n C d_Me_firstOf_43 rfl (upG (upG rfl rfl) rfl) ?_
  refine g_getR (b := 73) (k := 2) C k_Me (by decide) fl_Me_34 rfl rfl d_Me_firstOf_44 ?_
  refine g_aload_n C d_Me_firstOf_47 rfl (upG (upG rfl rfl) rfl) ?_
  refine g_getR (b := 11) (k := 0) C k_Me (by decide) fl_Me_15 rfl rfl d_Me_firstOf_48 ?_
  refine g_iload_n C d_Me_firstOf_51 rfl (upG (upG rfl rfl) rfl) ?_
  refine g_cvW C k_Cr rfl mv_Cr_get ml_Me_21 d_Me_firstOf_52 hf (fun r μ1 h => t_Cr_get C.2.2.2.2.2.2.2.2.1 h) rfl rfl (by decide) (Nat.le_of_ble_eq_true rfl) (fun r9 μ8 hf => ?_)
  obtain ⟨hw10, hf⟩ := chk8 hf
  refine g_lload_n C d_Me_firstOf_55 rfl (upG (upG rfl rfl) rfl) ?_
  refine g_cvV C k_St rfl mv_St_set ml_Me_43 d_Me_firstOf_56 hf (fun μ1 h => t_St_set C.2.2.2.2.2.2.2.2.1 (Or.inr rfl) hw10 h) rfl rfl (by decide) (Nat.le_of_ble_eq_true rfl) (fun μ11 hf => ?_)
  refine g_iconst (v := 0) C d_Me_firstOf_59 (by decide) ?_
  refine g_istore C d_Me_firstOf_60 (by decide) ?_
  exact t_Me_firstOf_L62 C N N _ _ _ _ _ ((upG (upG (upG rfl rfl) rfl) rfl)) ((upG (upG (upG rfl rfl) rfl) rfl)) ((upG upS rfl)) upS hf
set_option maxHeartbeats 4000000 in
theorem t_Me_earliest_B54 {ad : Nat → Nat} {dA : Nat → ClassId} {D : va_G} {p : Program} {l : Launch} {e : Env} {s : State} {m : MethodId} {args : Array Value} {below : List Frame} {meth : Method} {c : Code} {r : Int32} {μ' : Mm} (C : Cx CLS SHX ad dA D p s m args meth c c_Me_earliest 4 R_Me (some .int)) (N : Nat)   (k5 : Int32 → Int32 → Int32 → Mm → Option (Int32 × Mm)) (hk5 : ∀ (v1 : Int32) (v2 : Int32) (v3 : Int32) (μ : Mm) (lv : Nat → Option Value), lv 0 = some (.ref (ad 71)) → lv 1 = some (.int v1) → lv 2 = some (.int v2) → lv 3 = some (.int v3) → k5 v1 v2 v3 μ = some (r, μ') → Go CLS SHX ad dA D p l e (rmD 0) s m args below meth c 4 (some (.int r)) μ' 5 lv [] μ) : ∀ (v1 : Int32) (v2 : Int32) (v3 : Int32) (μ : Mm) (lv : Nat → Option Value), lv 0 = some (.ref (ad 71)) → lv 1 = some (.int v1) → lv 2 = some (.int v2) → lv 3 = some (.int v3) → f_Me_earliest_B54 N k5 v1 v2 v3 μ = some (r, μ') → Go CLS SHX ad dA D p l e (rmD 0) s m args below meth c 4 (some (.int r)) μ' 54 lv [] μ := by
  intro v1 v2 v3 μ lv hl0 hl1 hl2 hl3 hf
  unfold f_Me_earliest_B54 at hf
  refine g_iinc (v := 1) C d_Me_earliest_54 hl3 (by decide) (by decide) ?_
  refine g_goto (tgt := 5) C d_Me_earliest_57 (by decide) ?_
  exact hk5 _ _ _ _ _ ((upG hl0 rfl)) ((upG hl1 rfl)) ((upG hl2 rfl)) upS hf
set_option maxHeartbeats 4000000 in
theorem t_Me_earliest_B52 {ad : Nat → Nat} {dA : Nat → ClassId} {D : va_G} {p : Program} {l : Launch} {e : Env} {s : State} {m : MethodId} {args : Array Value} {below : List Frame} {meth : Method} {c : Code} {r : Int32} {μ' : Mm} (C : Cx CLS SHX ad dA D p s m args meth c c_Me_earliest 4 R_Me (some .int)) (N : Nat)   (k5 : Int32 → Int32 → Int32 → Mm → Option (Int32 × Mm)) (hk5 : ∀ (v1 : Int32) (v2 : Int32) (v3 : Int32) (μ : Mm) (lv : Nat → Option Value), lv 0 = some (.ref (ad 71)) → lv 1 = some (.int v1) → lv 2 = some (.int v2) → lv 3 = some (.int v3) → k5 v1 v2 v3 μ = some (r, μ') → Go CLS SHX ad dA D p l e (rmD 0) s m args below meth c 4 (some (.int r)) μ' 5 lv [] μ) : ∀ (v1 : Int32) (v3 : Int32) (μ : Mm) (lv : Nat → Option Value), lv 0 = some (.ref (ad 71)) → lv 1 = some (.int v1) → lv 3 = some (.int v3) → f_Me_earliest_B52 N k5 v1 v3 μ = some (r, μ') → Go CLS SHX ad dA D p l e (rmD 0) s m args below meth c 4 (some (.int r)) μ' 52 lv [] μ := by
  intro v1 v3 μ lv hl0 hl1 hl3 hf
  unfold f_Me_earliest_B52 at hf
  refine g_iload_n C d_Me_earliest_52 rfl hl3 ?_
  refine g_istore_n C d_Me_earliest_53 rfl (by decide) ?_
  exact t_Me_earliest_B54 C N _ hk5 _ _ _ _ _ ((upG hl0 rfl)) ((upG hl1 rfl)) upS ((upG hl3 rfl)) hf
set_option maxHeartbeats 4000000 in
theorem t_Me_earliest_L5 {ad : Nat → Nat} {dA : Nat → ClassId} {D : va_G} {p : Program} {l : Launch} {e : Env} {s : State} {m : MethodId} {args : Array Value} {below : List Frame} {meth : Method} {c : Code} {r : Int32} {μ' : Mm} (C : Cx CLS SHX ad dA D p s m args meth c c_Me_earliest 4 R_Me (some .int)) (N : Nat)   : ∀ (n : Nat) (v1 : Int32) (v2 : Int32) (v3 : Int32) (μ : Mm) (lv : Nat → Option Value), lv 0 = some (.ref (ad 71)) → lv 1 = some (.int v1) → lv 2 = some (.int v2) → lv 3 = some (.int v3) → f_Me_earliest_L5 N n v1 v2 v3 μ = some (r, μ') → Go CLS SHX ad dA D p l e (rmD 0) s m args below meth c 4 (some (.int r)) μ' 5 lv [] μ := by
  intro n
  induction n with
  | zero => intro v1 v2 v3 μ lv hl0 hl1 hl2 hl3 hf; cases (show none = some _ from hf)
  | succ n ih =>
    intro v1 v2 v3 μ lv hl0 hl1 hl2 hl3 hf
    unfold f_Me_earliest_L5 at hf
    refine g_iload_n C d_Me_earliest_5 rfl hl3 ?_
    refine g_bipush (v := 8) C d_Me_earliest_6 (by decide) ?_
    refine g_icmp_ge (tgt := 60) C d_Me_earliest_8 (by decide) hf (fun c1 hf => ?_) (fun c1 hf => ?_)
    · refine g_iload_n C d_Me_earliest_60 rfl hl2 ?_
      exact g_iret C d_Me_earliest_61 hf
    · refine g_iload_n C d_Me_earliest_11 rfl hl1 ?_
      refine g_iload_n C d_Me_earliest_12 rfl hl3 ?_
      refine g_ishr C d_Me_earliest_13 ?_
      refine g_iconst (v := 1) C d_Me_earliest_14 (by decide) ?_
      refine g_iand C d_Me_earliest_15 ?_
      refine g_if_eq (tgt := 54) C d_Me_earliest_16 (by decide) hf (fun c2 hf => ?_) (fun c2 hf => ?_)
      · exact t_Me_earliest_B54 C N _ ih _ _ _ _ _ hl0 hl1 hl2 hl3 hf
      · refine g_aload_n C d_Me_earliest_19 rfl hl0 ?_
        refine g_getR (b := 74) (k := 3) C k_Me (by decide) fl_Me_9 rfl rfl d_Me_earliest_20 ?_
        refine g_iload_n C d_Me_earliest_23 rfl hl3 ?_
        refine g_lald C rfl d_Me_earliest_24 hf (fun hf => ?_)
        refine g_ldc2 C cl_Me_57 d_Me_earliest_25 ?_
        refine g_lcmp C d_Me_earliest_28 ?_
        refine g_if_eq (tgt := 54) C d_Me_earliest_29 (by decide) hf (fun c3 hf => ?_) (fun c3 hf => ?_)
        · exact t_Me_earliest_B54 C N _ ih _ _ _ _ _ hl0 hl1 hl2 hl3 hf
        · refine g_iload_n C d_Me_earliest_32 rfl hl2 ?_
          refine g_if_lt (tgt := 52) C d_Me_earliest_33 (by decide) hf (fun c4 hf => ?_) (fun c4 hf => ?_)
          · exact t_Me_earliest_B52 C N _ ih _ _ _ _ hl0 hl1 hl3 hf
          · refine g_aload_n C d_Me_earliest_36 rfl hl0 ?_
            refine g_getR (b := 74) (k := 3) C k_Me (by decide) fl_Me_9 rfl rfl d_Me_earliest_37 ?_
            refine g_iload_n C d_Me_earliest_40 rfl hl3 ?_
            refine g_lald C rfl d_Me_earliest_41 hf (fun hf => ?_)
            refine g_aload_n C d_Me_earliest_42 rfl hl0 ?_
            refine g_getR (b := 74) (k := 3) C k_Me (by decide) fl_Me_9 rfl rfl d_Me_earliest_43 ?_
            refine g_iload_n C d_Me_earliest_46 rfl hl2 ?_
            refine g_lald C rfl d_Me_earliest_47 hf (fun hf => ?_)
            refine g_lcmp C d_Me_earliest_48 ?_
            refine g_if_ge (tgt := 54) C d_Me_earliest_49 (by decide) hf (fun c5 hf => ?_) (fun c5 hf => ?_)
            · exact t_Me_earliest_B54 C N _ ih _ _ _ _ _ hl0 hl1 hl2 hl3 hf
            · exact t_Me_earliest_B52 C N _ ih _ _ _ _ hl0 hl1 hl3 hf
set_option maxHeartbeats 4000000 in
theorem t_Me_earliest {l : Launch} {ad : Nat → Nat} {dA : Nat → ClassId} {D : va_G} (hi : Inj SHX ad) {N : Nat} {a1 : Int32}  {μ μ' : Mm} {r : Int32} (hf : f_Me_earliest N a1 μ = some (r, μ')) : Ct CLS l SHX ad dA D y_Me_earliest c_Me_earliest 4 (some .int) 0 [.ref (ad 71), .int a1] μ (some (.int r)) μ' := by
  unfold f_Me_earliest at hf
  refine ct_of (by decide) hi (Nat.le_of_ble_eq_true rfl) ?_
  intro p e s m args below meth c C
  refine g_bipush (v := -9) C d_Me_earliest_0 (by decide) ?_
  refine g_istore_n C d_Me_earliest_2 rfl (by decide) ?_
  refine g_iconst (v := 0) C d_Me_earliest_3 (by decide) ?_
  refine g_istore_n C d_Me_earliest_4 rfl (by decide) ?_
  exact t_Me_earliest_L5 C N N _ _ _ _ _ ((upG (upG rfl rfl) rfl)) ((upG (upG rfl rfl) rfl)) ((upG upS rfl)) upS hf
set_option maxHeartbeats 4000000 in
theorem t_Me_tellOthers_B75 {ad : Nat → Nat} {dA : Nat → ClassId} {D : va_G} {p : Program} {l : Launch} {e : Env} {s : State} {m : MethodId} {args : Array Value} {below : List Frame} {meth : Method} {c : Code} {μ' : Mm} (C : Cx CLS SHX ad dA D p s m args meth c c_Me_tellOthers 6 R_Me (none)) (N : Nat)   (k2 : Int32 → Int32 → Int32 → Mm → Option Mm) (hk2 : ∀ (v1 : Int32) (v2 : Int32) (v3 : Int32) (μ : Mm) (lv : Nat → Option Value), lv 0 = some (.ref (ad 71)) → lv 1 = some (.int v1) → lv 2 = some (.int v2) → lv 3 = some (.int v3) → k2 v1 v2 v3 μ = some μ' → Go CLS SHX ad dA D p l e (rmD 4) s m args below meth c 6 none μ' 2 lv [] μ) : ∀ (v1 : Int32) (v2 : Int32) (v3 : Int32) (μ : Mm) (lv : Nat → Option Value), lv 0 = some (.ref (ad 71)) → lv 1 = some (.int v1) → lv 2 = some (.int v2) → lv 3 = some (.int v3) → f_Me_tellOthers_B75 N k2 v1 v2 v3 μ = some μ' → Go CLS SHX ad dA D p l e (rmD 4) s m args below meth c 6 none μ' 75 lv [] μ := by
  intro v1 v2 v3 μ lv hl0 hl1 hl2 hl3 hf
  unfold f_Me_tellOthers_B75 at hf
  refine g_iinc (v := 1) C d_Me_tellOthers_75 hl3 (by decide) (by decide) ?_
  refine g_goto (tgt := 2) C d_Me_tellOthers_78 (by decide) ?_
  exact hk2 _ _ _ _ _ ((upG hl0 rfl)) ((upG hl1 rfl)) ((upG hl2 rfl)) upS hf
set_option maxHeartbeats 4000000 in
theorem t_Me_tellOthers_B67 {ad : Nat → Nat} {dA : Nat → ClassId} {D : va_G} {p : Program} {l : Launch} {e : Env} {s : State} {m : MethodId} {args : Array Value} {below : List Frame} {meth : Method} {c : Code} {μ' : Mm} (C : Cx CLS SHX ad dA D p s m args meth c c_Me_tellOthers 6 R_Me (none)) (N : Nat)   (k2 : Int32 → Int32 → Int32 → Mm → Option Mm) (hk2 : ∀ (v1 : Int32) (v2 : Int32) (v3 : Int32) (μ : Mm) (lv : Nat → Option Value), lv 0 = some (.ref (ad 71)) → lv 1 = some (.int v1) → lv 2 = some (.int v2) → lv 3 = some (.int v3) → k2 v1 v2 v3 μ = some μ' → Go CLS SHX ad dA D p l e (rmD 4) s m args below meth c 6 none μ' 2 lv [] μ) : ∀ (v1 : Int32) (v2 : Int32) (v3 : Int32) (v4 : Int64) (μ : Mm) (lv : Nat → Option Value), lv 0 = some (.ref (ad 71)) → lv 1 = some (.int v1) → lv 2 = some (.int v2) → lv 3 = some (.int v3) → lv 4 = some (.long v4) → f_Me_tellOthers_B67 N k2 v1 v2 v3 v4 μ = some μ' → Go CLS SHX ad dA D p l e (rmD 4) s m args below meth c 6 none μ' 67 lv [] μ := by
  intro v1 v2 v3 v4 μ lv hl0 hl1 hl2 hl3 hl4 hf
  unfold f_Me_tellOthers_B67 at hf
  refine g_aload_n C d_Me_tellOthers_67 rfl hl0 ?_
  refine g_getR (b := 74) (k := 3) C k_Me (by decide) fl_Me_9 rfl rfl d_Me_tellOthers_68 ?_
  refine g_iload_n C d_Me_tellOthers_71 rfl hl3 ?_
  refine g_lload C d_Me_tellOthers_72 hl4 ?_
  refine g_last C rfl d_Me_tellOthers_74 hf (fun hf => ?_)
  exact t_Me_tellOthers_B75 C N _ hk2 _ _ _ _ _ hl0 hl1 hl2 hl3 hf
set_option maxHeartbeats 4000000 in
theorem t_Me_tellOthers_L2 {ad : Nat → Nat} {dA : Nat → ClassId} {D : va_G} {p : Program} {l : Launch} {e : Env} {s : State} {m : MethodId} {args : Array Value} {below : List Frame} {meth : Method} {c : Code} {μ' : Mm} (C : Cx CLS SHX ad dA D p s m args meth c c_Me_tellOthers 6 R_Me (none)) (N : Nat)   : ∀ (n : Nat) (v1 : Int32) (v2 : Int32) (v3 : Int32) (μ : Mm) (lv : Nat → Option Value), lv 0 = some (.ref (ad 71)) → lv 1 = some (.int v1) → lv 2 = some (.int v2) → lv 3 = some (.int v3) → f_Me_tellOthers_L2 N n v1 v2 v3 μ = some μ' → Go CLS SHX ad dA D p l e (rmD 4) s m args below meth c 6 none μ' 2 lv [] μ := by
  intro n
  induction n with
  | zero => intro v1 v2 v3 μ lv hl0 hl1 hl2 hl3 hf; cases (show none = some _ from hf)
  | succ n ih =>
    intro v1 v2 v3 μ lv hl0 hl1 hl2 hl3 hf
    unfold f_Me_tellOthers_L2 at hf
    refine g_iload_n C d_Me_tellOthers_2 rfl hl3 ?_
    refine g_bipush (v := 8) C d_Me_tellOthers_3 (by decide) ?_
    refine g_icmp_ge (tgt := 81) C d_Me_tellOthers_5 (by decide) hf (fun c1 hf => ?_) (fun c1 hf => ?_)
    · exact g_vret C d_Me_tellOthers_81 hf
    · refine g_iload_n C d_Me_tellOthers_8 rfl hl2 ?_
      refine g_iload_n C d_Me_tellOthers_9 rfl hl3 ?_
      refine g_ishr C d_Me_tellOthers_10 ?_
      refine g_iconst (v := 1) C d_Me_tellOthers_11 (by decide) ?_
      refine g_iand C d_Me_tellOthers_12 ?_
      refine g_if_ne (tgt := 19) C d_Me_tellOthers_13 (by decide) hf (fun c2 hf => ?_) (fun c2 hf => ?_)
      · refine g_goto (tgt := 75) C d_Me_tellOthers_16 (by decide) ?_
        exact t_Me_tellOthers_B75 C N _ ih _ _ _ _ _ hl0 hl1 hl2 hl3 hf
      · refine g_aload_n C d_Me_tellOthers_19 rfl hl0 ?_
        refine g_iload_n C d_Me_tellOthers_20 rfl hl1 ?_
        refine g_iload_n C d_Me_tellOthers_21 rfl hl3 ?_
        refine g_aload_n C d_Me_tellOthers_22 rfl hl0 ?_
        refine g_getR (b := 74) (k := 3) C k_Me (by decide) fl_Me_9 rfl rfl d_Me_tellOthers_23 ?_
        refine g_iload_n C d_Me_tellOthers_26 rfl hl1 ?_
        refine g_lald C rfl d_Me_tellOthers_27 hf (fun hf => ?_)
        refine g_cvL C k_Me rfl mv_Me_firstOf ml_Me_103 d_Me_tellOthers_28 hf (fun r μ1 h => t_Me_firstOf C.2.2.2.2.2.2.2.2.1 h) rfl rfl (by decide) (Nat.le_of_ble_eq_true rfl) (fun r4 μ3 hf => ?_)
        refine g_lstore C d_Me_tellOthers_31 (by decide) ?_
        refine g_lload C d_Me_tellOthers_33 upS ?_
        refine g_ldc2 C cl_Me_57 d_Me_tellOthers_35 ?_
        refine g_lcmp C d_Me_tellOthers_38 ?_
        refine g_if_eq (tgt := 75) C d_Me_tellOthers_39 (by decide) hf (fun c5 hf => ?_) (fun c5 hf => ?_)
        · exact t_Me_tellOthers_B75 C N _ ih _ _ _ _ _ ((upG hl0 rfl)) ((upG hl1 rfl)) ((upG hl2 rfl)) ((upG hl3 rfl)) hf
        · refine g_aload_n C d_Me_tellOthers_42 rfl (upG hl0 rfl) ?_
          refine g_getR (b := 74) (k := 3) C k_Me (by decide) fl_Me_9 rfl rfl d_Me_tellOthers_43 ?_
          refine g_iload_n C d_Me_tellOthers_46 rfl (upG hl3 rfl) ?_
          refine g_lald C rfl d_Me_tellOthers_47 hf (fun hf => ?_)
          refine g_ldc2 C cl_Me_57 d_Me_tellOthers_48 ?_
          refine g_lcmp C d_Me_tellOthers_51 ?_
          refine g_if_eq (tgt := 67) C d_Me_tellOthers_52 (by decide) hf (fun c6 hf => ?_) (fun c6 hf => ?_)
          · exact t_Me_tellOthers_B67 C N _ ih _ _ _ _ _ _ ((upG hl0 rfl)) ((upG hl1 rfl)) ((upG hl2 rfl)) ((upG hl3 rfl)) upS hf
          · refine g_lload C d_Me_tellOthers_55 upS ?_
            refine g_aload_n C d_Me_tellOthers_57 rfl (upG hl0 rfl) ?_
            refine g_getR (b := 74) (k := 3) C k_Me (by decide) fl_Me_9 rfl rfl d_Me_tellOthers_58 ?_
            refine g_iload_n C d_Me_tellOthers_61 rfl (upG hl3 rfl) ?_
            refine g_lald C rfl d_Me_tellOthers_62 hf (fun hf => ?_)
            refine g_lcmp C d_Me_tellOthers_63 ?_
            refine g_if_ge (tgt := 75) C d_Me_tellOthers_64 (by decide) hf (fun c7 hf => ?_) (fun c7 hf => ?_)
            · exact t_Me_tellOthers_B75 C N _ ih _ _ _ _ _ ((upG hl0 rfl)) ((upG hl1 rfl)) ((upG hl2 rfl)) ((upG hl3 rfl)) hf
            · exact t_Me_tellOthers_B67 C N _ ih _ _ _ _ _ _ ((upG hl0 rfl)) ((upG hl1 rfl)) ((upG hl2 rfl)) ((upG hl3 rfl)) upS hf
set_option maxHeartbeats 4000000 in
theorem t_Me_tellOthers {l : Launch} {ad : Nat → Nat} {dA : Nat → ClassId} {D : va_G} (hi : Inj SHX ad) {N : Nat} {a1 : Int32} {a2 : Int32}  {μ μ' : Mm} (hf : f_Me_tellOthers N a1 a2 μ = some μ') : Ct CLS l SHX ad dA D y_Me_tellOthers c_Me_tellOthers 6 (none) 4 [.ref (ad 71), .int a1, .int a2] μ none μ' := by
  unfold f_Me_tellOthers at hf
  refine ct_of (by decide) hi (Nat.le_of_ble_eq_true rfl) ?_
  intro p e s m args below meth c C
  refine g_iconst (v := 0) C d_Me_tellOthers_0 (by decide) ?_
  refine g_istore_n C d_Me_tellOthers_1 rfl (by decide) ?_
  exact t_Me_tellOthers_L2 C N N _ _ _ _ _ ((upG rfl rfl)) ((upG rfl rfl)) ((upG rfl rfl)) upS hf
set_option maxHeartbeats 4000000 in
theorem t_Me_pass_B76 {ad : Nat → Nat} {dA : Nat → ClassId} {D : va_G} {p : Program} {l : Launch} {e : Env} {s : State} {m : MethodId} {args : Array Value} {below : List Frame} {meth : Method} {c : Code} {r : Int32} {μ' : Mm} (C : Cx CLS SHX ad dA D p s m args meth c c_Me_pass 9 R_Me (some .int)) (N : Nat)   : ∀ (v6 : Int32) (μ : Mm) (lv : Nat → Option Value), lv 6 = some (.int v6) → f_Me_pass_B76 N v6 μ = some (r, μ') → Go CLS SHX ad dA D p l e (rmD 5) s m args below meth c 9 (some (.int r)) μ' 76 lv [] μ := by
  intro v6 μ lv hl6 hf
  unfold f_Me_pass_B76 at hf
  refine g_goto (tgt := 113) C d_Me_pass_76 (by decide) ?_
  refine g_iload C d_Me_pass_113 hl6 ?_
  exact g_iret C d_Me_pass_115 hf
set_option maxHeartbeats 4000000 in
theorem t_Me_pass_L48 {ad : Nat → Nat} {dA : Nat → ClassId} {D : va_G} {p : Program} {l : Launch} {e : Env} {s : State} {m : MethodId} {args : Array Value} {below : List Frame} {meth : Method} {c : Code} {r : Int32} {μ' : Mm} (C : Cx CLS SHX ad dA D p s m args meth c c_Me_pass 9 R_Me (some .int)) (N : Nat)   : ∀ (n : Nat) (v4 : Int32) (v5 : Int32) (v6 : Int32) (v7 : Int32) (μ : Mm) (lv : Nat → Option Value), lv 0 = some (.ref (ad 71)) → lv 4 = some (.int v4) → lv 5 = some (.int v5) → lv 6 = some (.int v6) → lv 7 = some (.int v7) → f_Me_pass_L48 N n v4 v5 v6 v7 μ = some (r, μ') → Go CLS SHX ad dA D p l e (rmD 5) s m args below meth c 9 (some (.int r)) μ' 48 lv [] μ := by
  intro n
  induction n with
  | zero => intro v4 v5 v6 v7 μ lv hl0 hl4 hl5 hl6 hl7 hf; cases (show none = some _ from hf)
  | succ n ih =>
    intro v4 v5 v6 v7 μ lv hl0 hl4 hl5 hl6 hl7 hf
    unfold f_Me_pass_L48 at hf
    refine g_iload C d_Me_pass_48 hl7 ?_
    refine g_bipush (v := 8) C d_Me_pass_50 (by decide) ?_
    refine g_icmp_ge (tgt := 113) C d_Me_pass_52 (by decide) hf (fun c6 hf => ?_) (fun c6 hf => ?_)
    · refine g_iload C d_Me_pass_113 hl6 ?_
      exact g_iret C d_Me_pass_115 hf
    · refine g_iload C d_Me_pass_55 hl6 ?_
      refine g_iload C d_Me_pass_57 hl4 ?_
      refine g_iand C d_Me_pass_59 ?_
      refine g_if_ne (tgt := 113) C d_Me_pass_60 (by decide) hf (fun c7 hf => ?_) (fun c7 hf => ?_)
      · refine g_aload_n C d_Me_pass_63 rfl hl0 ?_
        refine g_iload C d_Me_pass_64 hl5 ?_
        refine g_cvI C k_Me rfl mv_Me_earliest ml_Me_96 d_Me_pass_66 hf (fun r μ1 h => t_Me_earliest C.2.2.2.2.2.2.2.2.1 h) rfl rfl (by decide) (Nat.le_of_ble_eq_true rfl) (fun r9 μ8 hf => ?_)
        refine g_istore C d_Me_pass_69 (by decide) ?_
        refine g_iload C d_Me_pass_71 upS ?_
        refine g_if_ge (tgt := 79) C d_Me_pass_73 (by decide) hf (fun c10 hf => ?_) (fun c10 hf => ?_)
        · refine g_iload C d_Me_pass_79 (upG hl5 rfl) ?_
          refine g_iconst (v := 1) C d_Me_pass_81 (by decide) ?_
          refine g_iload C d_Me_pass_82 upS ?_
          refine g_ishl C d_Me_pass_84 ?_
          refine g_iconst (v := -1) C d_Me_pass_85 (by decide) ?_
          refine g_ixor C d_Me_pass_86 ?_
          refine g_iand C d_Me_pass_87 ?_
          refine g_istore C d_Me_pass_88 (by decide) ?_
          refine g_iload C d_Me_pass_90 (upG (upG hl6 rfl) rfl) ?_
          refine g_iconst (v := 1) C d_Me_pass_92 (by decide) ?_
          refine g_iload C d_Me_pass_93 (upG upS rfl) ?_
          refine g_ishl C d_Me_pass_95 ?_
          refine g_ior C d_Me_pass_96 ?_
          refine g_istore C d_Me_pass_97 (by decide) ?_
          refine g_aload_n C d_Me_pass_99 rfl (upG (upG (upG hl0 rfl) rfl) rfl) ?_
          refine g_iload C d_Me_pass_100 (upG (upG upS rfl) rfl) ?_
          refine g_iload C d_Me_pass_102 (upG upS rfl) ?_
          refine g_cvV C k_Me rfl mv_Me_tellOthers ml_Me_99 d_Me_pass_104 hf (fun μ1 h => t_Me_tellOthers C.2.2.2.2.2.2.2.2.1 h) rfl rfl (by decide) (Nat.le_of_ble_eq_true rfl) (fun μ13 hf => ?_)
          refine g_iinc (v := 1) C d_Me_pass_107 (upG (upG (upG hl7 rfl) rfl) rfl) (by decide) (by decide) ?_
          refine g_goto (tgt := 48) C d_Me_pass_110 (by decide) ?_
          exact ih _ _ _ _ _ _ ((upG (upG (upG (upG hl0 rfl) rfl) rfl) rfl)) ((upG (upG (upG (upG hl4 rfl) rfl) rfl) rfl)) ((upG (upG upS rfl) rfl)) ((upG upS rfl)) upS hf
        · exact t_Me_pass_B76 C N _ _ _ ((upG hl6 rfl)) hf
      · refine g_iload C d_Me_pass_113 hl6 ?_
        exact g_iret C d_Me_pass_115 hf
set_option maxHeartbeats 4000000 in
theorem t_Me_pass_B26 {ad : Nat → Nat} {dA : Nat → ClassId} {D : va_G} {p : Program} {l : Launch} {e : Env} {s : State} {m : MethodId} {args : Array Value} {below : List Frame} {meth : Method} {c : Code} {r : Int32} {μ' : Mm} (C : Cx CLS SHX ad dA D p s m args meth c c_Me_pass 9 R_Me (some .int)) (N : Nat)   : ∀ (v1 : Int32) (v2 : Int64) (v4 : Int32) (μ : Mm) (lv : Nat → Option Value), lv 0 = some (.ref (ad 71)) → lv 1 = some (.int v1) → lv 2 = some (.long v2) → lv 4 = some (.int v4) → f_Me_pass_B26 N v1 v2 v4 μ = some (r, μ') → Go CLS SHX ad dA D p l e (rmD 5) s m args below meth c 9 (some (.int r)) μ' 26 lv [] μ := by
  intro v1 v2 v4 μ lv hl0 hl1 hl2 hl4 hf
  unfold f_Me_pass_B26 at hf
  refine g_aload_n C d_Me_pass_26 rfl hl0 ?_
  refine g_getR (b := 74) (k := 3) C k_Me (by decide) fl_Me_9 rfl rfl d_Me_pass_27 ?_
  refine g_iload_n C d_Me_pass_30 rfl hl1 ?_
  refine g_lload_n C d_Me_pass_31 rfl hl2 ?_
  refine g_last C rfl d_Me_pass_32 hf (fun hf => ?_)
  refine g_aload_n C d_Me_pass_33 rfl hl0 ?_
  refine g_getR (b := 11) (k := 0) C k_Me (by decide) fl_Me_15 rfl rfl d_Me_pass_34 ?_
  refine g_getI (k := 2) C k_Cr (by decide) fl_Me_93 rfl rfl d_Me_pass_37 ?_
  refine g_istore C d_Me_pass_40 (by decide) ?_
  refine g_iconst (v := 0) C d_Me_pass_42 (by decide) ?_
  refine g_istore C d_Me_pass_43 (by decide) ?_
  refine g_iconst (v := 0) C d_Me_pass_45 (by decide) ?_
  refine g_istore C d_Me_pass_46 (by decide) ?_
  exact t_Me_pass_L48 C N N _ _ _ _ _ _ ((upG (upG (upG hl0 rfl) rfl) rfl)) ((upG (upG (upG hl4 rfl) rfl) rfl)) ((upG (upG upS rfl) rfl)) ((upG upS rfl)) upS hf
set_option maxHeartbeats 4000000 in
theorem t_Me_pass_L3 {ad : Nat → Nat} {dA : Nat → ClassId} {D : va_G} {p : Program} {l : Launch} {e : Env} {s : State} {m : MethodId} {args : Array Value} {below : List Frame} {meth : Method} {c : Code} {r : Int32} {μ' : Mm} (C : Cx CLS SHX ad dA D p s m args meth c c_Me_pass 9 R_Me (some .int)) (N : Nat)   : ∀ (n : Nat) (v1 : Int32) (v2 : Int64) (v4 : Int32) (v5 : Int32) (μ : Mm) (lv : Nat → Option Value), lv 0 = some (.ref (ad 71)) → lv 1 = some (.int v1) → lv 2 = some (.long v2) → lv 4 = some (.int v4) → lv 5 = some (.int v5) → f_Me_pass_L3 N n v1 v2 v4 v5 μ = some (r, μ') → Go CLS SHX ad dA D p l e (rmD 5) s m args below meth c 9 (some (.int r)) μ' 3 lv [] μ := by
  intro n
  induction n with
  | zero => intro v1 v2 v4 v5 μ lv hl0 hl1 hl2 hl4 hl5 hf; cases (show none = some _ from hf)
  | succ n ih =>
    intro v1 v2 v4 v5 μ lv hl0 hl1 hl2 hl4 hl5 hf
    unfold f_Me_pass_L3 at hf
    refine g_iload C d_Me_pass_3 hl5 ?_
    refine g_bipush (v := 8) C d_Me_pass_5 (by decide) ?_
    refine g_icmp_ge (tgt := 26) C d_Me_pass_7 (by decide) hf (fun c1 hf => ?_) (fun c1 hf => ?_)
    · exact t_Me_pass_B26 C N _ _ _ _ _ hl0 hl1 hl2 hl4 hf
    · refine g_aload_n C d_Me_pass_10 rfl hl0 ?_
      refine g_getR (b := 74) (k := 3) C k_Me (by decide) fl_Me_9 rfl rfl d_Me_pass_11 ?_
      refine g_iload C d_Me_pass_14 hl5 ?_
      refine g_ldc2 C cl_Me_57 d_Me_pass_16 ?_
      refine g_last C rfl d_Me_pass_19 hf (fun hf => ?_)
      refine g_iinc (v := 1) C d_Me_pass_20 hl5 (by decide) (by decide) ?_
      refine g_goto (tgt := 3) C d_Me_pass_23 (by decide) ?_
      exact ih _ _ _ _ _ _ ((upG hl0 rfl)) ((upG hl1 rfl)) ((upG hl2 rfl)) ((upG hl4 rfl)) upS hf
set_option maxHeartbeats 4000000 in
theorem t_Me_pass {l : Launch} {ad : Nat → Nat} {dA : Nat → ClassId} {D : va_G} (hi : Inj SHX ad) {N : Nat} {a1 : Int32} {a2 : Int64} {a3 : Int32}  {μ μ' : Mm} {r : Int32} (hf : f_Me_pass N a1 a2 a3 μ = some (r, μ')) : Ct CLS l SHX ad dA D y_Me_pass c_Me_pass 9 (some .int) 5 [.ref (ad 71), .int a1, .long a2, .int a3] μ (some (.int r)) μ' := by
  unfold f_Me_pass at hf
  refine ct_of (by decide) hi (Nat.le_of_ble_eq_true rfl) ?_
  intro p e s m args below meth c C
  refine g_iconst (v := 0) C d_Me_pass_0 (by decide) ?_
  refine g_istore C d_Me_pass_1 (by decide) ?_
  exact t_Me_pass_L3 C N N _ _ _ _ _ _ ((upG rfl rfl)) ((upG rfl rfl)) ((upG rfl rfl)) ((upG rfl rfl)) upS hf
set_option maxHeartbeats 4000000 in
theorem t_Me_wordAt {l : Launch} {ad : Nat → Nat} {dA : Nat → ClassId} {D : va_G} (hi : Inj SHX ad) {N : Nat} {a1 : Int32}  {μ μ' : Mm} {r : Int64} (hf : f_Me_wordAt N a1 μ = some (r, μ')) : Ct CLS l SHX ad dA D y_Me_wordAt c_Me_wordAt 2 (some .long) 0 [.ref (ad 71), .int a1] μ (some (.long r)) μ' := by
  unfold f_Me_wordAt at hf
  refine ct_of (by decide) hi (Nat.le_of_ble_eq_true rfl) ?_
  intro p e s m args below meth c C
  refine g_aload_n C d_Me_wordAt_0 rfl rfl ?_
  refine g_getR (b := 74) (k := 3) C k_Me (by decide) fl_Me_9 rfl rfl d_Me_wordAt_1 ?_
  refine g_iload_n C d_Me_wordAt_4 rfl rfl ?_
  refine g_lald C rfl d_Me_wordAt_5 hf (fun hf => ?_)
  exact g_lret C d_Me_wordAt_6 hf
set_option maxHeartbeats 4000000 in
theorem t_Sh_forget_L2 {ad : Nat → Nat} {dA : Nat → ClassId} {D : va_G} {p : Program} {l : Launch} {e : Env} {s : State} {m : MethodId} {args : Array Value} {below : List Frame} {meth : Method} {c : Code} {μ' : Mm} (C : Cx CLS SHX ad dA D p s m args meth c c_Sh_forget 2 R_Sh (none)) (N : Nat)   : ∀ (n : Nat) (v1 : Int32) (μ : Mm) (lv : Nat → Option Value), lv 0 = some (.ref (ad 79)) → lv 1 = some (.int v1) → f_Sh_forget_L2 N n v1 μ = some μ' → Go CLS SHX ad dA D p l e (rmD 0) s m args below meth c 2 none μ' 2 lv [] μ := by
  intro n
  induction n with
  | zero => intro v1 μ lv hl0 hl1 hf; cases (show none = some _ from hf)
  | succ n ih =>
    intro v1 μ lv hl0 hl1 hf
    unfold f_Sh_forget_L2 at hf
    refine g_iload_n C d_Sh_forget_2 rfl hl1 ?_
    refine g_bipush (v := 8) C d_Sh_forget_3 (by decide) ?_
    refine g_icmp_ge (tgt := 30) C d_Sh_forget_5 (by decide) hf (fun c1 hf => ?_) (fun c1 hf => ?_)
    · exact g_vret C d_Sh_forget_30 hf
    · refine g_aload_n C d_Sh_forget_8 rfl hl0 ?_
      refine g_getR (b := 80) (k := 0) C k_Sh (by decide) fl_Sh_9 rfl rfl d_Sh_forget_9 ?_
      refine g_iload_n C d_Sh_forget_12 rfl hl1 ?_
      refine g_bipush (v := -9) C d_Sh_forget_13 (by decide) ?_
      refine g_iast C rfl d_Sh_forget_15 hf (fun hf => ?_)
      refine g_aload_n C d_Sh_forget_16 rfl hl0 ?_
      refine g_getR (b := 81) (k := 1) C k_Sh (by decide) fl_Sh_15 rfl rfl d_Sh_forget_17 ?_
      refine g_iload_n C d_Sh_forget_20 rfl hl1 ?_
      refine g_bipush (v := -9) C d_Sh_forget_21 (by decide) ?_
      refine g_iast C rfl d_Sh_forget_23 hf (fun hf => ?_)
      refine g_iinc (v := 1) C d_Sh_forget_24 hl1 (by decide) (by decide) ?_
      refine g_goto (tgt := 2) C d_Sh_forget_27 (by decide) ?_
      exact ih _ _ _ ((upG hl0 rfl)) upS hf
set_option maxHeartbeats 4000000 in
theorem t_Sh_forget {l : Launch} {ad : Nat → Nat} {dA : Nat → ClassId} {D : va_G} (hi : Inj SHX ad) {N : Nat}   {μ μ' : Mm} (hf : f_Sh_forget N  μ = some μ') : Ct CLS l SHX ad dA D y_Sh_forget c_Sh_forget 2 (none) 0 [.ref (ad 79)] μ none μ' := by
  unfold f_Sh_forget at hf
  refine ct_of (by decide) hi (Nat.le_of_ble_eq_true rfl) ?_
  intro p e s m args below meth c C
  refine g_iconst (v := 0) C d_Sh_forget_0 (by decide) ?_
  refine g_istore_n C d_Sh_forget_1 rfl (by decide) ?_
  exact t_Sh_forget_L2 C N N _ _ _ ((upG rfl rfl)) upS hf
set_option maxHeartbeats 4000000 in
theorem t_Sh_give_B18 {ad : Nat → Nat} {dA : Nat → ClassId} {D : va_G} {p : Program} {l : Launch} {e : Env} {s : State} {m : MethodId} {args : Array Value} {below : List Frame} {meth : Method} {c : Code} {μ' : Mm} (C : Cx CLS SHX ad dA D p s m args meth c c_Sh_give 3 R_Sh (none)) (N : Nat)   : ∀ (v1 : Int32) (v2 : Int32) (μ : Mm) (lv : Nat → Option Value), lv 0 = some (.ref (ad 79)) → lv 1 = some (.int v1) → lv 2 = some (.int v2) → f_Sh_give_B18 N v1 v2 μ = some μ' → Go CLS SHX ad dA D p l e (rmD 0) s m args below meth c 3 none μ' 18 lv [] μ := by
  intro v1 v2 μ lv hl0 hl1 hl2 hf
  unfold f_Sh_give_B18 at hf
  refine g_aload_n C d_Sh_give_18 rfl hl0 ?_
  refine g_getR (b := 81) (k := 1) C k_Sh (by decide) fl_Sh_15 rfl rfl d_Sh_give_19 ?_
  refine g_iload_n C d_Sh_give_22 rfl hl1 ?_
  refine g_iload_n C d_Sh_give_23 rfl hl2 ?_
  refine g_iast C rfl d_Sh_give_24 hf (fun hf => ?_)
  exact g_vret C d_Sh_give_25 hf
set_option maxHeartbeats 4000000 in
theorem t_Sh_give {l : Launch} {ad : Nat → Nat} {dA : Nat → ClassId} {D : va_G} (hi : Inj SHX ad) {N : Nat} {a1 : Int32} {a2 : Int32}  {μ μ' : Mm} (hf : f_Sh_give N a1 a2 μ = some μ') : Ct CLS l SHX ad dA D y_Sh_give c_Sh_give 3 (none) 0 [.ref (ad 79), .int a1, .int a2] μ none μ' := by
  unfold f_Sh_give at hf
  refine ct_of (by decide) hi (Nat.le_of_ble_eq_true rfl) ?_
  intro p e s m args below meth c C
  refine g_aload_n C d_Sh_give_0 rfl rfl ?_
  refine g_getR (b := 80) (k := 0) C k_Sh (by decide) fl_Sh_9 rfl rfl d_Sh_give_1 ?_
  refine g_iload_n C d_Sh_give_4 rfl rfl ?_
  refine g_iald C rfl d_Sh_give_5 hf (fun hf => ?_)
  refine g_bipush (v := -9) C d_Sh_give_6 (by decide) ?_
  refine g_icmp_ne (tgt := 18) C d_Sh_give_8 (by decide) hf (fun c1 hf => ?_) (fun c1 hf => ?_)
  · refine g_aload_n C d_Sh_give_11 rfl rfl ?_
    refine g_getR (b := 80) (k := 0) C k_Sh (by decide) fl_Sh_9 rfl rfl d_Sh_give_12 ?_
    refine g_iload_n C d_Sh_give_15 rfl rfl ?_
    refine g_iload_n C d_Sh_give_16 rfl rfl ?_
    refine g_iast C rfl d_Sh_give_17 hf (fun hf => ?_)
    exact t_Sh_give_B18 C N _ _ _ _ rfl rfl rfl hf
  · exact t_Sh_give_B18 C N _ _ _ _ rfl rfl rfl hf
set_option maxHeartbeats 4000000 in
theorem t_Sh_place {l : Launch} {ad : Nat → Nat} {dA : Nat → ClassId} {D : va_G} (hi : Inj SHX ad) {N : Nat} {a1 : Int32} {a2 : Int32}  {μ μ' : Mm} {r : Int32} (hf : f_Sh_place N a1 a2 μ = some (r, μ')) : Ct CLS l SHX ad dA D y_Sh_place c_Sh_place 2 (some .int) 0 [.int a1, .int a2] μ (some (.int r)) μ' := by
  unfold f_Sh_place at hf
  refine ct_of (by decide) hi (Nat.le_of_ble_eq_true rfl) ?_
  intro p e s m args below meth c C
  refine g_iload_n C d_Sh_place_0 rfl rfl ?_
  refine g_bipush (v := 17) C d_Sh_place_1 (by decide) ?_
  refine g_imul C d_Sh_place_3 ?_
  refine g_iload_n C d_Sh_place_4 rfl rfl ?_
  refine g_iadd C d_Sh_place_5 ?_
  exact g_iret C d_Sh_place_6 hf
set_option maxHeartbeats 4000000 in
theorem t_Sh_timeOf {l : Launch} {ad : Nat → Nat} {dA : Nat → ClassId} {D : va_G} (hi : Inj SHX ad) {N : Nat} {a1 : Int32} {a2 : Int32}  {μ μ' : Mm} {r : Int32} (hf : f_Sh_timeOf N a1 a2 μ = some (r, μ')) : Ct CLS l SHX ad dA D y_Sh_timeOf c_Sh_timeOf 3 (some .int) 1 [.ref (ad 79), .int a1, .int a2] μ (some (.int r)) μ' := by
  unfold f_Sh_timeOf at hf
  refine ct_of (by decide) hi (Nat.le_of_ble_eq_true rfl) ?_
  intro p e s m args below meth c C
  refine g_iconst (v := 2) C d_Sh_timeOf_0 (by decide) ?_
  refine g_aload_n C d_Sh_timeOf_1 rfl rfl ?_
  refine g_getR (b := 11) (k := 3) C k_Sh (by decide) fl_Sh_32 rfl rfl d_Sh_timeOf_2 ?_
  refine g_aload_n C d_Sh_timeOf_5 rfl rfl ?_
  refine g_getR (b := 82) (k := 4) C k_Sh (by decide) fl_Sh_18 rfl rfl d_Sh_timeOf_6 ?_
  refine g_iload_n C d_Sh_timeOf_9 rfl rfl ?_
  refine g_iald C rfl d_Sh_timeOf_10 hf (fun hf => ?_)
  refine g_cvW C k_Cr rfl mv_Cr_get ml_Sh_64 d_Sh_timeOf_11 hf (fun r μ1 h => t_Cr_get C.2.2.2.2.2.2.2.2.1 h) rfl rfl (by decide) (Nat.le_of_ble_eq_true rfl) (fun r2 μ1 hf => ?_)
  obtain ⟨hw3, hf⟩ := chk8 hf
  refine g_cvI C k_Wk (shW _ hw3) mv_Wk_unitParts ml_Sh_98 d_Sh_timeOf_14 hf (fun r μ1 h => t_Wk_unitParts C.2.2.2.2.2.2.2.2.1 hw3 h) rfl rfl (by decide) (Nat.le_of_ble_eq_true rfl) (fun r5 μ4 hf => ?_)
  refine g_imul C d_Sh_timeOf_17 ?_
  refine g_iload_n C d_Sh_timeOf_18 rfl rfl ?_
  refine g_imul C d_Sh_timeOf_19 ?_
  exact g_iret C d_Sh_timeOf_20 hf
set_option maxHeartbeats 4000000 in
theorem t_Sh_canEnd_B43 {ad : Nat → Nat} {dA : Nat → ClassId} {D : va_G} {p : Program} {l : Launch} {e : Env} {s : State} {m : MethodId} {args : Array Value} {below : List Frame} {meth : Method} {c : Code} {r : Int32} {μ' : Mm} (C : Cx CLS SHX ad dA D p s m args meth c c_Sh_canEnd 9 R_Sh (some .boolean)) (N : Nat)   (k7 : Int32 → Int32 → Int32 → Int32 → Int32 → Int32 → Mm → Option (Int32 × Mm)) (hk7 : ∀ (v1 : Int32) (v3 : Int32) (v4 : Int32) (v5 : Int32) (v6 : Int32) (v7 : Int32) (μ : Mm) (lv : Nat → Option Value), lv 0 = some (.ref (ad 79)) → lv 1 = some (.int v1) → lv 3 = some (.int v3) → lv 4 = some (.int v4) → lv 5 = some (.int v5) → lv 6 = some (.int v6) → lv 7 = some (.int v7) → k7 v1 v3 v4 v5 v6 v7 μ = some (r, μ') → Go CLS SHX ad dA D p l e (rmD 2) s m args below meth c 9 (some (.int r)) μ' 7 lv [] μ) : ∀ (v1 : Int32) (v3 : Int32) (v4 : Int32) (v5 : Int32) (v6 : Int32) (v7 : Int32) (s0 : Int32) (μ : Mm) (lv : Nat → Option Value), lv 0 = some (.ref (ad 79)) → lv 1 = some (.int v1) → lv 3 = some (.int v3) → lv 4 = some (.int v4) → lv 5 = some (.int v5) → lv 6 = some (.int v6) → lv 7 = some (.int v7) → f_Sh_canEnd_B43 N k7 v1 v3 v4 v5 v6 v7 s0 μ = some (r, μ') → Go CLS SHX ad dA D p l e (rmD 2) s m args below meth c 9 (some (.int r)) μ' 43 lv [.int s0] μ := by
  intro v1 v3 v4 v5 v6 v7 s0 μ lv hl0 hl1 hl3 hl4 hl5 hl6 hl7 hf
  unfold f_Sh_canEnd_B43 at hf
  refine g_istore C d_Sh_canEnd_43 (by decide) ?_
  refine g_iload C d_Sh_canEnd_45 (upG hl6 rfl) ?_
  refine g_iload C d_Sh_canEnd_47 upS ?_
  refine g_iadd C d_Sh_canEnd_49 ?_
  refine g_istore C d_Sh_canEnd_50 (by decide) ?_
  refine g_iload C d_Sh_canEnd_52 (upG upS rfl) ?_
  refine g_if_lt (tgt := 69) C d_Sh_canEnd_54 (by decide) hf (fun c6 hf => ?_) (fun c6 hf => ?_)
  · refine g_iconst (v := 0) C d_Sh_canEnd_69 (by decide) ?_
    exact g_zretc C d_Sh_canEnd_70 rfl hf
  · refine g_aload_n C d_Sh_canEnd_57 rfl (upG (upG hl0 rfl) rfl) ?_
    refine g_iload_n C d_Sh_canEnd_58 rfl (upG (upG hl1 rfl) rfl) ?_
    refine g_iload C d_Sh_canEnd_59 upS ?_
    refine g_cvI C k_Sh rfl mv_Sh_timeOf ml_Sh_92 d_Sh_canEnd_61 hf (fun r μ1 h => t_Sh_timeOf C.2.2.2.2.2.2.2.2.1 h) rfl rfl (by decide) (Nat.le_of_ble_eq_true rfl) (fun r8 μ7 hf => ?_)
    refine g_iload C d_Sh_canEnd_64 (upG (upG hl5 rfl) rfl) ?_
    refine g_icmp_le (tgt := 71) C d_Sh_canEnd_66 (by decide) hf (fun c9 hf => ?_) (fun c9 hf => ?_)
    · refine g_aload_n C d_Sh_canEnd_71 rfl (upG (upG hl0 rfl) rfl) ?_
      refine g_getR (b := 83) (k := 5) C k_Sh (by decide) fl_Sh_21 rfl rfl d_Sh_canEnd_72 ?_
      refine g_iload_n C d_Sh_canEnd_75 rfl (upG (upG hl3 rfl) rfl) ?_
      refine g_iload C d_Sh_canEnd_76 (upG (upG hl7 rfl) rfl) ?_
      refine g_iconst (v := 1) C d_Sh_canEnd_78 (by decide) ?_
      refine g_iadd C d_Sh_canEnd_79 ?_
      refine g_csI C mv_Sh_place ml_Sh_47 d_Sh_canEnd_80 hf (fun r μ1 h => t_Sh_place C.2.2.2.2.2.2.2.2.1 h) rfl rfl (by decide) (Nat.le_of_ble_eq_true rfl) (fun r11 μ10 hf => ?_)
      refine g_iald C rfl d_Sh_canEnd_83 hf (fun hf => ?_)
      refine g_iload C d_Sh_canEnd_84 (upG (upG hl5 rfl) rfl) ?_
      refine g_icmp_gt (tgt := 91) C d_Sh_canEnd_86 (by decide) hf (fun c12 hf => ?_) (fun c12 hf => ?_)
      · refine g_iinc (v := 1) C d_Sh_canEnd_91 (upG (upG hl7 rfl) rfl) (by decide) (by decide) ?_
        refine g_goto (tgt := 7) C d_Sh_canEnd_94 (by decide) ?_
        exact hk7 _ _ _ _ _ _ _ _ ((upG (upG (upG hl0 rfl) rfl) rfl)) ((upG (upG (upG hl1 rfl) rfl) rfl)) ((upG (upG (upG hl3 rfl) rfl) rfl)) ((upG (upG (upG hl4 rfl) rfl) rfl)) ((upG (upG (upG hl5 rfl) rfl) rfl)) ((upG upS rfl)) upS hf
      · refine g_iconst (v := 1) C d_Sh_canEnd_89 (by decide) ?_
        exact g_zretc C d_Sh_canEnd_90 rfl hf
    · refine g_iconst (v := 0) C d_Sh_canEnd_69 (by decide) ?_
      exact g_zretc C d_Sh_canEnd_70 rfl hf
set_option maxHeartbeats 4000000 in
theorem t_Sh_canEnd_L7 {ad : Nat → Nat} {dA : Nat → ClassId} {D : va_G} {p : Program} {l : Launch} {e : Env} {s : State} {m : MethodId} {args : Array Value} {below : List Frame} {meth : Method} {c : Code} {r : Int32} {μ' : Mm} (C : Cx CLS SHX ad dA D p s m args meth c c_Sh_canEnd 9 R_Sh (some .boolean)) (N : Nat)   : ∀ (n : Nat) (v1 : Int32) (v3 : Int32) (v4 : Int32) (v5 : Int32) (v6 : Int32) (v7 : Int32) (μ : Mm) (lv : Nat → Option Value), lv 0 = some (.ref (ad 79)) → lv 1 = some (.int v1) → lv 3 = some (.int v3) → lv 4 = some (.int v4) → lv 5 = some (.int v5) → lv 6 = some (.int v6) → lv 7 = some (.int v7) → f_Sh_canEnd_L7 N n v1 v3 v4 v5 v6 v7 μ = some (r, μ') → Go CLS SHX ad dA D p l e (rmD 2) s m args below meth c 9 (some (.int r)) μ' 7 lv [] μ := by
  intro n
  induction n with
  | zero => intro v1 v3 v4 v5 v6 v7 μ lv hl0 hl1 hl3 hl4 hl5 hl6 hl7 hf; cases (show none = some _ from hf)
  | succ n ih =>
    intro v1 v3 v4 v5 v6 v7 μ lv hl0 hl1 hl3 hl4 hl5 hl6 hl7 hf
    unfold f_Sh_canEnd_L7 at hf
    refine g_iload C d_Sh_canEnd_7 hl7 ?_
    refine g_aload_n C d_Sh_canEnd_9 rfl hl0 ?_
    refine g_getR (b := 6) (k := 2) C k_Sh (by decide) fl_Sh_28 rfl rfl d_Sh_canEnd_10 ?_
    refine g_getI (k := 1) C k_Gr (by decide) fl_Sh_42 rfl rfl d_Sh_canEnd_13 ?_
    refine g_icmp_ge (tgt := 97) C d_Sh_canEnd_16 (by decide) hf (fun c1 hf => ?_) (fun c1 hf => ?_)
    · refine g_iconst (v := 0) C d_Sh_canEnd_97 (by decide) ?_
      exact g_zretc C d_Sh_canEnd_98 rfl hf
    · refine g_iload C d_Sh_canEnd_19 hl7 ?_
      refine g_iload C d_Sh_canEnd_21 hl4 ?_
      refine g_icmp_le (tgt := 42) C d_Sh_canEnd_23 (by decide) hf (fun c2 hf => ?_) (fun c2 hf => ?_)
      · refine g_iconst (v := 0) C d_Sh_canEnd_42 (by decide) ?_
        exact t_Sh_canEnd_B43 C N _ ih _ _ _ _ _ _ _ _ _ hl0 hl1 hl3 hl4 hl5 hl6 hl7 hf
      · refine g_aload_n C d_Sh_canEnd_26 rfl hl0 ?_
        refine g_getR (b := 6) (k := 2) C k_Sh (by decide) fl_Sh_28 rfl rfl d_Sh_canEnd_27 ?_
        refine g_iload C d_Sh_canEnd_30 hl7 ?_
        refine g_iconst (v := 1) C d_Sh_canEnd_32 (by decide) ?_
        refine g_isub C d_Sh_canEnd_33 ?_
        refine g_iload C d_Sh_canEnd_34 hl7 ?_
        refine g_cvI C k_Gr rfl mv_Gr_lengthOf ml_Sh_89 d_Sh_canEnd_36 hf (fun r μ1 h => t_Gr_lengthOf C.2.2.2.2.2.2.2.2.1 h) rfl rfl (by decide) (Nat.le_of_ble_eq_true rfl) (fun r4 μ3 hf => ?_)
        refine g_goto (tgt := 43) C d_Sh_canEnd_39 (by decide) ?_
        exact t_Sh_canEnd_B43 C N _ ih _ _ _ _ _ _ _ _ _ hl0 hl1 hl3 hl4 hl5 hl6 hl7 hf
set_option maxHeartbeats 4000000 in
theorem t_Sh_canEnd {l : Launch} {ad : Nat → Nat} {dA : Nat → ClassId} {D : va_G} (hi : Inj SHX ad) {N : Nat} {a1 : Int32} {a2 : Int32} {a3 : Int32} {a4 : Int32} {a5 : Int32}  {μ μ' : Mm} {r : Int32} (hf : f_Sh_canEnd N a1 a2 a3 a4 a5 μ = some (r, μ')) : Ct CLS l SHX ad dA D y_Sh_canEnd c_Sh_canEnd 9 (some .boolean) 2 [.ref (ad 79), .int a1, .int a2, .int a3, .int a4, .int a5] μ (some (.int r)) μ' := by
  unfold f_Sh_canEnd at hf
  refine ct_of (by decide) hi (Nat.le_of_ble_eq_true rfl) ?_
  intro p e s m args below meth c C
  refine g_iload_n C d_Sh_canEnd_0 rfl rfl ?_
  refine g_istore C d_Sh_canEnd_1 (by decide) ?_
  refine g_iload C d_Sh_canEnd_3 (upG rfl rfl) ?_
  refine g_istore C d_Sh_canEnd_5 (by decide) ?_
  exact t_Sh_canEnd_L7 C N N _ _ _ _ _ _ _ _ ((upG (upG rfl rfl) rfl)) ((upG (upG rfl rfl) rfl)) ((upG (upG rfl rfl) rfl)) ((upG (upG rfl rfl) rfl)) ((upG (upG rfl rfl) rfl)) ((upG upS rfl)) upS hf
set_option maxHeartbeats 4000000 in
theorem t_Sh_leastOwner_B89 {ad : Nat → Nat} {dA : Nat → ClassId} {D : va_G} {p : Program} {l : Launch} {e : Env} {s : State} {m : MethodId} {args : Array Value} {below : List Frame} {meth : Method} {c : Code} {r : Int32} {μ' : Mm} (C : Cx CLS SHX ad dA D p s m args meth c c_Sh_leastOwner 9 R_Sh (some .int)) (N : Nat)   (k3 : Int32 → Int32 → Int32 → Int32 → Int32 → Int32 → Mm → Option (Int32 × Mm)) (hk3 : ∀ (v1 : Int32) (v2 : Int32) (v3 : Int32) (v4 : Int32) (v5 : Int32) (v6 : Int32) (μ : Mm) (lv : Nat → Option Value), lv 0 = some (.ref (ad 79)) → lv 1 = some (.int v1) → lv 2 = some (.int v2) → lv 3 = some (.int v3) → lv 4 = some (.int v4) → lv 5 = some (.int v5) → lv 6 = some (.int v6) → k3 v1 v2 v3 v4 v5 v6 μ = some (r, μ') → Go CLS SHX ad dA D p l e (rmD 3) s m args below meth c 9 (some (.int r)) μ' 3 lv [] μ) : ∀ (v1 : Int32) (v2 : Int32) (v3 : Int32) (v4 : Int32) (v5 : Int32) (v6 : Int32) (μ : Mm) (lv : Nat → Option Value), lv 0 = some (.ref (ad 79)) → lv 1 = some (.int v1) → lv 2 = some (.int v2) → lv 3 = some (.int v3) → lv 4 = some (.int v4) → lv 5 = some (.int v5) → lv 6 = some (.int v6) → f_Sh_leastOwner_B89 N k3 v1 v2 v3 v4 v5 v6 μ = some (r, μ') → Go CLS SHX ad dA D p l e (rmD 3) s m args below meth c 9 (some (.int r)) μ' 89 lv [] μ := by
  intro v1 v2 v3 v4 v5 v6 μ lv hl0 hl1 hl2 hl3 hl4 hl5 hl6 hf
  unfold f_Sh_leastOwner_B89 at hf
  refine g_iinc (v := 1) C d_Sh_leastOwner_89 hl6 (by decide) (by decide) ?_
  refine g_goto (tgt := 3) C d_Sh_leastOwner_92 (by decide) ?_
  exact hk3 _ _ _ _ _ _ _ _ ((upG hl0 rfl)) ((upG hl1 rfl)) ((upG hl2 rfl)) ((upG hl3 rfl)) ((upG hl4 rfl)) ((upG hl5 rfl)) upS hf
set_option maxHeartbeats 4000000 in
theorem t_Sh_leastOwner_B68 {ad : Nat → Nat} {dA : Nat → ClassId} {D : va_G} {p : Program} {l : Launch} {e : Env} {s : State} {m : MethodId} {args : Array Value} {below : List Frame} {meth : Method} {c : Code} {r : Int32} {μ' : Mm} (C : Cx CLS SHX ad dA D p s m args meth c c_Sh_leastOwner 9 R_Sh (some .int)) (N : Nat)   (k3 : Int32 → Int32 → Int32 → Int32 → Int32 → Int32 → Mm → Option (Int32 × Mm)) (hk3 : ∀ (v1 : Int32) (v2 : Int32) (v3 : Int32) (v4 : Int32) (v5 : Int32) (v6 : Int32) (μ : Mm) (lv : Nat → Option Value), lv 0 = some (.ref (ad 79)) → lv 1 = some (.int v1) → lv 2 = some (.int v2) → lv 3 = some (.int v3) → lv 4 = some (.int v4) → lv 5 = some (.int v5) → lv 6 = some (.int v6) → k3 v1 v2 v3 v4 v5 v6 μ = some (r, μ') → Go CLS SHX ad dA D p l e (rmD 3) s m args below meth c 9 (some (.int r)) μ' 3 lv [] μ) : ∀ (v1 : Int32) (v2 : Int32) (v3 : Int32) (v4 : Int32) (v5 : Int32) (v6 : Int32) (s1 : Int32) (s2 : Int32) (μ : Mm) (lv : Nat → Option Value), lv 0 = some (.ref (ad 79)) → lv 1 = some (.int v1) → lv 2 = some (.int v2) → lv 3 = some (.int v3) → lv 4 = some (.int v4) → lv 5 = some (.int v5) → lv 6 = some (.int v6) → f_Sh_leastOwner_B68 N k3 v1 v2 v3 v4 v5 v6 s1 s2 μ = some (r, μ') → Go CLS SHX ad dA D p l e (rmD 3) s m args below meth c 9 (some (.int r)) μ' 68 lv [.int s2, .int s1, .ref (ad 79)] μ := by
  intro v1 v2 v3 v4 v5 v6 s1 s2 μ lv hl0 hl1 hl2 hl3 hl4 hl5 hl6 hf
  unfold f_Sh_leastOwner_B68 at hf
  refine g_iload_n C d_Sh_leastOwner_68 rfl hl3 ?_
  refine g_iconst (v := 1) C d_Sh_leastOwner_69 (by decide) ?_
  refine g_iload C d_Sh_leastOwner_70 hl6 ?_
  refine g_ishl C d_Sh_leastOwner_72 ?_
  refine g_iconst (v := -1) C d_Sh_leastOwner_73 (by decide) ?_
  refine g_ixor C d_Sh_leastOwner_74 ?_
  refine g_iand C d_Sh_leastOwner_75 ?_
  refine g_iload C d_Sh_leastOwner_76 hl4 ?_
  refine g_iload C d_Sh_leastOwner_78 hl5 ?_
  refine g_cvI C k_Sh rfl mv_Sh_canEnd ml_Sh_109 d_Sh_leastOwner_80 hf (fun r μ1 h => t_Sh_canEnd C.2.2.2.2.2.2.2.2.1 h) rfl rfl (by decide) (Nat.le_of_ble_eq_true rfl) (fun r9 μ8 hf => ?_)
  refine g_if_eq (tgt := 89) C d_Sh_leastOwner_83 (by decide) hf (fun c10 hf => ?_) (fun c10 hf => ?_)
  · exact t_Sh_leastOwner_B89 C N _ hk3 _ _ _ _ _ _ _ _ hl0 hl1 hl2 hl3 hl4 hl5 hl6 hf
  · refine g_iload C d_Sh_leastOwner_86 hl6 ?_
    exact g_iret C d_Sh_leastOwner_88 hf
set_option maxHeartbeats 4000000 in
theorem t_Sh_leastOwner_B55 {ad : Nat → Nat} {dA : Nat → ClassId} {D : va_G} {p : Program} {l : Launch} {e : Env} {s : State} {m : MethodId} {args : Array Value} {below : List Frame} {meth : Method} {c : Code} {r : Int32} {μ' : Mm} (C : Cx CLS SHX ad dA D p s m args meth c c_Sh_leastOwner 9 R_Sh (some .int)) (N : Nat)   (k3 : Int32 → Int32 → Int32 → Int32 → Int32 → Int32 → Mm → Option (Int32 × Mm)) (hk3 : ∀ (v1 : Int32) (v2 : Int32) (v3 : Int32) (v4 : Int32) (v5 : Int32) (v6 : Int32) (μ : Mm) (lv : Nat → Option Value), lv 0 = some (.ref (ad 79)) → lv 1 = some (.int v1) → lv 2 = some (.int v2) → lv 3 = some (.int v3) → lv 4 = some (.int v4) → lv 5 = some (.int v5) → lv 6 = some (.int v6) → k3 v1 v2 v3 v4 v5 v6 μ = some (r, μ') → Go CLS SHX ad dA D p l e (rmD 3) s m args below meth c 9 (some (.int r)) μ' 3 lv [] μ) : ∀ (v1 : Int32) (v2 : Int32) (v3 : Int32) (v4 : Int32) (v5 : Int32) (v6 : Int32) (v7 : Int32) (μ : Mm) (lv : Nat → Option Value), lv 0 = some (.ref (ad 79)) → lv 1 = some (.int v1) → lv 2 = some (.int v2) → lv 3 = some (.int v3) → lv 4 = some (.int v4) → lv 5 = some (.int v5) → lv 6 = some (.int v6) → lv 7 = some (.int v7) → f_Sh_leastOwner_B55 N k3 v1 v2 v3 v4 v5 v6 v7 μ = some (r, μ') → Go CLS SHX ad dA D p l e (rmD 3) s m args below meth c 9 (some (.int r)) μ' 55 lv [] μ := by
  intro v1 v2 v3 v4 v5 v6 v7 μ lv hl0 hl1 hl2 hl3 hl4 hl5 hl6 hl7 hf
  unfold f_Sh_leastOwner_B55 at hf
  refine g_aload_n C d_Sh_leastOwner_55 rfl hl0 ?_
  refine g_iload C d_Sh_leastOwner_56 hl6 ?_
  refine g_iload C d_Sh_leastOwner_58 hl7 ?_
  refine g_if_eq (tgt := 67) C d_Sh_leastOwner_60 (by decide) hf (fun c7 hf => ?_) (fun c7 hf => ?_)
  · refine g_iconst (v := 0) C d_Sh_leastOwner_67 (by decide) ?_
    exact t_Sh_leastOwner_B68 C N _ hk3 _ _ _ _ _ _ _ _ _ _ hl0 hl1 hl2 hl3 hl4 hl5 hl6 hf
  · refine g_iload_n C d_Sh_leastOwner_63 rfl hl2 ?_
    refine g_goto (tgt := 68) C d_Sh_leastOwner_64 (by decide) ?_
    exact t_Sh_leastOwner_B68 C N _ hk3 _ _ _ _ _ _ _ _ _ _ hl0 hl1 hl2 hl3 hl4 hl5 hl6 hf
set_option maxHeartbeats 4000000 in
theorem t_Sh_leastOwner_B43 {ad : Nat → Nat} {dA : Nat → ClassId} {D : va_G} {p : Program} {l : Launch} {e : Env} {s : State} {m : MethodId} {args : Array Value} {below : List Frame} {meth : Method} {c : Code} {r : Int32} {μ' : Mm} (C : Cx CLS SHX ad dA D p s m args meth c c_Sh_leastOwner 9 R_Sh (some .int)) (N : Nat)   (k3 : Int32 → Int32 → Int32 → Int32 → Int32 → Int32 → Mm → Option (Int32 × Mm)) (hk3 : ∀ (v1 : Int32) (v2 : Int32) (v3 : Int32) (v4 : Int32) (v5 : Int32) (v6 : Int32) (μ : Mm) (lv : Nat → Option Value), lv 0 = some (.ref (ad 79)) → lv 1 = some (.int v1) → lv 2 = some (.int v2) → lv 3 = some (.int v3) → lv 4 = some (.int v4) → lv 5 = some (.int v5) → lv 6 = some (.int v6) → k3 v1 v2 v3 v4 v5 v6 μ = some (r, μ') → Go CLS SHX ad dA D p l e (rmD 3) s m args below meth c 9 (some (.int r)) μ' 3 lv [] μ) : ∀ (v1 : Int32) (v2 : Int32) (v3 : Int32) (v4 : Int32) (v5 : Int32) (v6 : Int32) (v7 : Int32) (s0 : Int32) (μ : Mm) (lv : Nat → Option Value), lv 0 = some (.ref (ad 79)) → lv 1 = some (.int v1) → lv 2 = some (.int v2) → lv 3 = some (.int v3) → lv 4 = some (.int v4) → lv 5 = some (.int v5) → lv 6 = some (.int v6) → lv 7 = some (.int v7) → f_Sh_leastOwner_B43 N k3 v1 v2 v3 v4 v5 v6 v7 s0 μ = some (r, μ') → Go CLS SHX ad dA D p l e (rmD 3) s m args below meth c 9 (some (.int r)) μ' 43 lv [.int s0] μ := by
  intro v1 v2 v3 v4 v5 v6 v7 s0 μ lv hl0 hl1 hl2 hl3 hl4 hl5 hl6 hl7 hf
  unfold f_Sh_leastOwner_B43 at hf
  refine g_istore C d_Sh_leastOwner_43 (by decide) ?_
  refine g_iload C d_Sh_leastOwner_45 (upG hl7 rfl) ?_
  refine g_if_ne (tgt := 55) C d_Sh_leastOwner_47 (by decide) hf (fun c5 hf => ?_) (fun c5 hf => ?_)
  · refine g_iload C d_Sh_leastOwner_50 upS ?_
    refine g_if_eq (tgt := 89) C d_Sh_leastOwner_52 (by decide) hf (fun c6 hf => ?_) (fun c6 hf => ?_)
    · exact t_Sh_leastOwner_B89 C N _ hk3 _ _ _ _ _ _ _ _ ((upG hl0 rfl)) ((upG hl1 rfl)) ((upG hl2 rfl)) ((upG hl3 rfl)) ((upG hl4 rfl)) ((upG hl5 rfl)) ((upG hl6 rfl)) hf
    · exact t_Sh_leastOwner_B55 C N _ hk3 _ _ _ _ _ _ _ _ _ ((upG hl0 rfl)) ((upG hl1 rfl)) ((upG hl2 rfl)) ((upG hl3 rfl)) ((upG hl4 rfl)) ((upG hl5 rfl)) ((upG hl6 rfl)) ((upG hl7 rfl)) hf
  · exact t_Sh_leastOwner_B55 C N _ hk3 _ _ _ _ _ _ _ _ _ ((upG hl0 rfl)) ((upG hl1 rfl)) ((upG hl2 rfl)) ((upG hl3 rfl)) ((upG hl4 rfl)) ((upG hl5 rfl)) ((upG hl6 rfl)) ((upG hl7 rfl)) hf
set_option maxHeartbeats 4000000 in
theorem t_Sh_leastOwner_B27 {ad : Nat → Nat} {dA : Nat → ClassId} {D : va_G} {p : Program} {l : Launch} {e : Env} {s : State} {m : MethodId} {args : Array Value} {below : List Frame} {meth : Method} {c : Code} {r : Int32} {μ' : Mm} (C : Cx CLS SHX ad dA D p s m args meth c c_Sh_leastOwner 9 R_Sh (some .int)) (N : Nat)   (k3 : Int32 → Int32 → Int32 → Int32 → Int32 → Int32 → Mm → Option (Int32 × Mm)) (hk3 : ∀ (v1 : Int32) (v2 : Int32) (v3 : Int32) (v4 : Int32) (v5 : Int32) (v6 : Int32) (μ : Mm) (lv : Nat → Option Value), lv 0 = some (.ref (ad 79)) → lv 1 = some (.int v1) → lv 2 = some (.int v2) → lv 3 = some (.int v3) → lv 4 = some (.int v4) → lv 5 = some (.int v5) → lv 6 = some (.int v6) → k3 v1 v2 v3 v4 v5 v6 μ = some (r, μ') → Go CLS SHX ad dA D p l e (rmD 3) s m args below meth c 9 (some (.int r)) μ' 3 lv [] μ) : ∀ (v1 : Int32) (v2 : Int32) (v3 : Int32) (v4 : Int32) (v5 : Int32) (v6 : Int32) (s0 : Int32) (μ : Mm) (lv : Nat → Option Value), lv 0 = some (.ref (ad 79)) → lv 1 = some (.int v1) → lv 2 = some (.int v2) → lv 3 = some (.int v3) → lv 4 = some (.int v4) → lv 5 = some (.int v5) → lv 6 = some (.int v6) → f_Sh_leastOwner_B27 N k3 v1 v2 v3 v4 v5 v6 s0 μ = some (r, μ') → Go CLS SHX ad dA D p l e (rmD 3) s m args below meth c 9 (some (.int r)) μ' 27 lv [.int s0] μ := by
  intro v1 v2 v3 v4 v5 v6 s0 μ lv hl0 hl1 hl2 hl3 hl4 hl5 hl6 hf
  unfold f_Sh_leastOwner_B27 at hf
  refine g_istore C d_Sh_leastOwner_27 (by decide) ?_
  refine g_iload_n C d_Sh_leastOwner_29 rfl (upG hl3 rfl) ?_
  refine g_iload C d_Sh_leastOwner_30 (upG hl6 rfl) ?_
  refine g_ishr C d_Sh_leastOwner_32 ?_
  refine g_iconst (v := 1) C d_Sh_leastOwner_33 (by decide) ?_
  refine g_iand C d_Sh_leastOwner_34 ?_
  refine g_if_eq (tgt := 42) C d_Sh_leastOwner_35 (by decide) hf (fun c4 hf => ?_) (fun c4 hf => ?_)
  · refine g_iconst (v := 0) C d_Sh_leastOwner_42 (by decide) ?_
    exact t_Sh_leastOwner_B43 C N _ hk3 _ _ _ _ _ _ _ _ _ _ ((upG hl0 rfl)) ((upG hl1 rfl)) ((upG hl2 rfl)) ((upG hl3 rfl)) ((upG hl4 rfl)) ((upG hl5 rfl)) ((upG hl6 rfl)) upS hf
  · refine g_iconst (v := 1) C d_Sh_leastOwner_38 (by decide) ?_
    refine g_goto (tgt := 43) C d_Sh_leastOwner_39 (by decide) ?_
    exact t_Sh_leastOwner_B43 C N _ hk3 _ _ _ _ _ _ _ _ _ _ ((upG hl0 rfl)) ((upG hl1 rfl)) ((upG hl2 rfl)) ((upG hl3 rfl)) ((upG hl4 rfl)) ((upG hl5 rfl)) ((upG hl6 rfl)) upS hf
set_option maxHeartbeats 4000000 in
theorem t_Sh_leastOwner_B26 {ad : Nat → Nat} {dA : Nat → ClassId} {D : va_G} {p : Program} {l : Launch} {e : Env} {s : State} {m : MethodId} {args : Array Value} {below : List Frame} {meth : Method} {c : Code} {r : Int32} {μ' : Mm} (C : Cx CLS SHX ad dA D p s m args meth c c_Sh_leastOwner 9 R_Sh (some .int)) (N : Nat)   (k3 : Int32 → Int32 → Int32 → Int32 → Int32 → Int32 → Mm → Option (Int32 × Mm)) (hk3 : ∀ (v1 : Int32) (v2 : Int32) (v3 : Int32) (v4 : Int32) (v5 : Int32) (v6 : Int32) (μ : Mm) (lv : Nat → Option Value), lv 0 = some (.ref (ad 79)) → lv 1 = some (.int v1) → lv 2 = some (.int v2) → lv 3 = some (.int v3) → lv 4 = some (.int v4) → lv 5 = some (.int v5) → lv 6 = some (.int v6) → k3 v1 v2 v3 v4 v5 v6 μ = some (r, μ') → Go CLS SHX ad dA D p l e (rmD 3) s m args below meth c 9 (some (.int r)) μ' 3 lv [] μ) : ∀ (v1 : Int32) (v2 : Int32) (v3 : Int32) (v4 : Int32) (v5 : Int32) (v6 : Int32) (μ : Mm) (lv : Nat → Option Value), lv 0 = some (.ref (ad 79)) → lv 1 = some (.int v1) → lv 2 = some (.int v2) → lv 3 = some (.int v3) → lv 4 = some (.int v4) → lv 5 = some (.int v5) → lv 6 = some (.int v6) → f_Sh_leastOwner_B26 N k3 v1 v2 v3 v4 v5 v6 μ = some (r, μ') → Go CLS SHX ad dA D p l e (rmD 3) s m args below meth c 9 (some (.int r)) μ' 26 lv [] μ := by
  intro v1 v2 v3 v4 v5 v6 μ lv hl0 hl1 hl2 hl3 hl4 hl5 hl6 hf
  unfold f_Sh_leastOwner_B26 at hf
  refine g_iconst (v := 0) C d_Sh_leastOwner_26 (by decide) ?_
  exact t_Sh_leastOwner_B27 C N _ hk3 _ _ _ _ _ _ _ _ _ hl0 hl1 hl2 hl3 hl4 hl5 hl6 hf
set_option maxHeartbeats 4000000 in
theorem t_Sh_leastOwner_L3 {ad : Nat → Nat} {dA : Nat → ClassId} {D : va_G} {p : Program} {l : Launch} {e : Env} {s : State} {m : MethodId} {args : Array Value} {below : List Frame} {meth : Method} {c : Code} {r : Int32} {μ' : Mm} (C : Cx CLS SHX ad dA D p s m args meth c c_Sh_leastOwner 9 R_Sh (some .int)) (N : Nat)   : ∀ (n : Nat) (v1 : Int32) (v2 : Int32) (v3 : Int32) (v4 : Int32) (v5 : Int32) (v6 : Int32) (μ : Mm) (lv : Nat → Option Value), lv 0 = some (.ref (ad 79)) → lv 1 = some (.int v1) → lv 2 = some (.int v2) → lv 3 = some (.int v3) → lv 4 = some (.int v4) → lv 5 = some (.int v5) → lv 6 = some (.int v6) → f_Sh_leastOwner_L3 N n v1 v2 v3 v4 v5 v6 μ = some (r, μ') → Go CLS SHX ad dA D p l e (rmD 3) s m args below meth c 9 (some (.int r)) μ' 3 lv [] μ := by
  intro n
  induction n with
  | zero => intro v1 v2 v3 v4 v5 v6 μ lv hl0 hl1 hl2 hl3 hl4 hl5 hl6 hf; cases (show none = some _ from hf)
  | succ n ih =>
    intro v1 v2 v3 v4 v5 v6 μ lv hl0 hl1 hl2 hl3 hl4 hl5 hl6 hf
    unfold f_Sh_leastOwner_L3 at hf
    refine g_iload C d_Sh_leastOwner_3 hl6 ?_
    refine g_aload_n C d_Sh_leastOwner_5 rfl hl0 ?_
    refine g_getI (k := 6) C k_Sh (by decide) fl_Sh_24 rfl rfl d_Sh_leastOwner_6 ?_
    refine g_icmp_ge (tgt := 95) C d_Sh_leastOwner_9 (by decide) hf (fun c1 hf => ?_) (fun c1 hf => ?_)
    · refine g_bipush (v := -9) C d_Sh_leastOwner_95 (by decide) ?_
      exact g_iret C d_Sh_leastOwner_97 hf
    · refine g_iload C d_Sh_leastOwner_12 hl6 ?_
      refine g_iload_n C d_Sh_leastOwner_14 rfl hl1 ?_
      refine g_icmp_ne (tgt := 26) C d_Sh_leastOwner_15 (by decide) hf (fun c2 hf => ?_) (fun c2 hf => ?_)
      · refine g_iload_n C d_Sh_leastOwner_18 rfl hl2 ?_
        refine g_if_lt (tgt := 26) C d_Sh_leastOwner_19 (by decide) hf (fun c3 hf => ?_) (fun c3 hf => ?_)
        · exact t_Sh_leastOwner_B26 C N _ ih _ _ _ _ _ _ _ _ hl0 hl1 hl2 hl3 hl4 hl5 hl6 hf
        · refine g_iconst (v := 1) C d_Sh_leastOwner_22 (by decide) ?_
          refine g_goto (tgt := 27) C d_Sh_leastOwner_23 (by decide) ?_
          exact t_Sh_leastOwner_B27 C N _ ih _ _ _ _ _ _ _ _ _ hl0 hl1 hl2 hl3 hl4 hl5 hl6 hf
      · exact t_Sh_leastOwner_B26 C N _ ih _ _ _ _ _ _ _ _ hl0 hl1 hl2 hl3 hl4 hl5 hl6 hf
set_option maxHeartbeats 4000000 in
theorem t_Sh_leastOwner {l : Launch} {ad : Nat → Nat} {dA : Nat → ClassId} {D : va_G} (hi : Inj SHX ad) {N : Nat} {a1 : Int32} {a2 : Int32} {a3 : Int32} {a4 : Int32} {a5 : Int32}  {μ μ' : Mm} {r : Int32} (hf : f_Sh_leastOwner N a1 a2 a3 a4 a5 μ = some (r, μ')) : Ct CLS l SHX ad dA D y_Sh_leastOwner c_Sh_leastOwner 9 (some .int) 3 [.ref (ad 79), .int a1, .int a2, .int a3, .int a4, .int a5] μ (some (.int r)) μ' := by
  unfold f_Sh_leastOwner at hf
  refine ct_of (by decide) hi (Nat.le_of_ble_eq_true rfl) ?_
  intro p e s m args below meth c C
  refine g_iconst (v := 0) C d_Sh_leastOwner_0 (by decide) ?_
  refine g_istore C d_Sh_leastOwner_1 (by decide) ?_
  exact t_Sh_leastOwner_L3 C N N _ _ _ _ _ _ _ _ ((upG rfl rfl)) ((upG rfl rfl)) ((upG rfl rfl)) ((upG rfl rfl)) ((upG rfl rfl)) ((upG rfl rfl)) upS hf
set_option maxHeartbeats 4000000 in
theorem t_Sh_dealOut_B97 {ad : Nat → Nat} {dA : Nat → ClassId} {D : va_G} {p : Program} {l : Launch} {e : Env} {s : State} {m : MethodId} {args : Array Value} {below : List Frame} {meth : Method} {c : Code} {μ' : Mm} (C : Cx CLS SHX ad dA D p s m args meth c c_Sh_dealOut 10 R_Sh (none)) (N : Nat)   (k12 : Int32 → Int32 → Int32 → Int32 → Int32 → Mm → Option Mm) (hk12 : ∀ (v2 : Int32) (v3 : Int32) (v4 : Int32) (v5 : Int32) (v6 : Int32) (μ : Mm) (lv : Nat → Option Value), lv 0 = some (.ref (ad 79)) → lv 2 = some (.int v2) → lv 3 = some (.int v3) → lv 4 = some (.int v4) → lv 5 = some (.int v5) → lv 6 = some (.int v6) → k12 v2 v3 v4 v5 v6 μ = some μ' → Go CLS SHX ad dA D p l e (rmD 4) s m args below meth c 10 none μ' 12 lv [] μ) : ∀ (v2 : Int32) (v3 : Int32) (v6 : Int32) (v9 : Int32) (s0 : Int32) (μ : Mm) (lv : Nat → Option Value), lv 0 = some (.ref (ad 79)) → lv 2 = some (.int v2) → lv 3 = some (.int v3) → lv 6 = some (.int v6) → lv 9 = some (.int v9) → f_Sh_dealOut_B97 N k12 v2 v3 v6 v9 s0 μ = some μ' → Go CLS SHX ad dA D p l e (rmD 4) s m args below meth c 10 none μ' 97 lv [.int s0] μ := by
  intro v2 v3 v6 v9 s0 μ lv hl0 hl2 hl3 hl6 hl9 hf
  unfold f_Sh_dealOut_B97 at hf
  refine g_istore C d_Sh_dealOut_97 (by decide) ?_
  refine g_iload C d_Sh_dealOut_99 (upG hl9 rfl) ?_
  refine g_istore C d_Sh_dealOut_101 (by decide) ?_
  refine g_iload_n C d_Sh_dealOut_103 rfl (upG (upG hl3 rfl) rfl) ?_
  refine g_iconst (v := 1) C d_Sh_dealOut_104 (by decide) ?_
  refine g_iload C d_Sh_dealOut_105 (upG (upG hl9 rfl) rfl) ?_
  refine g_ishl C d_Sh_dealOut_107 ?_
  refine g_iconst (v := -1) C d_Sh_dealOut_108 (by decide) ?_
  refine g_ixor C d_Sh_dealOut_109 ?_
  refine g_iand C d_Sh_dealOut_110 ?_
  refine g_istore_n C d_Sh_dealOut_111 rfl (by decide) ?_
  refine g_aload_n C d_Sh_dealOut_112 rfl (upG (upG (upG hl0 rfl) rfl) rfl) ?_
  refine g_aload_n C d_Sh_dealOut_113 rfl (upG (upG (upG hl0 rfl) rfl) rfl) ?_
  refine g_getR (b := 82) (k := 4) C k_Sh (by decide) fl_Sh_18 rfl rfl d_Sh_dealOut_114 ?_
  refine g_iload C d_Sh_dealOut_117 (upG (upG (upG hl9 rfl) rfl) rfl) ?_
  refine g_iald C rfl d_Sh_dealOut_119 hf (fun hf => ?_)
  refine g_iload C d_Sh_dealOut_120 (upG (upG (upG hl6 rfl) rfl) rfl) ?_
  refine g_cvV C k_Sh rfl mv_Sh_give ml_Sh_106 d_Sh_dealOut_122 hf (fun μ1 h => t_Sh_give C.2.2.2.2.2.2.2.2.1 h) rfl rfl (by decide) (Nat.le_of_ble_eq_true rfl) (fun μ11 hf => ?_)
  refine g_iinc (v := 1) C d_Sh_dealOut_125 (upG (upG (upG hl6 rfl) rfl) rfl) (by decide) (by decide) ?_
  refine g_goto (tgt := 12) C d_Sh_dealOut_128 (by decide) ?_
  exact hk12 _ _ _ _ _ _ _ ((upG (upG (upG (upG hl0 rfl) rfl) rfl) rfl)) ((upG (upG (upG (upG hl2 rfl) rfl) rfl) rfl)) ((upG upS rfl)) ((upG (upG upS rfl) rfl)) ((upG (upG (upG upS rfl) rfl) rfl)) upS hf
set_option maxHeartbeats 4000000 in
theorem t_Sh_dealOut_B62 {ad : Nat → Nat} {dA : Nat → ClassId} {D : va_G} {p : Program} {l : Launch} {e : Env} {s : State} {m : MethodId} {args : Array Value} {below : List Frame} {meth : Method} {c : Code} {μ' : Mm} (C : Cx CLS SHX ad dA D p s m args meth c c_Sh_dealOut 10 R_Sh (none)) (N : Nat)   (k12 : Int32 → Int32 → Int32 → Int32 → Int32 → Mm → Option Mm) (hk12 : ∀ (v2 : Int32) (v3 : Int32) (v4 : Int32) (v5 : Int32) (v6 : Int32) (μ : Mm) (lv : Nat → Option Value), lv 0 = some (.ref (ad 79)) → lv 2 = some (.int v2) → lv 3 = some (.int v3) → lv 4 = some (.int v4) → lv 5 = some (.int v5) → lv 6 = some (.int v6) → k12 v2 v3 v4 v5 v6 μ = some μ' → Go CLS SHX ad dA D p l e (rmD 4) s m args below meth c 10 none μ' 12 lv [] μ) : ∀ (v2 : Int32) (v3 : Int32) (v4 : Int32) (v6 : Int32) (s0 : Int32) (μ : Mm) (lv : Nat → Option Value), lv 0 = some (.ref (ad 79)) → lv 2 = some (.int v2) → lv 3 = some (.int v3) → lv 4 = some (.int v4) → lv 6 = some (.int v6) → f_Sh_dealOut_B62 N k12 v2 v3 v4 v6 s0 μ = some μ' → Go CLS SHX ad dA D p l e (rmD 4) s m args below meth c 10 none μ' 62 lv [.int s0] μ := by
  intro v2 v3 v4 v6 s0 μ lv hl0 hl2 hl3 hl4 hl6 hf
  unfold f_Sh_dealOut_B62 at hf
  refine g_istore C d_Sh_dealOut_62 (by decide) ?_
  refine g_aload_n C d_Sh_dealOut_64 rfl (upG hl0 rfl) ?_
  refine g_iload C d_Sh_dealOut_65 (upG hl4 rfl) ?_
  refine g_iload C d_Sh_dealOut_67 upS ?_
  refine g_iload_n C d_Sh_dealOut_69 rfl (upG hl3 rfl) ?_
  refine g_iload C d_Sh_dealOut_70 (upG hl6 rfl) ?_
  refine g_iload_n C d_Sh_dealOut_72 rfl (upG hl2 rfl) ?_
  refine g_cvI C k_Sh rfl mv_Sh_leastOwner ml_Sh_102 d_Sh_dealOut_73 hf (fun r μ1 h => t_Sh_leastOwner C.2.2.2.2.2.2.2.2.1 h) rfl rfl (by decide) (Nat.le_of_ble_eq_true rfl) (fun r7 μ6 hf => ?_)
  refine g_istore C d_Sh_dealOut_76 (by decide) ?_
  refine g_iload C d_Sh_dealOut_78 upS ?_
  refine g_if_ge (tgt := 84) C d_Sh_dealOut_80 (by decide) hf (fun c8 hf => ?_) (fun c8 hf => ?_)
  · refine g_iload C d_Sh_dealOut_84 upS ?_
    refine g_iload C d_Sh_dealOut_86 (upG (upG hl4 rfl) rfl) ?_
    refine g_icmp_ne (tgt := 96) C d_Sh_dealOut_88 (by decide) hf (fun c9 hf => ?_) (fun c9 hf => ?_)
    · refine g_iload C d_Sh_dealOut_91 (upG upS rfl) ?_
      refine g_goto (tgt := 97) C d_Sh_dealOut_93 (by decide) ?_
      exact t_Sh_dealOut_B97 C N _ hk12 _ _ _ _ _ _ _ ((upG (upG hl0 rfl) rfl)) ((upG (upG hl2 rfl) rfl)) ((upG (upG hl3 rfl) rfl)) ((upG (upG hl6 rfl) rfl)) upS hf
    · refine g_iconst (v := 0) C d_Sh_dealOut_96 (by decide) ?_
      exact t_Sh_dealOut_B97 C N _ hk12 _ _ _ _ _ _ _ ((upG (upG hl0 rfl) rfl)) ((upG (upG hl2 rfl) rfl)) ((upG (upG hl3 rfl) rfl)) ((upG (upG hl6 rfl) rfl)) upS hf
  · exact g_vret C d_Sh_dealOut_83 hf
set_option maxHeartbeats 4000000 in
theorem t_Sh_dealOut_B46 {ad : Nat → Nat} {dA : Nat → ClassId} {D : va_G} {p : Program} {l : Launch} {e : Env} {s : State} {m : MethodId} {args : Array Value} {below : List Frame} {meth : Method} {c : Code} {μ' : Mm} (C : Cx CLS SHX ad dA D p s m args meth c c_Sh_dealOut 10 R_Sh (none)) (N : Nat)   (k12 : Int32 → Int32 → Int32 → Int32 → Int32 → Mm → Option Mm) (hk12 : ∀ (v2 : Int32) (v3 : Int32) (v4 : Int32) (v5 : Int32) (v6 : Int32) (μ : Mm) (lv : Nat → Option Value), lv 0 = some (.ref (ad 79)) → lv 2 = some (.int v2) → lv 3 = some (.int v3) → lv 4 = some (.int v4) → lv 5 = some (.int v5) → lv 6 = some (.int v6) → k12 v2 v3 v4 v5 v6 μ = some μ' → Go CLS SHX ad dA D p l e (rmD 4) s m args below meth c 10 none μ' 12 lv [] μ) : ∀ (v2 : Int32) (v3 : Int32) (v4 : Int32) (v5 : Int32) (v6 : Int32) (s0 : Int32) (μ : Mm) (lv : Nat → Option Value), lv 0 = some (.ref (ad 79)) → lv 2 = some (.int v2) → lv 3 = some (.int v3) → lv 4 = some (.int v4) → lv 5 = some (.int v5) → lv 6 = some (.int v6) → f_Sh_dealOut_B46 N k12 v2 v3 v4 v5 v6 s0 μ = some μ' → Go CLS SHX ad dA D p l e (rmD 4) s m args below meth c 10 none μ' 46 lv [.int s0] μ := by
  intro v2 v3 v4 v5 v6 s0 μ lv hl0 hl2 hl3 hl4 hl5 hl6 hf
  unfold f_Sh_dealOut_B46 at hf
  refine g_istore C d_Sh_dealOut_46 (by decide) ?_
  refine g_iload C d_Sh_dealOut_48 upS ?_
  refine g_if_ge (tgt := 57) C d_Sh_dealOut_50 (by decide) hf (fun c5 hf => ?_) (fun c5 hf => ?_)
  · refine g_iload C d_Sh_dealOut_57 (upG hl5 rfl) ?_
    refine g_iload C d_Sh_dealOut_59 upS ?_
    refine g_iadd C d_Sh_dealOut_61 ?_
    exact t_Sh_dealOut_B62 C N _ hk12 _ _ _ _ _ _ _ ((upG hl0 rfl)) ((upG hl2 rfl)) ((upG hl3 rfl)) ((upG hl4 rfl)) ((upG hl6 rfl)) hf
  · refine g_iconst (v := -1) C d_Sh_dealOut_53 (by decide) ?_
    refine g_goto (tgt := 62) C d_Sh_dealOut_54 (by decide) ?_
    exact t_Sh_dealOut_B62 C N _ hk12 _ _ _ _ _ _ _ ((upG hl0 rfl)) ((upG hl2 rfl)) ((upG hl3 rfl)) ((upG hl4 rfl)) ((upG hl6 rfl)) hf
set_option maxHeartbeats 4000000 in
theorem t_Sh_dealOut_L12 {ad : Nat → Nat} {dA : Nat → ClassId} {D : va_G} {p : Program} {l : Launch} {e : Env} {s : State} {m : MethodId} {args : Array Value} {below : List Frame} {meth : Method} {c : Code} {μ' : Mm} (C : Cx CLS SHX ad dA D p s m args meth c c_Sh_dealOut 10 R_Sh (none)) (N : Nat)   : ∀ (n : Nat) (v2 : Int32) (v3 : Int32) (v4 : Int32) (v5 : Int32) (v6 : Int32) (μ : Mm) (lv : Nat → Option Value), lv 0 = some (.ref (ad 79)) → lv 2 = some (.int v2) → lv 3 = some (.int v3) → lv 4 = some (.int v4) → lv 5 = some (.int v5) → lv 6 = some (.int v6) → f_Sh_dealOut_L12 N n v2 v3 v4 v5 v6 μ = some μ' → Go CLS SHX ad dA D p l e (rmD 4) s m args below meth c 10 none μ' 12 lv [] μ := by
  intro n
  induction n with
  | zero => intro v2 v3 v4 v5 v6 μ lv hl0 hl2 hl3 hl4 hl5 hl6 hf; cases (show none = some _ from hf)
  | succ n ih =>
    intro v2 v3 v4 v5 v6 μ lv hl0 hl2 hl3 hl4 hl5 hl6 hf
    unfold f_Sh_dealOut_L12 at hf
    refine g_iload C d_Sh_dealOut_12 hl6 ?_
    refine g_aload_n C d_Sh_dealOut_14 rfl hl0 ?_
    refine g_getR (b := 6) (k := 2) C k_Sh (by decide) fl_Sh_28 rfl rfl d_Sh_dealOut_15 ?_
    refine g_getI (k := 1) C k_Gr (by decide) fl_Sh_42 rfl rfl d_Sh_dealOut_18 ?_
    refine g_icmp_ge (tgt := 131) C d_Sh_dealOut_21 (by decide) hf (fun c1 hf => ?_) (fun c1 hf => ?_)
    · exact g_vret C d_Sh_dealOut_131 hf
    · refine g_iload C d_Sh_dealOut_24 hl6 ?_
      refine g_if_le (tgt := 45) C d_Sh_dealOut_26 (by decide) hf (fun c2 hf => ?_) (fun c2 hf => ?_)
      · refine g_iconst (v := 0) C d_Sh_dealOut_45 (by decide) ?_
        exact t_Sh_dealOut_B46 C N _ ih _ _ _ _ _ _ _ _ hl0 hl2 hl3 hl4 hl5 hl6 hf
      · refine g_aload_n C d_Sh_dealOut_29 rfl hl0 ?_
        refine g_getR (b := 6) (k := 2) C k_Sh (by decide) fl_Sh_28 rfl rfl d_Sh_dealOut_30 ?_
        refine g_iload C d_Sh_dealOut_33 hl6 ?_
        refine g_iconst (v := 1) C d_Sh_dealOut_35 (by decide) ?_
        refine g_isub C d_Sh_dealOut_36 ?_
        refine g_iload C d_Sh_dealOut_37 hl6 ?_
        refine g_cvI C k_Gr rfl mv_Gr_lengthOf ml_Sh_89 d_Sh_dealOut_39 hf (fun r μ1 h => t_Gr_lengthOf C.2.2.2.2.2.2.2.2.1 h) rfl rfl (by decide) (Nat.le_of_ble_eq_true rfl) (fun r4 μ3 hf => ?_)
        refine g_goto (tgt := 46) C d_Sh_dealOut_42 (by decide) ?_
        exact t_Sh_dealOut_B46 C N _ ih _ _ _ _ _ _ _ _ hl0 hl2 hl3 hl4 hl5 hl6 hf
set_option maxHeartbeats 4000000 in
theorem t_Sh_dealOut {l : Launch} {ad : Nat → Nat} {dA : Nat → ClassId} {D : va_G} (hi : Inj SHX ad) {N : Nat} {a1 : Int32} {a2 : Int32}  {μ μ' : Mm} (hf : f_Sh_dealOut N a1 a2 μ = some μ') : Ct CLS l SHX ad dA D y_Sh_dealOut c_Sh_dealOut 10 (none) 4 [.ref (ad 79), .int a1, .int a2] μ none μ' := by
  unfold f_Sh_dealOut at hf
  refine ct_of (by decide) hi (Nat.le_of_ble_eq_true rfl) ?_
  intro p e s m args below meth c C
  refine g_iload_n C d_Sh_dealOut_0 rfl rfl ?_
  refine g_istore_n C d_Sh_dealOut_1 rfl (by decide) ?_
  refine g_bipush (v := -9) C d_Sh_dealOut_2 (by decide) ?_
  refine g_istore C d_Sh_dealOut_4 (by decide) ?_
  refine g_iconst (v := 0) C d_Sh_dealOut_6 (by decide) ?_
  refine g_istore C d_Sh_dealOut_7 (by decide) ?_
  refine g_iconst (v := 0) C d_Sh_dealOut_9 (by decide) ?_
  refine g_istore C d_Sh_dealOut_10 (by decide) ?_
  exact t_Sh_dealOut_L12 C N N _ _ _ _ _ _ _ ((upG (upG (upG (upG rfl rfl) rfl) rfl) rfl)) ((upG (upG (upG (upG rfl rfl) rfl) rfl) rfl)) ((upG (upG (upG upS rfl) rfl) rfl)) ((upG (upG upS rfl) rfl)) ((upG upS rfl)) upS hf
set_option maxHeartbeats 4000000 in
theorem t_Sh_gatherSharers_B77 {ad : Nat → Nat} {dA : Nat → ClassId} {D : va_G} {p : Program} {l : Launch} {e : Env} {s : State} {m : MethodId} {args : Array Value} {below : List Frame} {meth : Method} {c : Code} {μ' : Mm} (C : Cx CLS SHX ad dA D p s m args meth c c_Sh_gatherSharers 3 R_Sh (none)) (N : Nat)   (k7 : Int32 → Mm → Option Mm) (hk7 : ∀ (v1 : Int32) (μ : Mm) (lv : Nat → Option Value), lv 0 = some (.ref (ad 79)) → lv 1 = some (.int v1) → k7 v1 μ = some μ' → Go CLS SHX ad dA D p l e (rmD 1) s m args below meth c 3 none μ' 7 lv [] μ) : ∀ (v1 : Int32) (μ : Mm) (lv : Nat → Option Value), lv 0 = some (.ref (ad 79)) → lv 1 = some (.int v1) → f_Sh_gatherSharers_B77 N k7 v1 μ = some μ' → Go CLS SHX ad dA D p l e (rmD 1) s m args below meth c 3 none μ' 77 lv [] μ := by
  intro v1 μ lv hl0 hl1 hf
  unfold f_Sh_gatherSharers_B77 at hf
  refine g_iinc (v := 1) C d_Sh_gatherSharers_77 hl1 (by decide) (by decide) ?_
  refine g_goto (tgt := 7) C d_Sh_gatherSharers_80 (by decide) ?_
  exact hk7 _ _ _ ((upG hl0 rfl)) upS hf
set_option maxHeartbeats 4000000 in
theorem t_Sh_gatherSharers_L7 {ad : Nat → Nat} {dA : Nat → ClassId} {D : va_G} {p : Program} {l : Launch} {e : Env} {s : State} {m : MethodId} {args : Array Value} {below : List Frame} {meth : Method} {c : Code} {μ' : Mm} (C : Cx CLS SHX ad dA D p s m args meth c c_Sh_gatherSharers 3 R_Sh (none)) (N : Nat)   : ∀ (n : Nat) (v1 : Int32) (μ : Mm) (lv : Nat → Option Value), lv 0 = some (.ref (ad 79)) → lv 1 = some (.int v1) → f_Sh_gatherSharers_L7 N n v1 μ = some μ' → Go CLS SHX ad dA D p l e (rmD 1) s m args below meth c 3 none μ' 7 lv [] μ := by
  intro n
  induction n with
  | zero => intro v1 μ lv hl0 hl1 hf; cases (show none = some _ from hf)
  | succ n ih =>
    intro v1 μ lv hl0 hl1 hf
    unfold f_Sh_gatherSharers_L7 at hf
    refine g_iload_n C d_Sh_gatherSharers_7 rfl hl1 ?_
    refine g_aload_n C d_Sh_gatherSharers_8 rfl hl0 ?_
    refine g_getR (b := 11) (k := 3) C k_Sh (by decide) fl_Sh_32 rfl rfl d_Sh_gatherSharers_9 ?_
    refine g_getI (k := 1) C k_Cr (by decide) fl_Sh_59 rfl rfl d_Sh_gatherSharers_12 ?_
    refine g_icmp_ge (tgt := 83) C d_Sh_gatherSharers_15 (by decide) hf (fun c2 hf => ?_) (fun c2 hf => ?_)
    · exact g_vret C d_Sh_gatherSharers_83 hf
    · refine g_aload_n C d_Sh_gatherSharers_18 rfl hl0 ?_
      refine g_getI (k := 6) C k_Sh (by decide) fl_Sh_24 rfl rfl d_Sh_gatherSharers_19 ?_
      refine g_iconst (v := 5) C d_Sh_gatherSharers_22 (by decide) ?_
      refine g_icmp_ge (tgt := 83) C d_Sh_gatherSharers_23 (by decide) hf (fun c3 hf => ?_) (fun c3 hf => ?_)
      · exact g_vret C d_Sh_gatherSharers_83 hf
      · refine g_aload_n C d_Sh_gatherSharers_26 rfl hl0 ?_
        refine g_getR (b := 11) (k := 3) C k_Sh (by decide) fl_Sh_32 rfl rfl d_Sh_gatherSharers_27 ?_
        refine g_iload_n C d_Sh_gatherSharers_30 rfl hl1 ?_
        refine g_cvW C k_Cr rfl mv_Cr_get ml_Sh_64 d_Sh_gatherSharers_31 hf (fun r μ1 h => t_Cr_get C.2.2.2.2.2.2.2.2.1 h) rfl rfl (by decide) (Nat.le_of_ble_eq_true rfl) (fun r5 μ4 hf => ?_)
        obtain ⟨hw6, hf⟩ := chk8 hf
        refine g_astore_n C d_Sh_gatherSharers_34 rfl (by decide) ?_
        refine g_aload_n C d_Sh_gatherSharers_35 rfl upS ?_
        refine g_getI (k := 6) C k_Wk (by decide) fl_Sh_68 (shW _ hw6) rfl d_Sh_gatherSharers_36 ?_
        refine g_if_ne (tgt := 77) C d_Sh_gatherSharers_39 (by decide) hf (fun c7 hf => ?_) (fun c7 hf => ?_)
        · refine g_aload_n C d_Sh_gatherSharers_42 rfl upS ?_
          refine g_getI (k := 5) C k_Wk (by decide) fl_Sh_74 (shW _ hw6) rfl d_Sh_gatherSharers_43 ?_
          refine g_if_ne (tgt := 77) C d_Sh_gatherSharers_46 (by decide) hf (fun c8 hf => ?_) (fun c8 hf => ?_)
          · refine g_aload_n C d_Sh_gatherSharers_49 rfl upS ?_
            refine g_getI (k := 0) C k_Wk (by decide) fl_Sh_77 (shW _ hw6) rfl d_Sh_gatherSharers_50 ?_
            refine g_iconst (v := 3) C d_Sh_gatherSharers_53 (by decide) ?_
            refine g_icmp_eq (tgt := 77) C d_Sh_gatherSharers_54 (by decide) hf (fun c9 hf => ?_) (fun c9 hf => ?_)
            · exact t_Sh_gatherSharers_B77 C N _ ih _ _ _ ((upG hl0 rfl)) ((upG hl1 rfl)) hf
            · refine g_aload_n C d_Sh_gatherSharers_57 rfl (upG hl0 rfl) ?_
              refine g_getR (b := 82) (k := 4) C k_Sh (by decide) fl_Sh_18 rfl rfl d_Sh_gatherSharers_58 ?_
              refine g_aload_n C d_Sh_gatherSharers_61 rfl (upG hl0 rfl) ?_
              refine g_getI (k := 6) C k_Sh (by decide) fl_Sh_24 rfl rfl d_Sh_gatherSharers_62 ?_
              refine g_iload_n C d_Sh_gatherSharers_65 rfl (upG hl1 rfl) ?_
              refine g_iast C rfl d_Sh_gatherSharers_66 hf (fun hf => ?_)
              refine g_aload_n C d_Sh_gatherSharers_67 rfl (upG hl0 rfl) ?_
              refine g_dup C d_Sh_gatherSharers_68 rfl ?_
              refine g_getI (k := 6) C k_Sh (by decide) fl_Sh_24 rfl rfl d_Sh_gatherSharers_69 ?_
              refine g_iconst (v := 1) C d_Sh_gatherSharers_72 (by decide) ?_
              refine g_iadd C d_Sh_gatherSharers_73 ?_
              refine g_putI (k := 6) C k_Sh (by decide) fl_Sh_24 rfl rfl rfl rfl d_Sh_gatherSharers_74 ?_
              exact t_Sh_gatherSharers_B77 C N _ ih _ _ _ ((upG hl0 rfl)) ((upG hl1 rfl)) hf
          · exact t_Sh_gatherSharers_B77 C N _ ih _ _ _ ((upG hl0 rfl)) ((upG hl1 rfl)) hf
        · exact t_Sh_gatherSharers_B77 C N _ ih _ _ _ ((upG hl0 rfl)) ((upG hl1 rfl)) hf
set_option maxHeartbeats 4000000 in
theorem t_Sh_gatherSharers {l : Launch} {ad : Nat → Nat} {dA : Nat → ClassId} {D : va_G} (hi : Inj SHX ad) {N : Nat}   {μ μ' : Mm} (hf : f_Sh_gatherSharers N  μ = some μ') : Ct CLS l SHX ad dA D y_Sh_gatherSharers c_Sh_gatherSharers 3 (none) 1 [.ref (ad 79)] μ none μ' := by
  unfold f_Sh_gatherSharers at hf
  refine ct_of (by decide) hi (Nat.le_of_ble_eq_true rfl) ?_
  intro p e s m args below meth c C
  refine g_aload_n C d_Sh_gatherSharers_0 rfl rfl ?_
  refine g_iconst (v := 0) C d_Sh_gatherSharers_1 (by decide) ?_
  refine g_putI (k := 6) C k_Sh (by decide) fl_Sh_24 rfl rfl rfl rfl d_Sh_gatherSharers_2 ?_
  refine g_iconst (v := 0) C d_Sh_gatherSharers_5 (by decide) ?_
  refine g_istore_n C d_Sh_gatherSharers_6 rfl (by decide) ?_
  exact t_Sh_gatherSharers_L7 C N N _ _ _ ((upG rfl rfl)) upS hf
set_option maxHeartbeats 4000000 in
theorem t_Jm_min_7cf53 {CL : List vw_C} {SH : List Shp} {l : Launch} {ad : Nat → Nat} {dA : Nat → ClassId} {D : va_G} (hi : Inj SH ad) {N : Nat} {a1 : Int32} {a2 : Int32}  {μ μ' : Mm} {r : Int32} (hf : f_Jm_min_7cf53 N a1 a2 μ = some (r, μ')) : Ct CL l SH ad dA D y_Jm_min_7cf53 c_Jm_min_7cf53 2 (some .int) 0 [.int a1, .int a2] μ (some (.int r)) μ' := by
  unfold f_Jm_min_7cf53 at hf
  refine ct_ofF (by decide +kernel) hi (Nat.le_of_ble_eq_true rfl) ?_
  intro p e s m args below meth c C
  refine g_iload_n C d_Jm_min_7cf53_0 rfl rfl ?_
  refine g_iload_n C d_Jm_min_7cf53_1 rfl rfl ?_
  refine g_icmp_gt (tgt := 9) C d_Jm_min_7cf53_2 (by decide) hf (fun c1 hf => ?_) (fun c1 hf => ?_)
  · refine g_iload_n C d_Jm_min_7cf53_9 rfl rfl ?_
    exact g_iret C d_Jm_min_7cf53_10 hf
  · refine g_iload_n C d_Jm_min_7cf53_5 rfl rfl ?_
    refine g_goto (tgt := 10) C d_Jm_min_7cf53_6 (by decide) ?_
    exact g_iret C d_Jm_min_7cf53_10 hf
set_option maxHeartbeats 4000000 in
theorem t_Sh_leastWith_B75 {ad : Nat → Nat} {dA : Nat → ClassId} {D : va_G} {p : Program} {l : Launch} {e : Env} {s : State} {m : MethodId} {args : Array Value} {below : List Frame} {meth : Method} {c : Code} {r : Int32} {μ' : Mm} (C : Cx CLS SHX ad dA D p s m args meth c c_Sh_leastWith 9 R_Sh (some .int)) (N : Nat)   : ∀ (v4 : Int32) (μ : Mm) (lv : Nat → Option Value), lv 4 = some (.int v4) → f_Sh_leastWith_B75 N v4 μ = some (r, μ') → Go CLS SHX ad dA D p l e (rmD 2) s m args below meth c 9 (some (.int r)) μ' 75 lv [] μ := by
  intro v4 μ lv hl4 hf
  unfold f_Sh_leastWith_B75 at hf
  refine g_goto (tgt := 109) C d_Sh_leastWith_75 (by decide) ?_
  refine g_iload C d_Sh_leastWith_109 hl4 ?_
  exact g_iret C d_Sh_leastWith_111 hf
set_option maxHeartbeats 4000000 in
theorem t_Sh_leastWith_B45 {ad : Nat → Nat} {dA : Nat → ClassId} {D : va_G} {p : Program} {l : Launch} {e : Env} {s : State} {m : MethodId} {args : Array Value} {below : List Frame} {meth : Method} {c : Code} {r : Int32} {μ' : Mm} (C : Cx CLS SHX ad dA D p s m args meth c c_Sh_leastWith 9 R_Sh (some .int)) (N : Nat)   (k10 : Int32 → Int32 → Int32 → Int32 → Int32 → Int32 → Mm → Option (Int32 × Mm)) (hk10 : ∀ (v1 : Int32) (v2 : Int32) (v3 : Int32) (v4 : Int32) (v5 : Int32) (v6 : Int32) (μ : Mm) (lv : Nat → Option Value), lv 0 = some (.ref (ad 79)) → lv 1 = some (.int v1) → lv 2 = some (.int v2) → lv 3 = some (.int v3) → lv 4 = some (.int v4) → lv 5 = some (.int v5) → lv 6 = some (.int v6) → k10 v1 v2 v3 v4 v5 v6 μ = some (r, μ') → Go CLS SHX ad dA D p l e (rmD 2) s m args below meth c 9 (some (.int r)) μ' 10 lv [] μ) : ∀ (v1 : Int32) (v2 : Int32) (v3 : Int32) (v4 : Int32) (v5 : Int32) (v6 : Int32) (s0 : Int32) (μ : Mm) (lv : Nat → Option Value), lv 0 = some (.ref (ad 79)) → lv 1 = some (.int v1) → lv 2 = some (.int v2) → lv 3 = some (.int v3) → lv 4 = some (.int v4) → lv 5 = some (.int v5) → lv 6 = some (.int v6) → f_Sh_leastWith_B45 N k10 v1 v2 v3 v4 v5 v6 s0 μ = some (r, μ') → Go CLS SHX ad dA D p l e (rmD 2) s m args below meth c 9 (some (.int r)) μ' 45 lv [.int s0] μ := by
  intro v1 v2 v3 v4 v5 v6 s0 μ lv hl0 hl1 hl2 hl3 hl4 hl5 hl6 hf
  unfold f_Sh_leastWith_B45 at hf
  refine g_istore C d_Sh_leastWith_45 (by decide) ?_
  refine g_iload C d_Sh_leastWith_47 (upG hl5 rfl) ?_
  refine g_iload C d_Sh_leastWith_49 upS ?_
  refine g_iadd C d_Sh_leastWith_51 ?_
  refine g_istore C d_Sh_leastWith_52 (by decide) ?_
  refine g_aload_n C d_Sh_leastWith_54 rfl (upG (upG hl0 rfl) rfl) ?_
  refine g_iload_n C d_Sh_leastWith_55 rfl (upG (upG hl1 rfl) rfl) ?_
  refine g_iload C d_Sh_leastWith_56 upS ?_
  refine g_cvI C k_Sh rfl mv_Sh_timeOf ml_Sh_92 d_Sh_leastWith_58 hf (fun r μ1 h => t_Sh_timeOf C.2.2.2.2.2.2.2.2.1 h) rfl rfl (by decide) (Nat.le_of_ble_eq_true rfl) (fun r7 μ6 hf => ?_)
  refine g_istore C d_Sh_leastWith_61 (by decide) ?_
  refine g_iload C d_Sh_leastWith_63 (upG (upG upS rfl) rfl) ?_
  refine g_if_lt (tgt := 109) C d_Sh_leastWith_65 (by decide) hf (fun c8 hf => ?_) (fun c8 hf => ?_)
  · refine g_iload C d_Sh_leastWith_109 (upG (upG (upG hl4 rfl) rfl) rfl) ?_
    exact g_iret C d_Sh_leastWith_111 hf
  · refine g_iload C d_Sh_leastWith_68 upS ?_
    refine g_iload C d_Sh_leastWith_70 (upG (upG (upG hl4 rfl) rfl) rfl) ?_
    refine g_icmp_lt (tgt := 78) C d_Sh_leastWith_72 (by decide) hf (fun c9 hf => ?_) (fun c9 hf => ?_)
    · refine g_iload C d_Sh_leastWith_78 (upG (upG (upG hl4 rfl) rfl) rfl) ?_
      refine g_iload C d_Sh_leastWith_80 upS ?_
      refine g_aload_n C d_Sh_leastWith_82 rfl (upG (upG (upG hl0 rfl) rfl) rfl) ?_
      refine g_getR (b := 83) (k := 5) C k_Sh (by decide) fl_Sh_21 rfl rfl d_Sh_leastWith_83 ?_
      refine g_iload_n C d_Sh_leastWith_86 rfl (upG (upG (upG hl2 rfl) rfl) rfl) ?_
      refine g_iload C d_Sh_leastWith_87 (upG (upG (upG hl6 rfl) rfl) rfl) ?_
      refine g_iconst (v := 1) C d_Sh_leastWith_89 (by decide) ?_
      refine g_iadd C d_Sh_leastWith_90 ?_
      refine g_csI C mv_Sh_place ml_Sh_47 d_Sh_leastWith_91 hf (fun r μ1 h => t_Sh_place C.2.2.2.2.2.2.2.2.1 h) rfl rfl (by decide) (Nat.le_of_ble_eq_true rfl) (fun r11 μ10 hf => ?_)
      refine g_iald C rfl d_Sh_leastWith_94 hf (fun hf => ?_)
      refine g_csI C mv_Jm_max_7cf53 ml_Sh_95 d_Sh_leastWith_95 hf (fun r μ1 h => t_Jm_max_7cf53 C.2.2.2.2.2.2.2.2.1 h) rfl rfl (by decide) (Nat.le_of_ble_eq_true rfl) (fun r13 μ12 hf => ?_)
      refine g_csI C mv_Jm_min_7cf53 ml_Sh_84 d_Sh_leastWith_98 hf (fun r μ1 h => t_Jm_min_7cf53 C.2.2.2.2.2.2.2.2.1 h) rfl rfl (by decide) (Nat.le_of_ble_eq_true rfl) (fun r15 μ14 hf => ?_)
      refine g_istore C d_Sh_leastWith_101 (by decide) ?_
      refine g_iinc (v := 1) C d_Sh_leastWith_103 (upG (upG (upG (upG hl6 rfl) rfl) rfl) rfl) (by decide) (by decide) ?_
      refine g_goto (tgt := 10) C d_Sh_leastWith_106 (by decide) ?_
      exact hk10 _ _ _ _ _ _ _ _ ((upG (upG (upG (upG (upG hl0 rfl) rfl) rfl) rfl) rfl)) ((upG (upG (upG (upG (upG hl1 rfl) rfl) rfl) rfl) rfl)) ((upG (upG (upG (upG (upG hl2 rfl) rfl) rfl) rfl) rfl)) ((upG (upG (upG (upG (upG hl3 rfl) rfl) rfl) rfl) rfl)) ((upG upS rfl)) ((upG (upG (upG upS rfl) rfl) rfl)) upS hf
    · exact t_Sh_leastWith_B75 C N _ _ _ ((upG (upG (upG hl4 rfl) rfl) rfl)) hf
set_option maxHeartbeats 4000000 in
theorem t_Sh_leastWith_L10 {ad : Nat → Nat} {dA : Nat → ClassId} {D : va_G} {p : Program} {l : Launch} {e : Env} {s : State} {m : MethodId} {args : Array Value} {below : List Frame} {meth : Method} {c : Code} {r : Int32} {μ' : Mm} (C : Cx CLS SHX ad dA D p s m args meth c c_Sh_leastWith 9 R_Sh (some .int)) (N : Nat)   : ∀ (n : Nat) (v1 : Int32) (v2 : Int32) (v3 : Int32) (v4 : Int32) (v5 : Int32) (v6 : Int32) (μ : Mm) (lv : Nat → Option Value), lv 0 = some (.ref (ad 79)) → lv 1 = some (.int v1) → lv 2 = some (.int v2) → lv 3 = some (.int v3) → lv 4 = some (.int v4) → lv 5 = some (.int v5) → lv 6 = some (.int v6) → f_Sh_leastWith_L10 N n v1 v2 v3 v4 v5 v6 μ = some (r, μ') → Go CLS SHX ad dA D p l e (rmD 2) s m args below meth c 9 (some (.int r)) μ' 10 lv [] μ := by
  intro n
  induction n with
  | zero => intro v1 v2 v3 v4 v5 v6 μ lv hl0 hl1 hl2 hl3 hl4 hl5 hl6 hf; cases (show none = some _ from hf)
  | succ n ih =>
    intro v1 v2 v3 v4 v5 v6 μ lv hl0 hl1 hl2 hl3 hl4 hl5 hl6 hf
    unfold f_Sh_leastWith_L10 at hf
    refine g_iload C d_Sh_leastWith_10 hl6 ?_
    refine g_aload_n C d_Sh_leastWith_12 rfl hl0 ?_
    refine g_getR (b := 6) (k := 2) C k_Sh (by decide) fl_Sh_28 rfl rfl d_Sh_leastWith_13 ?_
    refine g_getI (k := 1) C k_Gr (by decide) fl_Sh_42 rfl rfl d_Sh_leastWith_16 ?_
    refine g_icmp_ge (tgt := 109) C d_Sh_leastWith_19 (by decide) hf (fun c1 hf => ?_) (fun c1 hf => ?_)
    · refine g_iload C d_Sh_leastWith_109 hl4 ?_
      exact g_iret C d_Sh_leastWith_111 hf
    · refine g_iload C d_Sh_leastWith_22 hl6 ?_
      refine g_iload_n C d_Sh_leastWith_24 rfl hl3 ?_
      refine g_icmp_le (tgt := 44) C d_Sh_leastWith_25 (by decide) hf (fun c2 hf => ?_) (fun c2 hf => ?_)
      · refine g_iconst (v := 0) C d_Sh_leastWith_44 (by decide) ?_
        exact t_Sh_leastWith_B45 C N _ ih _ _ _ _ _ _ _ _ _ hl0 hl1 hl2 hl3 hl4 hl5 hl6 hf
      · refine g_aload_n C d_Sh_leastWith_28 rfl hl0 ?_
        refine g_getR (b := 6) (k := 2) C k_Sh (by decide) fl_Sh_28 rfl rfl d_Sh_leastWith_29 ?_
        refine g_iload C d_Sh_leastWith_32 hl6 ?_
        refine g_iconst (v := 1) C d_Sh_leastWith_34 (by decide) ?_
        refine g_isub C d_Sh_leastWith_35 ?_
        refine g_iload C d_Sh_leastWith_36 hl6 ?_
        refine g_cvI C k_Gr rfl mv_Gr_lengthOf ml_Sh_89 d_Sh_leastWith_38 hf (fun r μ1 h => t_Gr_lengthOf C.2.2.2.2.2.2.2.2.1 h) rfl rfl (by decide) (Nat.le_of_ble_eq_true rfl) (fun r4 μ3 hf => ?_)
        refine g_goto (tgt := 45) C d_Sh_leastWith_41 (by decide) ?_
        exact t_Sh_leastWith_B45 C N _ ih _ _ _ _ _ _ _ _ _ hl0 hl1 hl2 hl3 hl4 hl5 hl6 hf
set_option maxHeartbeats 4000000 in
theorem t_Sh_leastWith {l : Launch} {ad : Nat → Nat} {dA : Nat → ClassId} {D : va_G} (hi : Inj SHX ad) {N : Nat} {a1 : Int32} {a2 : Int32} {a3 : Int32}  {μ μ' : Mm} {r : Int32} (hf : f_Sh_leastWith N a1 a2 a3 μ = some (r, μ')) : Ct CLS l SHX ad dA D y_Sh_leastWith c_Sh_leastWith 9 (some .int) 2 [.ref (ad 79), .int a1, .int a2, .int a3] μ (some (.int r)) μ' := by
  unfold f_Sh_leastWith at hf
  refine ct_of (by decide) hi (Nat.le_of_ble_eq_true rfl) ?_
  intro p e s m args below meth c C
  refine g_ldc C ck_Sh_54 d_Sh_leastWith_0 ?_
  refine g_istore C d_Sh_leastWith_2 (by decide) ?_
  refine g_iconst (v := 0) C d_Sh_leastWith_4 (by decide) ?_
  refine g_istore C d_Sh_leastWith_5 (by decide) ?_
  refine g_iload_n C d_Sh_leastWith_7 rfl (upG (upG rfl rfl) rfl) ?_
  refine g_istore C d_Sh_leastWith_8 (by decide) ?_
  exact t_Sh_leastWith_L10 C N N _ _ _ _ _ _ _ _ ((upG (upG (upG rfl rfl) rfl) rfl)) ((upG (upG (upG rfl rfl) rfl) rfl)) ((upG (upG (upG rfl rfl) rfl) rfl)) ((upG (upG (upG rfl rfl) rfl) rfl)) ((upG (upG upS rfl) rfl)) ((upG upS rfl)) upS hf
set_option maxHeartbeats 4000000 in
theorem t_Sh_leastOf_B44 {ad : Nat → Nat} {dA : Nat → ClassId} {D : va_G} {p : Program} {l : Launch} {e : Env} {s : State} {m : MethodId} {args : Array Value} {below : List Frame} {meth : Method} {c : Code} {r : Int32} {μ' : Mm} (C : Cx CLS SHX ad dA D p s m args meth c c_Sh_leastOf 5 R_Sh (some .int)) (N : Nat)   (k6 : Int32 → Int32 → Int32 → Int32 → Mm → Option (Int32 × Mm)) (hk6 : ∀ (v1 : Int32) (v2 : Int32) (v3 : Int32) (v4 : Int32) (μ : Mm) (lv : Nat → Option Value), lv 0 = some (.ref (ad 79)) → lv 1 = some (.int v1) → lv 2 = some (.int v2) → lv 3 = some (.int v3) → lv 4 = some (.int v4) → k6 v1 v2 v3 v4 μ = some (r, μ') → Go CLS SHX ad dA D p l e (rmD 3) s m args below meth c 5 (some (.int r)) μ' 6 lv [] μ) : ∀ (v1 : Int32) (v2 : Int32) (v3 : Int32) (v4 : Int32) (μ : Mm) (lv : Nat → Option Value), lv 0 = some (.ref (ad 79)) → lv 1 = some (.int v1) → lv 2 = some (.int v2) → lv 3 = some (.int v3) → lv 4 = some (.int v4) → f_Sh_leastOf_B44 N k6 v1 v2 v3 v4 μ = some (r, μ') → Go CLS SHX ad dA D p l e (rmD 3) s m args below meth c 5 (some (.int r)) μ' 44 lv [] μ := by
  intro v1 v2 v3 v4 μ lv hl0 hl1 hl2 hl3 hl4 hf
  unfold f_Sh_leastOf_B44 at hf
  refine g_iinc (v := 1) C d_Sh_leastOf_44 hl4 (by decide) (by decide) ?_
  refine g_goto (tgt := 6) C d_Sh_leastOf_47 (by decide) ?_
  exact hk6 _ _ _ _ _ _ ((upG hl0 rfl)) ((upG hl1 rfl)) ((upG hl2 rfl)) ((upG hl3 rfl)) upS hf
set_option maxHeartbeats 4000000 in
theorem t_Sh_leastOf_L6 {ad : Nat → Nat} {dA : Nat → ClassId} {D : va_G} {p : Program} {l : Launch} {e : Env} {s : State} {m : MethodId} {args : Array Value} {below : List Frame} {meth : Method} {c : Code} {r : Int32} {μ' : Mm} (C : Cx CLS SHX ad dA D p s m args meth c c_Sh_leastOf 5 R_Sh (some .int)) (N : Nat)   : ∀ (n : Nat) (v1 : Int32) (v2 : Int32) (v3 : Int32) (v4 : Int32) (μ : Mm) (lv : Nat → Option Value), lv 0 = some (.ref (ad 79)) → lv 1 = some (.int v1) → lv 2 = some (.int v2) → lv 3 = some (.int v3) → lv 4 = some (.int v4) → f_Sh_leastOf_L6 N n v1 v2 v3 v4 μ = some (r, μ') → Go CLS SHX ad dA D p l e (rmD 3) s m args below meth c 5 (some (.int r)) μ' 6 lv [] μ := by
  intro n
  induction n with
  | zero => intro v1 v2 v3 v4 μ lv hl0 hl1 hl2 hl3 hl4 hf; cases (show none = some _ from hf)
  | succ n ih =>
    intro v1 v2 v3 v4 μ lv hl0 hl1 hl2 hl3 hl4 hf
    unfold f_Sh_leastOf_L6 at hf
    refine g_iload C d_Sh_leastOf_6 hl4 ?_
    refine g_aload_n C d_Sh_leastOf_8 rfl hl0 ?_
    refine g_getI (k := 6) C k_Sh (by decide) fl_Sh_24 rfl rfl d_Sh_leastOf_9 ?_
    refine g_icmp_ge (tgt := 50) C d_Sh_leastOf_12 (by decide) hf (fun c1 hf => ?_) (fun c1 hf => ?_)
    · refine g_iload_n C d_Sh_leastOf_50 rfl hl3 ?_
      exact g_iret C d_Sh_leastOf_51 hf
    · refine g_iload_n C d_Sh_leastOf_15 rfl hl1 ?_
      refine g_iload C d_Sh_leastOf_16 hl4 ?_
      refine g_ishr C d_Sh_leastOf_18 ?_
      refine g_iconst (v := 1) C d_Sh_leastOf_19 (by decide) ?_
      refine g_iand C d_Sh_leastOf_20 ?_
      refine g_if_eq (tgt := 44) C d_Sh_leastOf_21 (by decide) hf (fun c2 hf => ?_) (fun c2 hf => ?_)
      · exact t_Sh_leastOf_B44 C N _ ih _ _ _ _ _ _ hl0 hl1 hl2 hl3 hl4 hf
      · refine g_iload_n C d_Sh_leastOf_24 rfl hl3 ?_
        refine g_aload_n C d_Sh_leastOf_25 rfl hl0 ?_
        refine g_iload C d_Sh_leastOf_26 hl4 ?_
        refine g_iload_n C d_Sh_leastOf_28 rfl hl1 ?_
        refine g_iconst (v := 1) C d_Sh_leastOf_29 (by decide) ?_
        refine g_iload C d_Sh_leastOf_30 hl4 ?_
        refine g_ishl C d_Sh_leastOf_32 ?_
        refine g_iconst (v := -1) C d_Sh_leastOf_33 (by decide) ?_
        refine g_ixor C d_Sh_leastOf_34 ?_
        refine g_iand C d_Sh_leastOf_35 ?_
        refine g_iload_n C d_Sh_leastOf_36 rfl hl2 ?_
        refine g_cvI C k_Sh rfl mv_Sh_leastWith ml_Sh_80 d_Sh_leastOf_37 hf (fun r μ1 h => t_Sh_leastWith C.2.2.2.2.2.2.2.2.1 h) rfl rfl (by decide) (Nat.le_of_ble_eq_true rfl) (fun r4 μ3 hf => ?_)
        refine g_csI C mv_Jm_min_7cf53 ml_Sh_84 d_Sh_leastOf_40 hf (fun r μ1 h => t_Jm_min_7cf53 C.2.2.2.2.2.2.2.2.1 h) rfl rfl (by decide) (Nat.le_of_ble_eq_true rfl) (fun r6 μ5 hf => ?_)
        refine g_istore_n C d_Sh_leastOf_43 rfl (by decide) ?_
        exact t_Sh_leastOf_B44 C N _ ih _ _ _ _ _ _ ((upG hl0 rfl)) ((upG hl1 rfl)) ((upG hl2 rfl)) upS ((upG hl4 rfl)) hf
set_option maxHeartbeats 4000000 in
theorem t_Sh_leastOf {l : Launch} {ad : Nat → Nat} {dA : Nat → ClassId} {D : va_G} (hi : Inj SHX ad) {N : Nat} {a1 : Int32} {a2 : Int32}  {μ μ' : Mm} {r : Int32} (hf : f_Sh_leastOf N a1 a2 μ = some (r, μ')) : Ct CLS l SHX ad dA D y_Sh_leastOf c_Sh_leastOf 5 (some .int) 3 [.ref (ad 79), .int a1, .int a2] μ (some (.int r)) μ' := by
  unfold f_Sh_leastOf at hf
  refine ct_of (by decide) hi (Nat.le_of_ble_eq_true rfl) ?_
  intro p e s m args below meth c C
  refine g_ldc C ck_Sh_54 d_Sh_leastOf_0 ?_
  refine g_istore_n C d_Sh_leastOf_2 rfl (by decide) ?_
  refine g_iconst (v := 0) C d_Sh_leastOf_3 (by decide) ?_
  refine g_istore C d_Sh_leastOf_4 (by decide) ?_
  exact t_Sh_leastOf_L6 C N N _ _ _ _ _ _ ((upG (upG rfl rfl) rfl)) ((upG (upG rfl rfl) rfl)) ((upG (upG rfl rfl) rfl)) ((upG upS rfl)) upS hf
