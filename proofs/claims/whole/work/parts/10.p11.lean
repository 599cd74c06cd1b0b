set_option maxHeartbeats 4000000 in
theorem t_M_layRows_B114 {ad : Nat → Nat} {dA : Nat → ClassId} {D : va_G} {p : Program} {l : Launch} {e : Env} {s : State} {m : MethodId} {args : Array Value} {below : List Frame} {meth : Method} {c : Code} {μ' : Mm} (C : Cx CLS SHM ad dA D p s m args meth c c_M_layRows 6 R_M (none)) (N : Nat)   (k72 : Int32 → Int32 → Int32 → Int32 → Int32 → Mm → Option Mm) (hk72 : ∀ (v1 : Int32) (v2 : Int32) (v3 : Int32) (v4 : Int32) (v5 : Int32) (μ : Mm) (lv : Nat → Option Value), lv 0 = some (.ref (ad 0)) → lv 1 = some (.int v1) → lv 2 = some (.int v2) → lv 3 = some (.int v3) → lv 4 = some (.int v4) → lv 5 = some (.int v5) → k72 v1 v2 v3 v4 v5 μ = some μ' → Go CLS SHM ad dA D p l e (rmD 1) s m args below meth c 6 none μ' 72 lv [] μ) : ∀ (v1 : Int32) (v2 : Int32) (v3 : Int32) (v4 : Int32) (v5 : Int32) (μ : Mm) (lv : Nat → Option Value), lv 0 = some (.ref (ad 0)) → lv 1 = some (.int v1) → lv 2 = some (.int v2) → lv 3 = some (.int v3) → lv 4 = some (.int v4) → lv 5 = some (.int v5) → f_M_layRows_B114 N k72 v1 v2 v3 v4 v5 μ = some μ' → Go CLS SHM ad dA D p l e (rmD 1) s m args below meth c 6 none μ' 114 lv [] μ := by
  intro v1 v2 v3 v4 v5 μ lv hl0 hl1 hl2 hl3 hl4 hl5 hf
  unfold f_M_layRows_B114 at hf
  refine g_iinc (v := 1) C d_M_layRows_114 hl5 (by decide) (by decide) ?_
  refine g_goto (tgt := 72) C d_M_layRows_117 (by decide) ?_
  exact hk72 _ _ _ _ _ _ _ ((upG hl0 rfl)) ((upG hl1 rfl)) ((upG hl2 rfl)) ((upG hl3 rfl)) ((upG hl4 rfl)) upS hf
set_option maxHeartbeats 4000000 in
theorem t_M_layRows_L72 {ad : Nat → Nat} {dA : Nat → ClassId} {D : va_G} {p : Program} {l : Launch} {e : Env} {s : State} {m : MethodId} {args : Array Value} {below : List Frame} {meth : Method} {c : Code} {μ' : Mm} (C : Cx CLS SHM ad dA D p s m args meth c c_M_layRows 6 R_M (none)) (N : Nat)   : ∀ (n : Nat) (v1 : Int32) (v2 : Int32) (v3 : Int32) (v4 : Int32) (v5 : Int32) (μ : Mm) (lv : Nat → Option Value), lv 0 = some (.ref (ad 0)) → lv 1 = some (.int v1) → lv 2 = some (.int v2) → lv 3 = some (.int v3) → lv 4 = some (.int v4) → lv 5 = some (.int v5) → f_M_layRows_L72 N n v1 v2 v3 v4 v5 μ = some μ' → Go CLS SHM ad dA D p l e (rmD 1) s m args below meth c 6 none μ' 72 lv [] μ := by
  intro n
  induction n with
  | zero => intro v1 v2 v3 v4 v5 μ lv hl0 hl1 hl2 hl3 hl4 hl5 hf; cases (show none = some _ from hf)
  | succ n ih =>
    intro v1 v2 v3 v4 v5 μ lv hl0 hl1 hl2 hl3 hl4 hl5 hf
    unfold f_M_layRows_L72 at hf
    refine g_iload C d_M_layRows_72 hl5 ?_
    refine g_iload_n C d_M_layRows_74 rfl hl3 ?_
    refine g_aload_n C d_M_layRows_75 rfl hl0 ?_
    refine g_getI (k := 31) C k_M (by decide) fl_M_217 rfl rfl d_M_layRows_76 ?_
    refine g_iadd C d_M_layRows_79 ?_
    refine g_icmp_gt (tgt := 120) C d_M_layRows_80 (by decide) hf (fun c13 hf => ?_) (fun c13 hf => ?_)
    · exact g_vret C d_M_layRows_120 hf
    · refine g_aload_n C d_M_layRows_83 rfl hl0 ?_
      refine g_iload_n C d_M_layRows_84 rfl hl1 ?_
      refine g_iload C d_M_layRows_85 hl5 ?_
      refine g_cvI C k_M rfl mv_M_isSeen ml_M_246 d_M_layRows_87 hf (fun r μ1 h => t_M_isSeen C.2.2.2.2.2.2.2.2.1 h) rfl rfl (by decide) (Nat.le_of_ble_eq_true rfl) (fun r15 μ14 hf => ?_)
      refine g_if_eq (tgt := 111) C d_M_layRows_90 (by decide) hf (fun c16 hf => ?_) (fun c16 hf => ?_)
      · refine g_iinc (v := 1) C d_M_layRows_111 hl4 (by decide) (by decide) ?_
        exact t_M_layRows_B114 C N _ ih _ _ _ _ _ _ _ ((upG hl0 rfl)) ((upG hl1 rfl)) ((upG hl2 rfl)) ((upG hl3 rfl)) upS ((upG hl5 rfl)) hf
      · refine g_aload_n C d_M_layRows_93 rfl hl0 ?_
        refine g_iload C d_M_layRows_94 hl4 ?_
        refine g_iload C d_M_layRows_96 hl5 ?_
        refine g_iload C d_M_layRows_98 hl4 ?_
        refine g_isub C d_M_layRows_100 ?_
        refine g_iload_n C d_M_layRows_101 rfl hl2 ?_
        refine g_cvV C k_M rfl mv_M_closeRow ml_M_250 d_M_layRows_102 hf (fun μ1 h => t_M_closeRow C.2.2.2.2.2.2.2.2.1 h) rfl rfl (by decide) (Nat.le_of_ble_eq_true rfl) (fun μ18 hf => ?_)
        refine g_iconst (v := 0) C d_M_layRows_105 (by decide) ?_
        refine g_istore C d_M_layRows_106 (by decide) ?_
        refine g_goto (tgt := 114) C d_M_layRows_108 (by decide) ?_
        exact t_M_layRows_B114 C N _ ih _ _ _ _ _ _ _ ((upG hl0 rfl)) ((upG hl1 rfl)) ((upG hl2 rfl)) ((upG hl3 rfl)) upS ((upG hl5 rfl)) hf
set_option maxHeartbeats 4000000 in
theorem t_M_layRows_B41 {ad : Nat → Nat} {dA : Nat → ClassId} {D : va_G} {p : Program} {l : Launch} {e : Env} {s : State} {m : MethodId} {args : Array Value} {below : List Frame} {meth : Method} {c : Code} {μ' : Mm} (C : Cx CLS SHM ad dA D p s m args meth c c_M_layRows 6 R_M (none)) (N : Nat)   : ∀ (v1 : Int32) (v2 : Int32) (v3 : Int32) (μ : Mm) (lv : Nat → Option Value), lv 0 = some (.ref (ad 0)) → lv 1 = some (.int v1) → lv 2 = some (.int v2) → lv 3 = some (.int v3) → f_M_layRows_B41 N v1 v2 v3 μ = some μ' → Go CLS SHM ad dA D p l e (rmD 1) s m args below meth c 6 none μ' 41 lv [] μ := by
  intro v1 v2 v3 μ lv hl0 hl1 hl2 hl3 hf
  unfold f_M_layRows_B41 at hf
  refine g_iload_n C d_M_layRows_41 rfl hl3 ?_
  refine g_aload_n C d_M_layRows_42 rfl hl0 ?_
  refine g_getI (k := 31) C k_M (by decide) fl_M_217 rfl rfl d_M_layRows_43 ?_
  refine g_icmp_ne (tgt := 64) C d_M_layRows_46 (by decide) hf (fun c9 hf => ?_) (fun c9 hf => ?_)
  · refine g_aload_n C d_M_layRows_49 rfl hl0 ?_
    refine g_bipush (v := -9) C d_M_layRows_50 (by decide) ?_
    refine g_putI (k := 33) C k_M (by decide) fl_M_237 rfl rfl rfl rfl d_M_layRows_52 ?_
    refine g_aload_n C d_M_layRows_55 rfl hl0 ?_
    refine g_aload_n C d_M_layRows_56 rfl hl0 ?_
    refine g_getI (k := 31) C k_M (by decide) fl_M_217 rfl rfl d_M_layRows_57 ?_
    refine g_putI (k := 35) C k_M (by decide) fl_M_243 rfl rfl rfl rfl d_M_layRows_60 ?_
    exact g_vret C d_M_layRows_63 hf
  · refine g_iconst (v := 0) C d_M_layRows_64 (by decide) ?_
    refine g_istore C d_M_layRows_65 (by decide) ?_
    refine g_iload_n C d_M_layRows_67 rfl (upG hl3 rfl) ?_
    refine g_iconst (v := 1) C d_M_layRows_68 (by decide) ?_
    refine g_iadd C d_M_layRows_69 ?_
    refine g_istore C d_M_layRows_70 (by decide) ?_
    exact t_M_layRows_L72 C N N _ _ _ _ _ _ _ ((upG (upG hl0 rfl) rfl)) ((upG (upG hl1 rfl) rfl)) ((upG (upG hl2 rfl) rfl)) ((upG (upG hl3 rfl) rfl)) ((upG upS rfl)) upS hf
set_option maxHeartbeats 4000000 in
theorem t_M_layRows_L18 {ad : Nat → Nat} {dA : Nat → ClassId} {D : va_G} {p : Program} {l : Launch} {e : Env} {s : State} {m : MethodId} {args : Array Value} {below : List Frame} {meth : Method} {c : Code} {μ' : Mm} (C : Cx CLS SHM ad dA D p s m args meth c c_M_layRows 6 R_M (none)) (N : Nat)   : ∀ (n : Nat) (v1 : Int32) (v2 : Int32) (v3 : Int32) (μ : Mm) (lv : Nat → Option Value), lv 0 = some (.ref (ad 0)) → lv 1 = some (.int v1) → lv 2 = some (.int v2) → lv 3 = some (.int v3) → f_M_layRows_L18 N n v1 v2 v3 μ = some μ' → Go CLS SHM ad dA D p l e (rmD 1) s m args below meth c 6 none μ' 18 lv [] μ := by
  intro n
  induction n with
  | zero => intro v1 v2 v3 μ lv hl0 hl1 hl2 hl3 hf; cases (show none = some _ from hf)
  | succ n ih =>
    intro v1 v2 v3 μ lv hl0 hl1 hl2 hl3 hf
    unfold f_M_layRows_L18 at hf
    refine g_iload_n C d_M_layRows_18 rfl hl3 ?_
    refine g_aload_n C d_M_layRows_19 rfl hl0 ?_
    refine g_getI (k := 31) C k_M (by decide) fl_M_217 rfl rfl d_M_layRows_20 ?_
    refine g_icmp_ge (tgt := 41) C d_M_layRows_23 (by decide) hf (fun c4 hf => ?_) (fun c4 hf => ?_)
    · exact t_M_layRows_B41 C N _ _ _ _ _ hl0 hl1 hl2 hl3 hf
    · refine g_aload_n C d_M_layRows_26 rfl hl0 ?_
      refine g_iload_n C d_M_layRows_27 rfl hl1 ?_
      refine g_iload_n C d_M_layRows_28 rfl hl3 ?_
      refine g_cvI C k_M rfl mv_M_isSeen ml_M_246 d_M_layRows_29 hf (fun r μ1 h => t_M_isSeen C.2.2.2.2.2.2.2.2.1 h) rfl rfl (by decide) (Nat.le_of_ble_eq_true rfl) (fun r6 μ5 hf => ?_)
      refine g_if_ne (tgt := 41) C d_M_layRows_32 (by decide) hf (fun c7 hf => ?_) (fun c7 hf => ?_)
      · refine g_iinc (v := 1) C d_M_layRows_35 hl3 (by decide) (by decide) ?_
        refine g_goto (tgt := 18) C d_M_layRows_38 (by decide) ?_
        exact ih _ _ _ _ _ ((upG hl0 rfl)) ((upG hl1 rfl)) ((upG hl2 rfl)) upS hf
      · exact t_M_layRows_B41 C N _ _ _ _ _ hl0 hl1 hl2 hl3 hf
set_option maxHeartbeats 4000000 in
theorem t_M_layRows {l : Launch} {ad : Nat → Nat} {dA : Nat → ClassId} {D : va_G} (hi : Inj SHM ad) {N : Nat} {a1 : Int32} {a2 : Int32}  {μ μ' : Mm} (hf : f_M_layRows N a1 a2 μ = some μ') : Ct CLS l SHM ad dA D y_M_layRows c_M_layRows 6 (none) 1 [.ref (ad 0), .int a1, .int a2] μ none μ' := by
  unfold f_M_layRows at hf
  refine ct_of (by decide) hi (Nat.le_of_ble_eq_true rfl) ?_
  intro p e s m args below meth c C
  refine g_aload_n C d_M_layRows_0 rfl rfl ?_
  refine g_iconst (v := 0) C d_M_layRows_1 (by decide) ?_
  refine g_putI (k := 33) C k_M (by decide) fl_M_237 rfl rfl rfl rfl d_M_layRows_2 ?_
  refine g_aload_n C d_M_layRows_5 rfl rfl ?_
  refine g_bipush (v := -9) C d_M_layRows_6 (by decide) ?_
  refine g_putI (k := 34) C k_M (by decide) fl_M_240 rfl rfl rfl rfl d_M_layRows_8 ?_
  refine g_aload_n C d_M_layRows_11 rfl rfl ?_
  refine g_iconst (v := 0) C d_M_layRows_12 (by decide) ?_
  refine g_putI (k := 35) C k_M (by decide) fl_M_243 rfl rfl rfl rfl d_M_layRows_13 ?_
  refine g_iconst (v := 0) C d_M_layRows_16 (by decide) ?_
  refine g_istore_n C d_M_layRows_17 rfl (by decide) ?_
  exact t_M_layRows_L18 C N N _ _ _ _ _ ((upG rfl rfl)) ((upG rfl rfl)) ((upG rfl rfl)) upS hf
set_option maxHeartbeats 4000000 in
theorem t_M_idle {l : Launch} {ad : Nat → Nat} {dA : Nat → ClassId} {D : va_G} (hi : Inj SHM ad) {N : Nat} {a1 : Int32}  {μ μ' : Mm} {r : Int32} (hf : f_M_idle N a1 μ = some (r, μ')) : Ct CLS l SHM ad dA D y_M_idle c_M_idle 2 (some .int) 7 [.ref (ad 0), .int a1] μ (some (.int r)) μ' := by
  unfold f_M_idle at hf
  refine ct_of (by decide) hi (Nat.le_of_ble_eq_true rfl) ?_
  intro p e s m args below meth c C
  refine g_aload_n C d_M_idle_0 rfl rfl ?_
  refine g_iload_n C d_M_idle_1 rfl rfl ?_
  refine g_cvI C k_M rfl mv_M_isPost ml_M_151 d_M_idle_2 hf (fun r μ1 h => t_M_isPost C.2.2.2.2.2.2.2.2.1 h) rfl rfl (by decide) (Nat.le_of_ble_eq_true rfl) (fun r2 μ1 hf => ?_)
  refine g_if_ne (tgt := 10) C d_M_idle_5 (by decide) hf (fun c3 hf => ?_) (fun c3 hf => ?_)
  · refine g_iconst (v := -1) C d_M_idle_8 (by decide) ?_
    exact g_iret C d_M_idle_9 hf
  · refine g_aload_n C d_M_idle_10 rfl rfl ?_
    refine g_cvI C k_M rfl mv_M_laySeen ml_M_231 d_M_idle_11 hf (fun r μ1 h => t_M_laySeen C.2.2.2.2.2.2.2.2.1 h) rfl rfl (by decide) (Nat.le_of_ble_eq_true rfl) (fun r5 μ4 hf => ?_)
    refine g_if_ne (tgt := 20) C d_M_idle_14 (by decide) hf (fun c6 hf => ?_) (fun c6 hf => ?_)
    · refine g_bipush (v := -6) C d_M_idle_17 (by decide) ?_
      exact g_iret C d_M_idle_19 hf
    · refine g_aload_n C d_M_idle_20 rfl rfl ?_
      refine g_iload_n C d_M_idle_21 rfl rfl ?_
      refine g_iconst (v := 1) C d_M_idle_22 (by decide) ?_
      refine g_cvV C k_M rfl mv_M_layRows ml_M_253 d_M_idle_23 hf (fun μ1 h => t_M_layRows C.2.2.2.2.2.2.2.2.1 h) rfl rfl (by decide) (Nat.le_of_ble_eq_true rfl) (fun μ7 hf => ?_)
      refine g_aload_n C d_M_idle_26 rfl rfl ?_
      refine g_getI (k := 33) C k_M (by decide) fl_M_237 rfl rfl d_M_idle_27 ?_
      exact g_iret C d_M_idle_30 hf
set_option maxHeartbeats 4000000 in
theorem t_M_idleFrom {l : Launch} {ad : Nat → Nat} {dA : Nat → ClassId} {D : va_G} (hi : Inj SHM ad) {N : Nat} {a1 : Int32}  {μ μ' : Mm} {r : Int32} (hf : f_M_idleFrom N a1 μ = some (r, μ')) : Ct CLS l SHM ad dA D y_M_idleFrom c_M_idleFrom 2 (some .int) 7 [.ref (ad 0), .int a1] μ (some (.int r)) μ' := by
  unfold f_M_idleFrom at hf
  refine ct_of (by decide) hi (Nat.le_of_ble_eq_true rfl) ?_
  intro p e s m args below meth c C
  refine g_aload_n C d_M_idleFrom_0 rfl rfl ?_
  refine g_iload_n C d_M_idleFrom_1 rfl rfl ?_
  refine g_cvI C k_M rfl mv_M_isPost ml_M_151 d_M_idleFrom_2 hf (fun r μ1 h => t_M_isPost C.2.2.2.2.2.2.2.2.1 h) rfl rfl (by decide) (Nat.le_of_ble_eq_true rfl) (fun r2 μ1 hf => ?_)
  refine g_if_ne (tgt := 10) C d_M_idleFrom_5 (by decide) hf (fun c3 hf => ?_) (fun c3 hf => ?_)
  · refine g_iconst (v := -1) C d_M_idleFrom_8 (by decide) ?_
    exact g_iret C d_M_idleFrom_9 hf
  · refine g_aload_n C d_M_idleFrom_10 rfl rfl ?_
    refine g_cvI C k_M rfl mv_M_laySeen ml_M_231 d_M_idleFrom_11 hf (fun r μ1 h => t_M_laySeen C.2.2.2.2.2.2.2.2.1 h) rfl rfl (by decide) (Nat.le_of_ble_eq_true rfl) (fun r5 μ4 hf => ?_)
    refine g_if_ne (tgt := 20) C d_M_idleFrom_14 (by decide) hf (fun c6 hf => ?_) (fun c6 hf => ?_)
    · refine g_bipush (v := -6) C d_M_idleFrom_17 (by decide) ?_
      exact g_iret C d_M_idleFrom_19 hf
    · refine g_aload_n C d_M_idleFrom_20 rfl rfl ?_
      refine g_iload_n C d_M_idleFrom_21 rfl rfl ?_
      refine g_iconst (v := 1) C d_M_idleFrom_22 (by decide) ?_
      refine g_cvV C k_M rfl mv_M_layRows ml_M_253 d_M_idleFrom_23 hf (fun μ1 h => t_M_layRows C.2.2.2.2.2.2.2.2.1 h) rfl rfl (by decide) (Nat.le_of_ble_eq_true rfl) (fun μ7 hf => ?_)
      refine g_aload_n C d_M_idleFrom_26 rfl rfl ?_
      refine g_getI (k := 34) C k_M (by decide) fl_M_240 rfl rfl d_M_idleFrom_27 ?_
      exact g_iret C d_M_idleFrom_30 hf
set_option maxHeartbeats 4000000 in
theorem t_M_layWorst_B115 {ad : Nat → Nat} {dA : Nat → ClassId} {D : va_G} {p : Program} {l : Launch} {e : Env} {s : State} {m : MethodId} {args : Array Value} {below : List Frame} {meth : Method} {c : Code} {μ' : Mm} (C : Cx CLS SHM ad dA D p s m args meth c c_M_layWorst 2 R_M (none)) (N : Nat)   (k13 : Int32 → Mm → Option Mm) (hk13 : ∀ (v1 : Int32) (μ : Mm) (lv : Nat → Option Value), lv 0 = some (.ref (ad 0)) → lv 1 = some (.int v1) → k13 v1 μ = some μ' → Go CLS SHM ad dA D p l e (rmD 2) s m args below meth c 2 none μ' 13 lv [] μ) : ∀ (v1 : Int32) (μ : Mm) (lv : Nat → Option Value), lv 0 = some (.ref (ad 0)) → lv 1 = some (.int v1) → f_M_layWorst_B115 N k13 v1 μ = some μ' → Go CLS SHM ad dA D p l e (rmD 2) s m args below meth c 2 none μ' 115 lv [] μ := by
  intro v1 μ lv hl0 hl1 hf
  unfold f_M_layWorst_B115 at hf
  refine g_iinc (v := 1) C d_M_layWorst_115 hl1 (by decide) (by decide) ?_
  refine g_goto (tgt := 13) C d_M_layWorst_118 (by decide) ?_
  exact hk13 _ _ _ ((upG hl0 rfl)) upS hf
set_option maxHeartbeats 4000000 in
theorem t_M_layWorst_B95 {ad : Nat → Nat} {dA : Nat → ClassId} {D : va_G} {p : Program} {l : Launch} {e : Env} {s : State} {m : MethodId} {args : Array Value} {below : List Frame} {meth : Method} {c : Code} {μ' : Mm} (C : Cx CLS SHM ad dA D p s m args meth c c_M_layWorst 2 R_M (none)) (N : Nat)   (k13 : Int32 → Mm → Option Mm) (hk13 : ∀ (v1 : Int32) (μ : Mm) (lv : Nat → Option Value), lv 0 = some (.ref (ad 0)) → lv 1 = some (.int v1) → k13 v1 μ = some μ' → Go CLS SHM ad dA D p l e (rmD 2) s m args below meth c 2 none μ' 13 lv [] μ) : ∀ (v1 : Int32) (μ : Mm) (lv : Nat → Option Value), lv 0 = some (.ref (ad 0)) → lv 1 = some (.int v1) → f_M_layWorst_B95 N k13 v1 μ = some μ' → Go CLS SHM ad dA D p l e (rmD 2) s m args below meth c 2 none μ' 95 lv [] μ := by
  intro v1 μ lv hl0 hl1 hf
  unfold f_M_layWorst_B95 at hf
  refine g_aload_n C d_M_layWorst_95 rfl hl0 ?_
  refine g_iload_n C d_M_layWorst_96 rfl hl1 ?_
  refine g_putI (k := 36) C k_M (by decide) fl_M_256 rfl rfl rfl rfl d_M_layWorst_97 ?_
  refine g_aload_n C d_M_layWorst_100 rfl hl0 ?_
  refine g_aload_n C d_M_layWorst_101 rfl hl0 ?_
  refine g_getR (b := 7) (k := 12) C k_M (by decide) fl_M_30 rfl rfl d_M_layWorst_102 ?_
  refine g_iload_n C d_M_layWorst_105 rfl hl1 ?_
  refine g_iald C rfl d_M_layWorst_106 hf (fun hf => ?_)
  refine g_aload_n C d_M_layWorst_107 rfl hl0 ?_
  refine g_getI (k := 33) C k_M (by decide) fl_M_237 rfl rfl d_M_layWorst_108 ?_
  refine g_imul C d_M_layWorst_111 ?_
  refine g_putI (k := 37) C k_M (by decide) fl_M_259 rfl rfl rfl rfl d_M_layWorst_112 ?_
  exact t_M_layWorst_B115 C N _ hk13 _ _ _ hl0 hl1 hf
set_option maxHeartbeats 4000000 in
theorem t_M_layWorst_L13 {ad : Nat → Nat} {dA : Nat → ClassId} {D : va_G} {p : Program} {l : Launch} {e : Env} {s : State} {m : MethodId} {args : Array Value} {below : List Frame} {meth : Method} {c : Code} {μ' : Mm} (C : Cx CLS SHM ad dA D p s m args meth c c_M_layWorst 2 R_M (none)) (N : Nat)   : ∀ (n : Nat) (v1 : Int32) (μ : Mm) (lv : Nat → Option Value), lv 0 = some (.ref (ad 0)) → lv 1 = some (.int v1) → f_M_layWorst_L13 N n v1 μ = some μ' → Go CLS SHM ad dA D p l e (rmD 2) s m args below meth c 2 none μ' 13 lv [] μ := by
  intro n
  induction n with
  | zero => intro v1 μ lv hl0 hl1 hf; cases (show none = some _ from hf)
  | succ n ih =>
    intro v1 μ lv hl0 hl1 hf
    unfold f_M_layWorst_L13 at hf
    refine g_iload_n C d_M_layWorst_13 rfl hl1 ?_
    refine g_aload_n C d_M_layWorst_14 rfl hl0 ?_
    refine g_getI (k := 9) C k_M (by decide) fl_M_111 rfl rfl d_M_layWorst_15 ?_
    refine g_icmp_ge (tgt := 121) C d_M_layWorst_18 (by decide) hf (fun c3 hf => ?_) (fun c3 hf => ?_)
    · exact g_vret C d_M_layWorst_121 hf
    · refine g_aload_n C d_M_layWorst_21 rfl hl0 ?_
      refine g_getR (b := 7) (k := 12) C k_M (by decide) fl_M_30 rfl rfl d_M_layWorst_22 ?_
      refine g_iload_n C d_M_layWorst_25 rfl hl1 ?_
      refine g_iald C rfl d_M_layWorst_26 hf (fun hf => ?_)
      refine g_if_le (tgt := 115) C d_M_layWorst_27 (by decide) hf (fun c4 hf => ?_) (fun c4 hf => ?_)
      · exact t_M_layWorst_B115 C N _ ih _ _ _ hl0 hl1 hf
      · refine g_aload_n C d_M_layWorst_30 rfl hl0 ?_
        refine g_getI (k := 37) C k_M (by decide) fl_M_259 rfl rfl d_M_layWorst_31 ?_
        refine g_bipush (v := -9) C d_M_layWorst_34 (by decide) ?_
        refine g_icmp_eq (tgt := 115) C d_M_layWorst_36 (by decide) hf (fun c5 hf => ?_) (fun c5 hf => ?_)
        · exact t_M_layWorst_B115 C N _ ih _ _ _ hl0 hl1 hf
        · refine g_aload_n C d_M_layWorst_39 rfl hl0 ?_
          refine g_iload_n C d_M_layWorst_40 rfl hl1 ?_
          refine g_iconst (v := 1) C d_M_layWorst_41 (by decide) ?_
          refine g_cvV C k_M rfl mv_M_layRows ml_M_253 d_M_layWorst_42 hf (fun μ1 h => t_M_layRows C.2.2.2.2.2.2.2.2.1 h) rfl rfl (by decide) (Nat.le_of_ble_eq_true rfl) (fun μ6 hf => ?_)
          refine g_aload_n C d_M_layWorst_45 rfl hl0 ?_
          refine g_getI (k := 33) C k_M (by decide) fl_M_237 rfl rfl d_M_layWorst_46 ?_
          refine g_bipush (v := -9) C d_M_layWorst_49 (by decide) ?_
          refine g_icmp_ne (tgt := 68) C d_M_layWorst_51 (by decide) hf (fun c7 hf => ?_) (fun c7 hf => ?_)
          · refine g_aload_n C d_M_layWorst_54 rfl hl0 ?_
            refine g_iload_n C d_M_layWorst_55 rfl hl1 ?_
            refine g_putI (k := 36) C k_M (by decide) fl_M_256 rfl rfl rfl rfl d_M_layWorst_56 ?_
            refine g_aload_n C d_M_layWorst_59 rfl hl0 ?_
            refine g_bipush (v := -9) C d_M_layWorst_60 (by decide) ?_
            refine g_putI (k := 37) C k_M (by decide) fl_M_259 rfl rfl rfl rfl d_M_layWorst_62 ?_
            refine g_goto (tgt := 115) C d_M_layWorst_65 (by decide) ?_
            exact t_M_layWorst_B115 C N _ ih _ _ _ hl0 hl1 hf
          · refine g_aload_n C d_M_layWorst_68 rfl hl0 ?_
            refine g_getI (k := 36) C k_M (by decide) fl_M_256 rfl rfl d_M_layWorst_69 ?_
            refine g_bipush (v := -9) C d_M_layWorst_72 (by decide) ?_
            refine g_icmp_eq (tgt := 95) C d_M_layWorst_74 (by decide) hf (fun c10 hf => ?_) (fun c10 hf => ?_)
            · exact t_M_layWorst_B95 C N _ ih _ _ _ hl0 hl1 hf
            · refine g_aload_n C d_M_layWorst_77 rfl hl0 ?_
              refine g_getR (b := 7) (k := 12) C k_M (by decide) fl_M_30 rfl rfl d_M_layWorst_78 ?_
              refine g_iload_n C d_M_layWorst_81 rfl hl1 ?_
              refine g_iald C rfl d_M_layWorst_82 hf (fun hf => ?_)
              refine g_aload_n C d_M_layWorst_83 rfl hl0 ?_
              refine g_getI (k := 33) C k_M (by decide) fl_M_237 rfl rfl d_M_layWorst_84 ?_
              refine g_imul C d_M_layWorst_87 ?_
              refine g_aload_n C d_M_layWorst_88 rfl hl0 ?_
              refine g_getI (k := 37) C k_M (by decide) fl_M_259 rfl rfl d_M_layWorst_89 ?_
              refine g_icmp_le (tgt := 115) C d_M_layWorst_92 (by decide) hf (fun c11 hf => ?_) (fun c11 hf => ?_)
              · exact t_M_layWorst_B115 C N _ ih _ _ _ hl0 hl1 hf
              · exact t_M_layWorst_B95 C N _ ih _ _ _ hl0 hl1 hf
set_option maxHeartbeats 4000000 in
theorem t_M_layWorst {l : Launch} {ad : Nat → Nat} {dA : Nat → ClassId} {D : va_G} (hi : Inj SHM ad) {N : Nat}   {μ μ' : Mm} (hf : f_M_layWorst N  μ = some μ') : Ct CLS l SHM ad dA D y_M_layWorst c_M_layWorst 2 (none) 2 [.ref (ad 0)] μ none μ' := by
  unfold f_M_layWorst at hf
  refine ct_of (by decide) hi (Nat.le_of_ble_eq_true rfl) ?_
  intro p e s m args below meth c C
  refine g_aload_n C d_M_layWorst_0 rfl rfl ?_
  refine g_bipush (v := -9) C d_M_layWorst_1 (by decide) ?_
  refine g_putI (k := 36) C k_M (by decide) fl_M_256 rfl rfl rfl rfl d_M_layWorst_3 ?_
  refine g_aload_n C d_M_layWorst_6 rfl rfl ?_
  refine g_iconst (v := 0) C d_M_layWorst_7 (by decide) ?_
  refine g_putI (k := 37) C k_M (by decide) fl_M_259 rfl rfl rfl rfl d_M_layWorst_8 ?_
  refine g_iconst (v := 0) C d_M_layWorst_11 (by decide) ?_
  refine g_istore_n C d_M_layWorst_12 rfl (by decide) ?_
  exact t_M_layWorst_L13 C N N _ _ _ ((upG rfl rfl)) upS hf
set_option maxHeartbeats 4000000 in
theorem t_M_worst {l : Launch} {ad : Nat → Nat} {dA : Nat → ClassId} {D : va_G} (hi : Inj SHM ad) {N : Nat}   {μ μ' : Mm} {r : Int32} (hf : f_M_worst N  μ = some (r, μ')) : Ct CLS l SHM ad dA D y_M_worst c_M_worst 1 (some .int) 7 [.ref (ad 0)] μ (some (.int r)) μ' := by
  unfold f_M_worst at hf
  refine ct_of (by decide) hi (Nat.le_of_ble_eq_true rfl) ?_
  intro p e s m args below meth c C
  refine g_aload_n C d_M_worst_0 rfl rfl ?_
  refine g_cvI C k_M rfl mv_M_laySeen ml_M_231 d_M_worst_1 hf (fun r μ1 h => t_M_laySeen C.2.2.2.2.2.2.2.2.1 h) rfl rfl (by decide) (Nat.le_of_ble_eq_true rfl) (fun r2 μ1 hf => ?_)
  refine g_if_ne (tgt := 10) C d_M_worst_4 (by decide) hf (fun c3 hf => ?_) (fun c3 hf => ?_)
  · refine g_bipush (v := -6) C d_M_worst_7 (by decide) ?_
    exact g_iret C d_M_worst_9 hf
  · refine g_aload_n C d_M_worst_10 rfl rfl ?_
    refine g_cvV C k_M rfl mv_M_layWorst ml_M_262 d_M_worst_11 hf (fun μ1 h => t_M_layWorst C.2.2.2.2.2.2.2.2.1 h) rfl rfl (by decide) (Nat.le_of_ble_eq_true rfl) (fun μ4 hf => ?_)
    refine g_aload_n C d_M_worst_14 rfl rfl ?_
    refine g_getI (k := 36) C k_M (by decide) fl_M_256 rfl rfl d_M_worst_15 ?_
    refine g_bipush (v := -9) C d_M_worst_18 (by decide) ?_
    refine g_icmp_ne (tgt := 28) C d_M_worst_20 (by decide) hf (fun c5 hf => ?_) (fun c5 hf => ?_)
    · refine g_bipush (v := -9) C d_M_worst_23 (by decide) ?_
      refine g_goto (tgt := 40) C d_M_worst_25 (by decide) ?_
      exact g_iret C d_M_worst_40 hf
    · refine g_aload_n C d_M_worst_28 rfl rfl ?_
      refine g_aload_n C d_M_worst_29 rfl rfl ?_
      refine g_getI (k := 37) C k_M (by decide) fl_M_259 rfl rfl d_M_worst_30 ?_
      refine g_aload_n C d_M_worst_33 rfl rfl ?_
      refine g_getI (k := 36) C k_M (by decide) fl_M_256 rfl rfl d_M_worst_34 ?_
      refine g_cvI C k_M rfl mv_M_tells ml_M_234 d_M_worst_37 hf (fun r μ1 h => t_M_tells C.2.2.2.2.2.2.2.2.1 h) rfl rfl (by decide) (Nat.le_of_ble_eq_true rfl) (fun r7 μ6 hf => ?_)
      exact g_iret C d_M_worst_40 hf
set_option maxHeartbeats 4000000 in
theorem t_M_share_B55 {ad : Nat → Nat} {dA : Nat → ClassId} {D : va_G} {p : Program} {l : Launch} {e : Env} {s : State} {m : MethodId} {args : Array Value} {below : List Frame} {meth : Method} {c : Code} {r : Int32} {μ' : Mm} (C : Cx CLS SHM ad dA D p s m args meth c c_M_share 4 R_M (some .int)) (N : Nat)   : ∀ (v2 : Int32) (μ : Mm) (lv : Nat → Option Value), lv 0 = some (.ref (ad 0)) → lv 2 = some (.int v2) → f_M_share_B55 N v2 μ = some (r, μ') → Go CLS SHM ad dA D p l e (rmD 7) s m args below meth c 4 (some (.int r)) μ' 55 lv [] μ := by
  intro v2 μ lv hl0 hl2 hf
  unfold f_M_share_B55 at hf
  refine g_aload_n C d_M_share_55 rfl hl0 ?_
  refine g_iload_n C d_M_share_56 rfl hl2 ?_
  refine g_i2l C d_M_share_57 ?_
  refine g_aload_n C d_M_share_58 rfl hl0 ?_
  refine g_getI (k := 31) C k_M (by decide) fl_M_217 rfl rfl d_M_share_59 ?_
  refine g_i2l C d_M_share_62 ?_
  refine g_iconst (v := 1) C d_M_share_63 (by decide) ?_
  refine g_cvI C k_M rfl mv_M_fraction ml_M_265 d_M_share_64 hf (fun r μ1 h => t_M_fraction C.2.2.2.2.2.2.2.2.1 h) rfl rfl (by decide) (Nat.le_of_ble_eq_true rfl) (fun r14 μ13 hf => ?_)
  exact g_iret C d_M_share_67 hf
set_option maxHeartbeats 4000000 in
theorem t_M_share_B47 {ad : Nat → Nat} {dA : Nat → ClassId} {D : va_G} {p : Program} {l : Launch} {e : Env} {s : State} {m : MethodId} {args : Array Value} {below : List Frame} {meth : Method} {c : Code} {r : Int32} {μ' : Mm} (C : Cx CLS SHM ad dA D p s m args meth c c_M_share 4 R_M (some .int)) (N : Nat)   (k24 : Int32 → Int32 → Int32 → Mm → Option (Int32 × Mm)) (hk24 : ∀ (v1 : Int32) (v2 : Int32) (v3 : Int32) (μ : Mm) (lv : Nat → Option Value), lv 0 = some (.ref (ad 0)) → lv 1 = some (.int v1) → lv 2 = some (.int v2) → lv 3 = some (.int v3) → k24 v1 v2 v3 μ = some (r, μ') → Go CLS SHM ad dA D p l e (rmD 7) s m args below meth c 4 (some (.int r)) μ' 24 lv [] μ) : ∀ (v1 : Int32) (v3 : Int32) (s0 : Int32) (s1 : Int32) (μ : Mm) (lv : Nat → Option Value), lv 0 = some (.ref (ad 0)) → lv 1 = some (.int v1) → lv 3 = some (.int v3) → f_M_share_B47 N k24 v1 v3 s0 s1 μ = some (r, μ') → Go CLS SHM ad dA D p l e (rmD 7) s m args below meth c 4 (some (.int r)) μ' 47 lv [.int s1, .int s0] μ := by
  intro v1 v3 s0 s1 μ lv hl0 hl1 hl3 hf
  unfold f_M_share_B47 at hf
  refine g_iadd C d_M_share_47 ?_
  refine g_istore_n C d_M_share_48 rfl (by decide) ?_
  refine g_iinc (v := 1) C d_M_share_49 (upG hl3 rfl) (by decide) (by decide) ?_
  refine g_goto (tgt := 24) C d_M_share_52 (by decide) ?_
  exact hk24 _ _ _ _ _ ((upG (upG hl0 rfl) rfl)) ((upG (upG hl1 rfl) rfl)) ((upG upS rfl)) upS hf
set_option maxHeartbeats 4000000 in
theorem t_M_share_L24 {ad : Nat → Nat} {dA : Nat → ClassId} {D : va_G} {p : Program} {l : Launch} {e : Env} {s : State} {m : MethodId} {args : Array Value} {below : List Frame} {meth : Method} {c : Code} {r : Int32} {μ' : Mm} (C : Cx CLS SHM ad dA D p s m args meth c c_M_share 4 R_M (some .int)) (N : Nat)   : ∀ (n : Nat) (v1 : Int32) (v2 : Int32) (v3 : Int32) (μ : Mm) (lv : Nat → Option Value), lv 0 = some (.ref (ad 0)) → lv 1 = some (.int v1) → lv 2 = some (.int v2) → lv 3 = some (.int v3) → f_M_share_L24 N n v1 v2 v3 μ = some (r, μ') → Go CLS SHM ad dA D p l e (rmD 7) s m args below meth c 4 (some (.int r)) μ' 24 lv [] μ := by
  intro n
  induction n with
  | zero => intro v1 v2 v3 μ lv hl0 hl1 hl2 hl3 hf; cases (show none = some _ from hf)
  | succ n ih =>
    intro v1 v2 v3 μ lv hl0 hl1 hl2 hl3 hf
    unfold f_M_share_L24 at hf
    refine g_iload_n C d_M_share_24 rfl hl3 ?_
    refine g_aload_n C d_M_share_25 rfl hl0 ?_
    refine g_getI (k := 31) C k_M (by decide) fl_M_217 rfl rfl d_M_share_26 ?_
    refine g_icmp_ge (tgt := 55) C d_M_share_29 (by decide) hf (fun c7 hf => ?_) (fun c7 hf => ?_)
    · exact t_M_share_B55 C N _ _ _ hl0 hl2 hf
    · refine g_iload_n C d_M_share_32 rfl hl2 ?_
      refine g_aload_n C d_M_share_33 rfl hl0 ?_
      refine g_iload_n C d_M_share_34 rfl hl1 ?_
      refine g_iload_n C d_M_share_35 rfl hl3 ?_
      refine g_cvI C k_M rfl mv_M_isSeen ml_M_246 d_M_share_36 hf (fun r μ1 h => t_M_isSeen C.2.2.2.2.2.2.2.2.1 h) rfl rfl (by decide) (Nat.le_of_ble_eq_true rfl) (fun r9 μ8 hf => ?_)
      refine g_if_eq (tgt := 46) C d_M_share_39 (by decide) hf (fun c10 hf => ?_) (fun c10 hf => ?_)
      · refine g_iconst (v := 0) C d_M_share_46 (by decide) ?_
        exact t_M_share_B47 C N _ ih _ _ _ _ _ _ hl0 hl1 hl3 hf
      · refine g_iconst (v := 1) C d_M_share_42 (by decide) ?_
        refine g_goto (tgt := 47) C d_M_share_43 (by decide) ?_
        exact t_M_share_B47 C N _ ih _ _ _ _ _ _ hl0 hl1 hl3 hf
set_option maxHeartbeats 4000000 in
theorem t_M_share {l : Launch} {ad : Nat → Nat} {dA : Nat → ClassId} {D : va_G} (hi : Inj SHM ad) {N : Nat} {a1 : Int32}  {μ μ' : Mm} {r : Int32} (hf : f_M_share N a1 μ = some (r, μ')) : Ct CLS l SHM ad dA D y_M_share c_M_share 4 (some .int) 7 [.ref (ad 0), .int a1] μ (some (.int r)) μ' := by
  unfold f_M_share at hf
  refine ct_of (by decide) hi (Nat.le_of_ble_eq_true rfl) ?_
  intro p e s m args below meth c C
  refine g_aload_n C d_M_share_0 rfl rfl ?_
  refine g_iload_n C d_M_share_1 rfl rfl ?_
  refine g_cvI C k_M rfl mv_M_isPost ml_M_151 d_M_share_2 hf (fun r μ1 h => t_M_isPost C.2.2.2.2.2.2.2.2.1 h) rfl rfl (by decide) (Nat.le_of_ble_eq_true rfl) (fun r2 μ1 hf => ?_)
  refine g_if_ne (tgt := 10) C d_M_share_5 (by decide) hf (fun c3 hf => ?_) (fun c3 hf => ?_)
  · refine g_iconst (v := -1) C d_M_share_8 (by decide) ?_
    exact g_iret C d_M_share_9 hf
  · refine g_aload_n C d_M_share_10 rfl rfl ?_
    refine g_cvI C k_M rfl mv_M_laySeen ml_M_231 d_M_share_11 hf (fun r μ1 h => t_M_laySeen C.2.2.2.2.2.2.2.2.1 h) rfl rfl (by decide) (Nat.le_of_ble_eq_true rfl) (fun r5 μ4 hf => ?_)
    refine g_if_ne (tgt := 20) C d_M_share_14 (by decide) hf (fun c6 hf => ?_) (fun c6 hf => ?_)
    · refine g_bipush (v := -6) C d_M_share_17 (by decide) ?_
      exact g_iret C d_M_share_19 hf
    · refine g_iconst (v := 0) C d_M_share_20 (by decide) ?_
      refine g_istore_n C d_M_share_21 rfl (by decide) ?_
      refine g_iconst (v := 0) C d_M_share_22 (by decide) ?_
      refine g_istore_n C d_M_share_23 rfl (by decide) ?_
      exact t_M_share_L24 C N N _ _ _ _ _ ((upG (upG rfl rfl) rfl)) ((upG (upG rfl rfl) rfl)) ((upG upS rfl)) upS hf
set_option maxHeartbeats 4000000 in
theorem t_M_isNeed {l : Launch} {ad : Nat → Nat} {dA : Nat → ClassId} {D : va_G} (hi : Inj SHM ad) {N : Nat} {a1 : Int32}  {μ μ' : Mm} {r : Int32} (hf : f_M_isNeed N a1 μ = some (r, μ')) : Ct CLS l SHM ad dA D y_M_isNeed c_M_isNeed 1 (some .boolean) 1 [.int a1] μ (some (.int r)) μ' := by
  unfold f_M_isNeed at hf
  refine ct_of (by decide) hi (Nat.le_of_ble_eq_true rfl) ?_
  intro p e s m args below meth c C
  refine g_iload_n C d_M_isNeed_0 rfl rfl ?_
  refine g_iconst (v := 1) C d_M_isNeed_1 (by decide) ?_
  refine g_sipush (v := 14400) C d_M_isNeed_2 (by decide) ?_
  refine g_csI C mv_M_in ml_M_117 d_M_isNeed_5 hf (fun r μ1 h => t_M_in C.2.2.2.2.2.2.2.2.1 h) rfl rfl (by decide) (Nat.le_of_ble_eq_true rfl) (fun r2 μ1 hf => ?_)
  exact g_zret C d_M_isNeed_8 hf
set_option maxHeartbeats 4000000 in
theorem t_M_chance {l : Launch} {ad : Nat → Nat} {dA : Nat → ClassId} {D : va_G} (hi : Inj SHM ad) {N : Nat} {a1 : Int32} {a2 : Int32}  {μ μ' : Mm} {r : Int32} (hf : f_M_chance N a1 a2 μ = some (r, μ')) : Ct CLS l SHM ad dA D y_M_chance c_M_chance 3 (some .int) 7 [.ref (ad 0), .int a1, .int a2] μ (some (.int r)) μ' := by
  unfold f_M_chance at hf
  refine ct_of (by decide) hi (Nat.le_of_ble_eq_true rfl) ?_
  intro p e s m args below meth c C
  refine g_aload_n C d_M_chance_0 rfl rfl ?_
  refine g_iload_n C d_M_chance_1 rfl rfl ?_
  refine g_cvI C k_M rfl mv_M_isPost ml_M_151 d_M_chance_2 hf (fun r μ1 h => t_M_isPost C.2.2.2.2.2.2.2.2.1 h) rfl rfl (by decide) (Nat.le_of_ble_eq_true rfl) (fun r2 μ1 hf => ?_)
  refine g_if_eq (tgt := 15) C d_M_chance_5 (by decide) hf (fun c3 hf => ?_) (fun c3 hf => ?_)
  · refine g_iconst (v := -1) C d_M_chance_15 (by decide) ?_
    exact g_iret C d_M_chance_16 hf
  · refine g_iload_n C d_M_chance_8 rfl rfl ?_
    refine g_csI C mv_M_isNeed ml_M_269 d_M_chance_9 hf (fun r μ1 h => t_M_isNeed C.2.2.2.2.2.2.2.2.1 h) rfl rfl (by decide) (Nat.le_of_ble_eq_true rfl) (fun r5 μ4 hf => ?_)
    refine g_if_ne (tgt := 17) C d_M_chance_12 (by decide) hf (fun c6 hf => ?_) (fun c6 hf => ?_)
    · refine g_iconst (v := -1) C d_M_chance_15 (by decide) ?_
      exact g_iret C d_M_chance_16 hf
    · refine g_aload_n C d_M_chance_17 rfl rfl ?_
      refine g_cvI C k_M rfl mv_M_laySeen ml_M_231 d_M_chance_18 hf (fun r μ1 h => t_M_laySeen C.2.2.2.2.2.2.2.2.1 h) rfl rfl (by decide) (Nat.le_of_ble_eq_true rfl) (fun r8 μ7 hf => ?_)
      refine g_if_ne (tgt := 27) C d_M_chance_21 (by decide) hf (fun c9 hf => ?_) (fun c9 hf => ?_)
      · refine g_bipush (v := -6) C d_M_chance_24 (by decide) ?_
        exact g_iret C d_M_chance_26 hf
      · refine g_aload_n C d_M_chance_27 rfl rfl ?_
        refine g_iload_n C d_M_chance_28 rfl rfl ?_
        refine g_iload_n C d_M_chance_29 rfl rfl ?_
        refine g_cvV C k_M rfl mv_M_layRows ml_M_253 d_M_chance_30 hf (fun μ1 h => t_M_layRows C.2.2.2.2.2.2.2.2.1 h) rfl rfl (by decide) (Nat.le_of_ble_eq_true rfl) (fun μ10 hf => ?_)
        refine g_aload_n C d_M_chance_33 rfl rfl ?_
        refine g_aload_n C d_M_chance_34 rfl rfl ?_
        refine g_getI (k := 35) C k_M (by decide) fl_M_243 rfl rfl d_M_chance_35 ?_
        refine g_i2l C d_M_chance_38 ?_
        refine g_aload_n C d_M_chance_39 rfl rfl ?_
        refine g_getI (k := 31) C k_M (by decide) fl_M_217 rfl rfl d_M_chance_40 ?_
        refine g_i2l C d_M_chance_43 ?_
        refine g_iconst (v := 1) C d_M_chance_44 (by decide) ?_
        refine g_cvI C k_M rfl mv_M_fraction ml_M_265 d_M_chance_45 hf (fun r μ1 h => t_M_fraction C.2.2.2.2.2.2.2.2.1 h) rfl rfl (by decide) (Nat.le_of_ble_eq_true rfl) (fun r12 μ11 hf => ?_)
        exact g_iret C d_M_chance_48 hf
set_option maxHeartbeats 4000000 in
theorem t_M_thief_B81 {ad : Nat → Nat} {dA : Nat → ClassId} {D : va_G} {p : Program} {l : Launch} {e : Env} {s : State} {m : MethodId} {args : Array Value} {below : List Frame} {meth : Method} {c : Code} {r : Int32} {μ' : Mm} (C : Cx CLS SHM ad dA D p s m args meth c c_M_thief 5 R_M (some .int)) (N : Nat)   : ∀ (v2 : Int32) (v3 : Int32) (μ : Mm) (lv : Nat → Option Value), lv 0 = some (.ref (ad 0)) → lv 2 = some (.int v2) → lv 3 = some (.int v3) → f_M_thief_B81 N v2 v3 μ = some (r, μ') → Go CLS SHM ad dA D p l e (rmD 7) s m args below meth c 5 (some (.int r)) μ' 81 lv [] μ := by
  intro v2 v3 μ lv hl0 hl2 hl3 hf
  unfold f_M_thief_B81 at hf
  refine g_iload_n C d_M_thief_81 rfl hl2 ?_
  refine g_bipush (v := -9) C d_M_thief_82 (by decide) ?_
  refine g_icmp_ne (tgt := 92) C d_M_thief_84 (by decide) hf (fun c12 hf => ?_) (fun c12 hf => ?_)
  · refine g_bipush (v := -9) C d_M_thief_87 (by decide) ?_
    refine g_goto (tgt := 104) C d_M_thief_89 (by decide) ?_
    exact g_iret C d_M_thief_104 hf
  · refine g_aload_n C d_M_thief_92 rfl hl0 ?_
    refine g_iload_n C d_M_thief_93 rfl hl3 ?_
    refine g_i2l C d_M_thief_94 ?_
    refine g_aload_n C d_M_thief_95 rfl hl0 ?_
    refine g_getI (k := 31) C k_M (by decide) fl_M_217 rfl rfl d_M_thief_96 ?_
    refine g_i2l C d_M_thief_99 ?_
    refine g_iload_n C d_M_thief_100 rfl hl2 ?_
    refine g_cvI C k_M rfl mv_M_fraction ml_M_265 d_M_thief_101 hf (fun r μ1 h => t_M_fraction C.2.2.2.2.2.2.2.2.1 h) rfl rfl (by decide) (Nat.le_of_ble_eq_true rfl) (fun r14 μ13 hf => ?_)
    exact g_iret C d_M_thief_104 hf
set_option maxHeartbeats 4000000 in
theorem t_M_thief_B75 {ad : Nat → Nat} {dA : Nat → ClassId} {D : va_G} {p : Program} {l : Launch} {e : Env} {s : State} {m : MethodId} {args : Array Value} {below : List Frame} {meth : Method} {c : Code} {r : Int32} {μ' : Mm} (C : Cx CLS SHM ad dA D p s m args meth c c_M_thief 5 R_M (some .int)) (N : Nat)   (k27 : Int32 → Int32 → Int32 → Int32 → Mm → Option (Int32 × Mm)) (hk27 : ∀ (v1 : Int32) (v2 : Int32) (v3 : Int32) (v4 : Int32) (μ : Mm) (lv : Nat → Option Value), lv 0 = some (.ref (ad 0)) → lv 1 = some (.int v1) → lv 2 = some (.int v2) → lv 3 = some (.int v3) → lv 4 = some (.int v4) → k27 v1 v2 v3 v4 μ = some (r, μ') → Go CLS SHM ad dA D p l e (rmD 7) s m args below meth c 5 (some (.int r)) μ' 27 lv [] μ) : ∀ (v1 : Int32) (v2 : Int32) (v3 : Int32) (v4 : Int32) (μ : Mm) (lv : Nat → Option Value), lv 0 = some (.ref (ad 0)) → lv 1 = some (.int v1) → lv 2 = some (.int v2) → lv 3 = some (.int v3) → lv 4 = some (.int v4) → f_M_thief_B75 N k27 v1 v2 v3 v4 μ = some (r, μ') → Go CLS SHM ad dA D p l e (rmD 7) s m args below meth c 5 (some (.int r)) μ' 75 lv [] μ := by
  intro v1 v2 v3 v4 μ lv hl0 hl1 hl2 hl3 hl4 hf
  unfold f_M_thief_B75 at hf
  refine g_iinc (v := 1) C d_M_thief_75 hl4 (by decide) (by decide) ?_
  refine g_goto (tgt := 27) C d_M_thief_78 (by decide) ?_
  exact hk27 _ _ _ _ _ _ ((upG hl0 rfl)) ((upG hl1 rfl)) ((upG hl2 rfl)) ((upG hl3 rfl)) upS hf
set_option maxHeartbeats 4000000 in
theorem t_M_thief_L27 {ad : Nat → Nat} {dA : Nat → ClassId} {D : va_G} {p : Program} {l : Launch} {e : Env} {s : State} {m : MethodId} {args : Array Value} {below : List Frame} {meth : Method} {c : Code} {r : Int32} {μ' : Mm} (C : Cx CLS SHM ad dA D p s m args meth c c_M_thief 5 R_M (some .int)) (N : Nat)   : ∀ (n : Nat) (v1 : Int32) (v2 : Int32) (v3 : Int32) (v4 : Int32) (μ : Mm) (lv : Nat → Option Value), lv 0 = some (.ref (ad 0)) → lv 1 = some (.int v1) → lv 2 = some (.int v2) → lv 3 = some (.int v3) → lv 4 = some (.int v4) → f_M_thief_L27 N n v1 v2 v3 v4 μ = some (r, μ') → Go CLS SHM ad dA D p l e (rmD 7) s m args below meth c 5 (some (.int r)) μ' 27 lv [] μ := by
  intro n
  induction n with
  | zero => intro v1 v2 v3 v4 μ lv hl0 hl1 hl2 hl3 hl4 hf; cases (show none = some _ from hf)
  | succ n ih =>
    intro v1 v2 v3 v4 μ lv hl0 hl1 hl2 hl3 hl4 hf
    unfold f_M_thief_L27 at hf
    refine g_iload C d_M_thief_27 hl4 ?_
    refine g_aload_n C d_M_thief_29 rfl hl0 ?_
    refine g_getI (k := 9) C k_M (by decide) fl_M_111 rfl rfl d_M_thief_30 ?_
    refine g_icmp_ge (tgt := 81) C d_M_thief_33 (by decide) hf (fun c7 hf => ?_) (fun c7 hf => ?_)
    · exact t_M_thief_B81 C N _ _ _ _ hl0 hl2 hl3 hf
    · refine g_aload_n C d_M_thief_36 rfl hl0 ?_
      refine g_iload C d_M_thief_37 hl4 ?_
      refine g_iload_n C d_M_thief_39 rfl hl1 ?_
      refine g_cvV C k_M rfl mv_M_layRows ml_M_253 d_M_thief_40 hf (fun μ1 h => t_M_layRows C.2.2.2.2.2.2.2.2.1 h) rfl rfl (by decide) (Nat.le_of_ble_eq_true rfl) (fun μ8 hf => ?_)
      refine g_aload_n C d_M_thief_43 rfl hl0 ?_
      refine g_getR (b := 7) (k := 12) C k_M (by decide) fl_M_30 rfl rfl d_M_thief_44 ?_
      refine g_iload C d_M_thief_47 hl4 ?_
      refine g_iald C rfl d_M_thief_49 hf (fun hf => ?_)
      refine g_aload_n C d_M_thief_50 rfl hl0 ?_
      refine g_getI (k := 35) C k_M (by decide) fl_M_243 rfl rfl d_M_thief_51 ?_
      refine g_imul C d_M_thief_54 ?_
      refine g_iload_n C d_M_thief_55 rfl hl3 ?_
      refine g_icmp_le (tgt := 75) C d_M_thief_56 (by decide) hf (fun c9 hf => ?_) (fun c9 hf => ?_)
      · exact t_M_thief_B75 C N _ ih _ _ _ _ _ _ hl0 hl1 hl2 hl3 hl4 hf
      · refine g_iload C d_M_thief_59 hl4 ?_
        refine g_istore_n C d_M_thief_61 rfl (by decide) ?_
        refine g_aload_n C d_M_thief_62 rfl (upG hl0 rfl) ?_
        refine g_getR (b := 7) (k := 12) C k_M (by decide) fl_M_30 rfl rfl d_M_thief_63 ?_
        refine g_iload C d_M_thief_66 (upG hl4 rfl) ?_
        refine g_iald C rfl d_M_thief_68 hf (fun hf => ?_)
        refine g_aload_n C d_M_thief_69 rfl (upG hl0 rfl) ?_
        refine g_getI (k := 35) C k_M (by decide) fl_M_243 rfl rfl d_M_thief_70 ?_
        refine g_imul C d_M_thief_73 ?_
        refine g_istore_n C d_M_thief_74 rfl (by decide) ?_
        exact t_M_thief_B75 C N _ ih _ _ _ _ _ _ ((upG (upG hl0 rfl) rfl)) ((upG (upG hl1 rfl) rfl)) ((upG upS rfl)) upS ((upG (upG hl4 rfl) rfl)) hf
set_option maxHeartbeats 4000000 in
theorem t_M_thief {l : Launch} {ad : Nat → Nat} {dA : Nat → ClassId} {D : va_G} (hi : Inj SHM ad) {N : Nat} {a1 : Int32}  {μ μ' : Mm} {r : Int32} (hf : f_M_thief N a1 μ = some (r, μ')) : Ct CLS l SHM ad dA D y_M_thief c_M_thief 5 (some .int) 7 [.ref (ad 0), .int a1] μ (some (.int r)) μ' := by
  unfold f_M_thief at hf
  refine ct_of (by decide) hi (Nat.le_of_ble_eq_true rfl) ?_
  intro p e s m args below meth c C
  refine g_iload_n C d_M_thief_0 rfl rfl ?_
  refine g_csI C mv_M_isNeed ml_M_269 d_M_thief_1 hf (fun r μ1 h => t_M_isNeed C.2.2.2.2.2.2.2.2.1 h) rfl rfl (by decide) (Nat.le_of_ble_eq_true rfl) (fun r2 μ1 hf => ?_)
  refine g_if_ne (tgt := 9) C d_M_thief_4 (by decide) hf (fun c3 hf => ?_) (fun c3 hf => ?_)
  · refine g_iconst (v := -1) C d_M_thief_7 (by decide) ?_
    exact g_iret C d_M_thief_8 hf
  · refine g_aload_n C d_M_thief_9 rfl rfl ?_
    refine g_cvI C k_M rfl mv_M_laySeen ml_M_231 d_M_thief_10 hf (fun r μ1 h => t_M_laySeen C.2.2.2.2.2.2.2.2.1 h) rfl rfl (by decide) (Nat.le_of_ble_eq_true rfl) (fun r5 μ4 hf => ?_)
    refine g_if_ne (tgt := 19) C d_M_thief_13 (by decide) hf (fun c6 hf => ?_) (fun c6 hf => ?_)
    · refine g_bipush (v := -6) C d_M_thief_16 (by decide) ?_
      exact g_iret C d_M_thief_18 hf
    · refine g_bipush (v := -9) C d_M_thief_19 (by decide) ?_
      refine g_istore_n C d_M_thief_21 rfl (by decide) ?_
      refine g_iconst (v := 0) C d_M_thief_22 (by decide) ?_
      refine g_istore_n C d_M_thief_23 rfl (by decide) ?_
      refine g_iconst (v := 0) C d_M_thief_24 (by decide) ?_
      refine g_istore C d_M_thief_25 (by decide) ?_
      exact t_M_thief_L27 C N N _ _ _ _ _ _ ((upG (upG (upG rfl rfl) rfl) rfl)) ((upG (upG (upG rfl rfl) rfl) rfl)) ((upG (upG upS rfl) rfl)) ((upG upS rfl)) upS hf
set_option maxHeartbeats 4000000 in
theorem t_M_safe_B74 {ad : Nat → Nat} {dA : Nat → ClassId} {D : va_G} {p : Program} {l : Launch} {e : Env} {s : State} {m : MethodId} {args : Array Value} {below : List Frame} {meth : Method} {c : Code} {r : Int32} {μ' : Mm} (C : Cx CLS SHM ad dA D p s m args meth c c_M_safe 3 R_M (some .int)) (N : Nat)   (k14 : Int32 → Int32 → Mm → Option (Int32 × Mm)) (hk14 : ∀ (v1 : Int32) (v2 : Int32) (μ : Mm) (lv : Nat → Option Value), lv 0 = some (.ref (ad 0)) → lv 1 = some (.int v1) → lv 2 = some (.int v2) → k14 v1 v2 μ = some (r, μ') → Go CLS SHM ad dA D p l e (rmD 7) s m args below meth c 3 (some (.int r)) μ' 14 lv [] μ) : ∀ (v1 : Int32) (v2 : Int32) (μ : Mm) (lv : Nat → Option Value), lv 0 = some (.ref (ad 0)) → lv 1 = some (.int v1) → lv 2 = some (.int v2) → f_M_safe_B74 N k14 v1 v2 μ = some (r, μ') → Go CLS SHM ad dA D p l e (rmD 7) s m args below meth c 3 (some (.int r)) μ' 74 lv [] μ := by
  intro v1 v2 μ lv hl0 hl1 hl2 hf
  unfold f_M_safe_B74 at hf
  refine g_iinc (v := 1) C d_M_safe_74 hl2 (by decide) (by decide) ?_
  refine g_goto (tgt := 14) C d_M_safe_77 (by decide) ?_
  exact hk14 _ _ _ _ ((upG hl0 rfl)) ((upG hl1 rfl)) upS hf
set_option maxHeartbeats 4000000 in
theorem t_M_safe_B73 {ad : Nat → Nat} {dA : Nat → ClassId} {D : va_G} {p : Program} {l : Launch} {e : Env} {s : State} {m : MethodId} {args : Array Value} {below : List Frame} {meth : Method} {c : Code} {r : Int32} {μ' : Mm} (C : Cx CLS SHM ad dA D p s m args meth c c_M_safe 3 R_M (some .int)) (N : Nat)   (k14 : Int32 → Int32 → Mm → Option (Int32 × Mm)) (hk14 : ∀ (v1 : Int32) (v2 : Int32) (μ : Mm) (lv : Nat → Option Value), lv 0 = some (.ref (ad 0)) → lv 1 = some (.int v1) → lv 2 = some (.int v2) → k14 v1 v2 μ = some (r, μ') → Go CLS SHM ad dA D p l e (rmD 7) s m args below meth c 3 (some (.int r)) μ' 14 lv [] μ) : ∀ (v2 : Int32) (s0 : Int32) (μ : Mm) (lv : Nat → Option Value), lv 0 = some (.ref (ad 0)) → lv 2 = some (.int v2) → f_M_safe_B73 N k14 v2 s0 μ = some (r, μ') → Go CLS SHM ad dA D p l e (rmD 7) s m args below meth c 3 (some (.int r)) μ' 73 lv [.int s0] μ := by
  intro v2 s0 μ lv hl0 hl2 hf
  unfold f_M_safe_B73 at hf
  refine g_istore_n C d_M_safe_73 rfl (by decide) ?_
  exact t_M_safe_B74 C N _ hk14 _ _ _ _ ((upG hl0 rfl)) upS ((upG hl2 rfl)) hf
set_option maxHeartbeats 4000000 in
theorem t_M_safe_L14 {ad : Nat → Nat} {dA : Nat → ClassId} {D : va_G} {p : Program} {l : Launch} {e : Env} {s : State} {m : MethodId} {args : Array Value} {below : List Frame} {meth : Method} {c : Code} {r : Int32} {μ' : Mm} (C : Cx CLS SHM ad dA D p s m args meth c c_M_safe 3 R_M (some .int)) (N : Nat)   : ∀ (n : Nat) (v1 : Int32) (v2 : Int32) (μ : Mm) (lv : Nat → Option Value), lv 0 = some (.ref (ad 0)) → lv 1 = some (.int v1) → lv 2 = some (.int v2) → f_M_safe_L14 N n v1 v2 μ = some (r, μ') → Go CLS SHM ad dA D p l e (rmD 7) s m args below meth c 3 (some (.int r)) μ' 14 lv [] μ := by
  intro n
  induction n with
  | zero => intro v1 v2 μ lv hl0 hl1 hl2 hf; cases (show none = some _ from hf)
  | succ n ih =>
    intro v1 v2 μ lv hl0 hl1 hl2 hf
    unfold f_M_safe_L14 at hf
    refine g_iload_n C d_M_safe_14 rfl hl2 ?_
    refine g_aload_n C d_M_safe_15 rfl hl0 ?_
    refine g_getI (k := 9) C k_M (by decide) fl_M_111 rfl rfl d_M_safe_16 ?_
    refine g_icmp_ge (tgt := 80) C d_M_safe_19 (by decide) hf (fun c4 hf => ?_) (fun c4 hf => ?_)
    · refine g_iload_n C d_M_safe_80 rfl hl1 ?_
      exact g_iret C d_M_safe_81 hf
    · refine g_aload_n C d_M_safe_22 rfl hl0 ?_
      refine g_getR (b := 7) (k := 12) C k_M (by decide) fl_M_30 rfl rfl d_M_safe_23 ?_
      refine g_iload_n C d_M_safe_26 rfl hl2 ?_
      refine g_iald C rfl d_M_safe_27 hf (fun hf => ?_)
      refine g_if_le (tgt := 74) C d_M_safe_28 (by decide) hf (fun c5 hf => ?_) (fun c5 hf => ?_)
      · exact t_M_safe_B74 C N _ ih _ _ _ _ hl0 hl1 hl2 hf
      · refine g_iload_n C d_M_safe_31 rfl hl1 ?_
        refine g_bipush (v := -9) C d_M_safe_32 (by decide) ?_
        refine g_icmp_eq (tgt := 74) C d_M_safe_34 (by decide) hf (fun c6 hf => ?_) (fun c6 hf => ?_)
        · exact t_M_safe_B74 C N _ ih _ _ _ _ hl0 hl1 hl2 hf
        · refine g_aload_n C d_M_safe_37 rfl hl0 ?_
          refine g_iload_n C d_M_safe_38 rfl hl2 ?_
          refine g_iconst (v := 1) C d_M_safe_39 (by decide) ?_
          refine g_cvV C k_M rfl mv_M_layRows ml_M_253 d_M_safe_40 hf (fun μ1 h => t_M_layRows C.2.2.2.2.2.2.2.2.1 h) rfl rfl (by decide) (Nat.le_of_ble_eq_true rfl) (fun μ7 hf => ?_)
          refine g_aload_n C d_M_safe_43 rfl hl0 ?_
          refine g_getI (k := 33) C k_M (by decide) fl_M_237 rfl rfl d_M_safe_44 ?_
          refine g_bipush (v := -9) C d_M_safe_47 (by decide) ?_
          refine g_icmp_ne (tgt := 57) C d_M_safe_49 (by decide) hf (fun c8 hf => ?_) (fun c8 hf => ?_)
          · refine g_bipush (v := -9) C d_M_safe_52 (by decide) ?_
            refine g_goto (tgt := 73) C d_M_safe_54 (by decide) ?_
            exact t_M_safe_B73 C N _ ih _ _ _ _ hl0 hl2 hf
          · refine g_aload_n C d_M_safe_57 rfl hl0 ?_
            refine g_getI (k := 33) C k_M (by decide) fl_M_237 rfl rfl d_M_safe_58 ?_
            refine g_iload_n C d_M_safe_61 rfl hl1 ?_
            refine g_icmp_le (tgt := 72) C d_M_safe_62 (by decide) hf (fun c9 hf => ?_) (fun c9 hf => ?_)
            · refine g_iload_n C d_M_safe_72 rfl hl1 ?_
              exact t_M_safe_B73 C N _ ih _ _ _ _ hl0 hl2 hf
            · refine g_aload_n C d_M_safe_65 rfl hl0 ?_
              refine g_getI (k := 33) C k_M (by decide) fl_M_237 rfl rfl d_M_safe_66 ?_
              refine g_goto (tgt := 73) C d_M_safe_69 (by decide) ?_
              exact t_M_safe_B73 C N _ ih _ _ _ _ hl0 hl2 hf
set_option maxHeartbeats 4000000 in
theorem t_M_safe {l : Launch} {ad : Nat → Nat} {dA : Nat → ClassId} {D : va_G} (hi : Inj SHM ad) {N : Nat}   {μ μ' : Mm} {r : Int32} (hf : f_M_safe N  μ = some (r, μ')) : Ct CLS l SHM ad dA D y_M_safe c_M_safe 3 (some .int) 7 [.ref (ad 0)] μ (some (.int r)) μ' := by
  unfold f_M_safe at hf
  refine ct_of (by decide) hi (Nat.le_of_ble_eq_true rfl) ?_
  intro p e s m args below meth c C
  refine g_aload_n C d_M_safe_0 rfl rfl ?_
  refine g_cvI C k_M rfl mv_M_laySeen ml_M_231 d_M_safe_1 hf (fun r μ1 h => t_M_laySeen C.2.2.2.2.2.2.2.2.1 h) rfl rfl (by decide) (Nat.le_of_ble_eq_true rfl) (fun r2 μ1 hf => ?_)
  refine g_if_ne (tgt := 10) C d_M_safe_4 (by decide) hf (fun c3 hf => ?_) (fun c3 hf => ?_)
  · refine g_bipush (v := -6) C d_M_safe_7 (by decide) ?_
    exact g_iret C d_M_safe_9 hf
  · refine g_iconst (v := 0) C d_M_safe_10 (by decide) ?_
    refine g_istore_n C d_M_safe_11 rfl (by decide) ?_
    refine g_iconst (v := 0) C d_M_safe_12 (by decide) ?_
    refine g_istore_n C d_M_safe_13 rfl (by decide) ?_
    exact t_M_safe_L14 C N N _ _ _ _ ((upG (upG rfl rfl) rfl)) ((upG upS rfl)) upS hf
set_option maxHeartbeats 4000000 in
theorem t_M_bitsOf_L4 {ad : Nat → Nat} {dA : Nat → ClassId} {D : va_G} {p : Program} {l : Launch} {e : Env} {s : State} {m : MethodId} {args : Array Value} {below : List Frame} {meth : Method} {c : Code} {r : Int32} {μ' : Mm} (C : Cx CLS SHM ad dA D p s m args meth c c_M_bitsOf 3 R_M (some .int)) (N : Nat)   : ∀ (n : Nat) (v0 : Int32) (v1 : Int32) (v2 : Int32) (μ : Mm) (lv : Nat → Option Value), lv 0 = some (.int v0) → lv 1 = some (.int v1) → lv 2 = some (.int v2) → f_M_bitsOf_L4 N n v0 v1 v2 μ = some (r, μ') → Go CLS SHM ad dA D p l e (rmD 0) s m args below meth c 3 (some (.int r)) μ' 4 lv [] μ := by
  intro n
  induction n with
  | zero => intro v0 v1 v2 μ lv hl0 hl1 hl2 hf; cases (show none = some _ from hf)
  | succ n ih =>
    intro v0 v1 v2 μ lv hl0 hl1 hl2 hf
    unfold f_M_bitsOf_L4 at hf
    refine g_iload_n C d_M_bitsOf_4 rfl hl2 ?_
    refine g_bipush (v := 8) C d_M_bitsOf_5 (by decide) ?_
    refine g_icmp_ge (tgt := 24) C d_M_bitsOf_7 (by decide) hf (fun c1 hf => ?_) (fun c1 hf => ?_)
    · refine g_iload_n C d_M_bitsOf_24 rfl hl1 ?_
      exact g_iret C d_M_bitsOf_25 hf
    · refine g_iload_n C d_M_bitsOf_10 rfl hl1 ?_
      refine g_iload_n C d_M_bitsOf_11 rfl hl0 ?_
      refine g_iload_n C d_M_bitsOf_12 rfl hl2 ?_
      refine g_ishr C d_M_bitsOf_13 ?_
      refine g_iconst (v := 1) C d_M_bitsOf_14 (by decide) ?_
      refine g_iand C d_M_bitsOf_15 ?_
      refine g_iadd C d_M_bitsOf_16 ?_
      refine g_istore_n C d_M_bitsOf_17 rfl (by decide) ?_
      refine g_iinc (v := 1) C d_M_bitsOf_18 (upG hl2 rfl) (by decide) (by decide) ?_
      refine g_goto (tgt := 4) C d_M_bitsOf_21 (by decide) ?_
      exact ih _ _ _ _ _ ((upG (upG hl0 rfl) rfl)) ((upG upS rfl)) upS hf
set_option maxHeartbeats 4000000 in
theorem t_M_bitsOf {l : Launch} {ad : Nat → Nat} {dA : Nat → ClassId} {D : va_G} (hi : Inj SHM ad) {N : Nat} {a1 : Int32}  {μ μ' : Mm} {r : Int32} (hf : f_M_bitsOf N a1 μ = some (r, μ')) : Ct CLS l SHM ad dA D y_M_bitsOf c_M_bitsOf 3 (some .int) 0 [.int a1] μ (some (.int r)) μ' := by
  unfold f_M_bitsOf at hf
  refine ct_of (by decide) hi (Nat.le_of_ble_eq_true rfl) ?_
  intro p e s m args below meth c C
  refine g_iconst (v := 0) C d_M_bitsOf_0 (by decide) ?_
  refine g_istore_n C d_M_bitsOf_1 rfl (by decide) ?_
  refine g_iconst (v := 0) C d_M_bitsOf_2 (by decide) ?_
  refine g_istore_n C d_M_bitsOf_3 rfl (by decide) ?_
  exact t_M_bitsOf_L4 C N N _ _ _ _ _ ((upG (upG rfl rfl) rfl)) ((upG upS rfl)) upS hf
set_option maxHeartbeats 4000000 in
theorem t_M_peril_B215 {ad : Nat → Nat} {dA : Nat → ClassId} {D : va_G} {p : Program} {l : Launch} {e : Env} {s : State} {m : MethodId} {args : Array Value} {below : List Frame} {meth : Method} {c : Code} {r : Int32} {μ' : Mm} (C : Cx CLS SHM ad dA D p s m args meth c c_M_peril 9 R_M (some .int)) (N : Nat)   : ∀ (v4 : Int32) (v5 : Int32) (v6 : Int32) (v7 : Int32) (μ : Mm) (lv : Nat → Option Value), lv 0 = some (.ref (ad 0)) → lv 4 = some (.int v4) → lv 5 = some (.int v5) → lv 6 = some (.int v6) → lv 7 = some (.int v7) → f_M_peril_B215 N v4 v5 v6 v7 μ = some (r, μ') → Go CLS SHM ad dA D p l e (rmD 7) s m args below meth c 9 (some (.int r)) μ' 215 lv [] μ := by
  intro v4 v5 v6 v7 μ lv hl0 hl4 hl5 hl6 hl7 hf
  unfold f_M_peril_B215 at hf
  refine g_aload_n C d_M_peril_215 rfl hl0 ?_
  refine g_iconst (v := 0) C d_M_peril_216 (by decide) ?_
  refine g_putI (k := 27) C k_M (by decide) fl_M_181 rfl rfl rfl rfl d_M_peril_217 ?_
  refine g_iload C d_M_peril_220 hl7 ?_
  refine g_if_eq (tgt := 228) C d_M_peril_222 (by decide) hf (fun c36 hf => ?_) (fun c36 hf => ?_)
  · refine g_iload C d_M_peril_228 hl6 ?_
    refine g_bipush (v := -9) C d_M_peril_230 (by decide) ?_
    refine g_icmp_eq (tgt := 246) C d_M_peril_232 (by decide) hf (fun c37 hf => ?_) (fun c37 hf => ?_)
    · refine g_aload_n C d_M_peril_246 rfl hl0 ?_
      refine g_iload C d_M_peril_247 hl4 ?_
      refine g_iload C d_M_peril_249 hl5 ?_
      refine g_cvI C k_M rfl mv_M_tells ml_M_234 d_M_peril_251 hf (fun r μ1 h => t_M_tells C.2.2.2.2.2.2.2.2.1 h) rfl rfl (by decide) (Nat.le_of_ble_eq_true rfl) (fun r39 μ38 hf => ?_)
      exact g_iret C d_M_peril_254 hf
    · refine g_aload_n C d_M_peril_235 rfl hl0 ?_
      refine g_iload C d_M_peril_236 hl6 ?_
      refine g_bipush (v := -9) C d_M_peril_238 (by decide) ?_
      refine g_cvI C k_M rfl mv_M_tells ml_M_234 d_M_peril_240 hf (fun r μ1 h => t_M_tells C.2.2.2.2.2.2.2.2.1 h) rfl rfl (by decide) (Nat.le_of_ble_eq_true rfl) (fun r41 μ40 hf => ?_)
      refine g_goto (tgt := 254) C d_M_peril_243 (by decide) ?_
      exact g_iret C d_M_peril_254 hf
  · refine g_bipush (v := -6) C d_M_peril_225 (by decide) ?_
    exact g_iret C d_M_peril_227 hf
set_option maxHeartbeats 4000000 in
theorem t_M_peril_B209 {ad : Nat → Nat} {dA : Nat → ClassId} {D : va_G} {p : Program} {l : Launch} {e : Env} {s : State} {m : MethodId} {args : Array Value} {below : List Frame} {meth : Method} {c : Code} {r : Int32} {μ' : Mm} (C : Cx CLS SHM ad dA D p s m args meth c c_M_peril 9 R_M (some .int)) (N : Nat)   (k86 : Int32 → Int32 → Int32 → Int32 → Int32 → Int32 → Int32 → Mm → Option (Int32 × Mm)) (hk86 : ∀ (v2 : Int32) (v3 : Int32) (v4 : Int32) (v5 : Int32) (v6 : Int32) (v7 : Int32) (v8 : Int32) (μ : Mm) (lv : Nat → Option Value), lv 0 = some (.ref (ad 0)) → lv 2 = some (.int v2) → lv 3 = some (.int v3) → lv 4 = some (.int v4) → lv 5 = some (.int v5) → lv 6 = some (.int v6) → lv 7 = some (.int v7) → lv 8 = some (.int v8) → k86 v2 v3 v4 v5 v6 v7 v8 μ = some (r, μ') → Go CLS SHM ad dA D p l e (rmD 7) s m args below meth c 9 (some (.int r)) μ' 86 lv [] μ) : ∀ (v2 : Int32) (v3 : Int32) (v4 : Int32) (v5 : Int32) (v6 : Int32) (v7 : Int32) (v8 : Int32) (μ : Mm) (lv : Nat → Option Value), lv 0 = some (.ref (ad 0)) → lv 2 = some (.int v2) → lv 3 = some (.int v3) → lv 4 = some (.int v4) → lv 5 = some (.int v5) → lv 6 = some (.int v6) → lv 7 = some (.int v7) → lv 8 = some (.int v8) → f_M_peril_B209 N k86 v2 v3 v4 v5 v6 v7 v8 μ = some (r, μ') → Go CLS SHM ad dA D p l e (rmD 7) s m args below meth c 9 (some (.int r)) μ' 209 lv [] μ := by
  intro v2 v3 v4 v5 v6 v7 v8 μ lv hl0 hl2 hl3 hl4 hl5 hl6 hl7 hl8 hf
  unfold f_M_peril_B209 at hf
  refine g_iinc (v := 1) C d_M_peril_209 hl8 (by decide) (by decide) ?_
  refine g_goto (tgt := 86) C d_M_peril_212 (by decide) ?_
  exact hk86 _ _ _ _ _ _ _ _ _ ((upG hl0 rfl)) ((upG hl2 rfl)) ((upG hl3 rfl)) ((upG hl4 rfl)) ((upG hl5 rfl)) ((upG hl6 rfl)) ((upG hl7 rfl)) upS hf
set_option maxHeartbeats 4000000 in
theorem t_M_peril_B199 {ad : Nat → Nat} {dA : Nat → ClassId} {D : va_G} {p : Program} {l : Launch} {e : Env} {s : State} {m : MethodId} {args : Array Value} {below : List Frame} {meth : Method} {c : Code} {r : Int32} {μ' : Mm} (C : Cx CLS SHM ad dA D p s m args meth c c_M_peril 9 R_M (some .int)) (N : Nat)   (k86 : Int32 → Int32 → Int32 → Int32 → Int32 → Int32 → Int32 → Mm → Option (Int32 × Mm)) (hk86 : ∀ (v2 : Int32) (v3 : Int32) (v4 : Int32) (v5 : Int32) (v6 : Int32) (v7 : Int32) (v8 : Int32) (μ : Mm) (lv : Nat → Option Value), lv 0 = some (.ref (ad 0)) → lv 2 = some (.int v2) → lv 3 = some (.int v3) → lv 4 = some (.int v4) → lv 5 = some (.int v5) → lv 6 = some (.int v6) → lv 7 = some (.int v7) → lv 8 = some (.int v8) → k86 v2 v3 v4 v5 v6 v7 v8 μ = some (r, μ') → Go CLS SHM ad dA D p l e (rmD 7) s m args below meth c 9 (some (.int r)) μ' 86 lv [] μ) : ∀ (v2 : Int32) (v3 : Int32) (v6 : Int32) (v7 : Int32) (v8 : Int32) (μ : Mm) (lv : Nat → Option Value), lv 0 = some (.ref (ad 0)) → lv 2 = some (.int v2) → lv 3 = some (.int v3) → lv 6 = some (.int v6) → lv 7 = some (.int v7) → lv 8 = some (.int v8) → f_M_peril_B199 N k86 v2 v3 v6 v7 v8 μ = some (r, μ') → Go CLS SHM ad dA D p l e (rmD 7) s m args below meth c 9 (some (.int r)) μ' 199 lv [] μ := by
  intro v2 v3 v6 v7 v8 μ lv hl0 hl2 hl3 hl6 hl7 hl8 hf
  unfold f_M_peril_B199 at hf
  refine g_iload C d_M_peril_199 hl8 ?_
  refine g_istore C d_M_peril_201 (by decide) ?_
  refine g_aload_n C d_M_peril_203 rfl (upG hl0 rfl) ?_
  refine g_getI (k := 37) C k_M (by decide) fl_M_259 rfl rfl d_M_peril_204 ?_
  refine g_istore C d_M_peril_207 (by decide) ?_
  exact t_M_peril_B209 C N _ hk86 _ _ _ _ _ _ _ _ _ ((upG (upG hl0 rfl) rfl)) ((upG (upG hl2 rfl) rfl)) ((upG (upG hl3 rfl) rfl)) ((upG upS rfl)) upS ((upG (upG hl6 rfl) rfl)) ((upG (upG hl7 rfl) rfl)) ((upG (upG hl8 rfl) rfl)) hf
set_option maxHeartbeats 4000000 in
theorem t_M_peril_B172 {ad : Nat → Nat} {dA : Nat → ClassId} {D : va_G} {p : Program} {l : Launch} {e : Env} {s : State} {m : MethodId} {args : Array Value} {below : List Frame} {meth : Method} {c : Code} {r : Int32} {μ' : Mm} (C : Cx CLS SHM ad dA D p s m args meth c c_M_peril 9 R_M (some .int)) (N : Nat)   (k86 : Int32 → Int32 → Int32 → Int32 → Int32 → Int32 → Int32 → Mm → Option (Int32 × Mm)) (hk86 : ∀ (v2 : Int32) (v3 : Int32) (v4 : Int32) (v5 : Int32) (v6 : Int32) (v7 : Int32) (v8 : Int32) (μ : Mm) (lv : Nat → Option Value), lv 0 = some (.ref (ad 0)) → lv 2 = some (.int v2) → lv 3 = some (.int v3) → lv 4 = some (.int v4) → lv 5 = some (.int v5) → lv 6 = some (.int v6) → lv 7 = some (.int v7) → lv 8 = some (.int v8) → k86 v2 v3 v4 v5 v6 v7 v8 μ = some (r, μ') → Go CLS SHM ad dA D p l e (rmD 7) s m args below meth c 9 (some (.int r)) μ' 86 lv [] μ) : ∀ (v2 : Int32) (v3 : Int32) (v4 : Int32) (v5 : Int32) (v7 : Int32) (v8 : Int32) (s0 : Int32) (μ : Mm) (lv : Nat → Option Value), lv 0 = some (.ref (ad 0)) → lv 2 = some (.int v2) → lv 3 = some (.int v3) → lv 4 = some (.int v4) → lv 5 = some (.int v5) → lv 7 = some (.int v7) → lv 8 = some (.int v8) → f_M_peril_B172 N k86 v2 v3 v4 v5 v7 v8 s0 μ = some (r, μ') → Go CLS SHM ad dA D p l e (rmD 7) s m args below meth c 9 (some (.int r)) μ' 172 lv [.int s0] μ := by
  intro v2 v3 v4 v5 v7 v8 s0 μ lv hl0 hl2 hl3 hl4 hl5 hl7 hl8 hf
  unfold f_M_peril_B172 at hf
  refine g_istore C d_M_peril_172 (by decide) ?_
  refine g_aload_n C d_M_peril_174 rfl (upG hl0 rfl) ?_
  refine g_getI (k := 37) C k_M (by decide) fl_M_259 rfl rfl d_M_peril_175 ?_
  refine g_bipush (v := -9) C d_M_peril_178 (by decide) ?_
  refine g_icmp_eq (tgt := 209) C d_M_peril_180 (by decide) hf (fun c31 hf => ?_) (fun c31 hf => ?_)
  · exact t_M_peril_B209 C N _ hk86 _ _ _ _ _ _ _ _ _ ((upG hl0 rfl)) ((upG hl2 rfl)) ((upG hl3 rfl)) ((upG hl4 rfl)) ((upG hl5 rfl)) upS ((upG hl7 rfl)) ((upG hl8 rfl)) hf
  · refine g_iload C d_M_peril_183 (upG hl4 rfl) ?_
    refine g_bipush (v := -9) C d_M_peril_185 (by decide) ?_
    refine g_icmp_eq (tgt := 199) C d_M_peril_187 (by decide) hf (fun c32 hf => ?_) (fun c32 hf => ?_)
    · exact t_M_peril_B199 C N _ hk86 _ _ _ _ _ _ _ ((upG hl0 rfl)) ((upG hl2 rfl)) ((upG hl3 rfl)) upS ((upG hl7 rfl)) ((upG hl8 rfl)) hf
    · refine g_aload_n C d_M_peril_190 rfl (upG hl0 rfl) ?_
      refine g_getI (k := 37) C k_M (by decide) fl_M_259 rfl rfl d_M_peril_191 ?_
      refine g_iload C d_M_peril_194 (upG hl5 rfl) ?_
      refine g_icmp_le (tgt := 209) C d_M_peril_196 (by decide) hf (fun c33 hf => ?_) (fun c33 hf => ?_)
      · exact t_M_peril_B209 C N _ hk86 _ _ _ _ _ _ _ _ _ ((upG hl0 rfl)) ((upG hl2 rfl)) ((upG hl3 rfl)) ((upG hl4 rfl)) ((upG hl5 rfl)) upS ((upG hl7 rfl)) ((upG hl8 rfl)) hf
      · exact t_M_peril_B199 C N _ hk86 _ _ _ _ _ _ _ ((upG hl0 rfl)) ((upG hl2 rfl)) ((upG hl3 rfl)) upS ((upG hl7 rfl)) ((upG hl8 rfl)) hf
set_option maxHeartbeats 4000000 in
theorem t_M_peril_B170 {ad : Nat → Nat} {dA : Nat → ClassId} {D : va_G} {p : Program} {l : Launch} {e : Env} {s : State} {m : MethodId} {args : Array Value} {below : List Frame} {meth : Method} {c : Code} {r : Int32} {μ' : Mm} (C : Cx CLS SHM ad dA D p s m args meth c c_M_peril 9 R_M (some .int)) (N : Nat)   (k86 : Int32 → Int32 → Int32 → Int32 → Int32 → Int32 → Int32 → Mm → Option (Int32 × Mm)) (hk86 : ∀ (v2 : Int32) (v3 : Int32) (v4 : Int32) (v5 : Int32) (v6 : Int32) (v7 : Int32) (v8 : Int32) (μ : Mm) (lv : Nat → Option Value), lv 0 = some (.ref (ad 0)) → lv 2 = some (.int v2) → lv 3 = some (.int v3) → lv 4 = some (.int v4) → lv 5 = some (.int v5) → lv 6 = some (.int v6) → lv 7 = some (.int v7) → lv 8 = some (.int v8) → k86 v2 v3 v4 v5 v6 v7 v8 μ = some (r, μ') → Go CLS SHM ad dA D p l e (rmD 7) s m args below meth c 9 (some (.int r)) μ' 86 lv [] μ) : ∀ (v2 : Int32) (v3 : Int32) (v4 : Int32) (v5 : Int32) (v6 : Int32) (v7 : Int32) (v8 : Int32) (μ : Mm) (lv : Nat → Option Value), lv 0 = some (.ref (ad 0)) → lv 2 = some (.int v2) → lv 3 = some (.int v3) → lv 4 = some (.int v4) → lv 5 = some (.int v5) → lv 6 = some (.int v6) → lv 7 = some (.int v7) → lv 8 = some (.int v8) → f_M_peril_B170 N k86 v2 v3 v4 v5 v6 v7 v8 μ = some (r, μ') → Go CLS SHM ad dA D p l e (rmD 7) s m args below meth c 9 (some (.int r)) μ' 170 lv [] μ := by
  intro v2 v3 v4 v5 v6 v7 v8 μ lv hl0 hl2 hl3 hl4 hl5 hl6 hl7 hl8 hf
  unfold f_M_peril_B170 at hf
  refine g_iload C d_M_peril_170 hl6 ?_
  exact t_M_peril_B172 C N _ hk86 _ _ _ _ _ _ _ _ _ hl0 hl2 hl3 hl4 hl5 hl7 hl8 hf
set_option maxHeartbeats 4000000 in
theorem t_M_peril_B138 {ad : Nat → Nat} {dA : Nat → ClassId} {D : va_G} {p : Program} {l : Launch} {e : Env} {s : State} {m : MethodId} {args : Array Value} {below : List Frame} {meth : Method} {c : Code} {r : Int32} {μ' : Mm} (C : Cx CLS SHM ad dA D p s m args meth c c_M_peril 9 R_M (some .int)) (N : Nat)   (k86 : Int32 → Int32 → Int32 → Int32 → Int32 → Int32 → Int32 → Mm → Option (Int32 × Mm)) (hk86 : ∀ (v2 : Int32) (v3 : Int32) (v4 : Int32) (v5 : Int32) (v6 : Int32) (v7 : Int32) (v8 : Int32) (μ : Mm) (lv : Nat → Option Value), lv 0 = some (.ref (ad 0)) → lv 2 = some (.int v2) → lv 3 = some (.int v3) → lv 4 = some (.int v4) → lv 5 = some (.int v5) → lv 6 = some (.int v6) → lv 7 = some (.int v7) → lv 8 = some (.int v8) → k86 v2 v3 v4 v5 v6 v7 v8 μ = some (r, μ') → Go CLS SHM ad dA D p l e (rmD 7) s m args below meth c 9 (some (.int r)) μ' 86 lv [] μ) : ∀ (v2 : Int32) (v3 : Int32) (v4 : Int32) (v5 : Int32) (v6 : Int32) (v8 : Int32) (s0 : Int32) (μ : Mm) (lv : Nat → Option Value), lv 0 = some (.ref (ad 0)) → lv 2 = some (.int v2) → lv 3 = some (.int v3) → lv 4 = some (.int v4) → lv 5 = some (.int v5) → lv 6 = some (.int v6) → lv 8 = some (.int v8) → f_M_peril_B138 N k86 v2 v3 v4 v5 v6 v8 s0 μ = some (r, μ') → Go CLS SHM ad dA D p l e (rmD 7) s m args below meth c 9 (some (.int r)) μ' 138 lv [.int s0] μ := by
  intro v2 v3 v4 v5 v6 v8 s0 μ lv hl0 hl2 hl3 hl4 hl5 hl6 hl8 hf
  unfold f_M_peril_B138 at hf
  refine g_istore C d_M_peril_138 (by decide) ?_
  refine g_iload C d_M_peril_140 upS ?_
  refine g_if_ne (tgt := 209) C d_M_peril_142 (by decide) hf (fun c27 hf => ?_) (fun c27 hf => ?_)
  · refine g_aload_n C d_M_peril_145 rfl (upG hl0 rfl) ?_
    refine g_cvV C k_M rfl mv_M_layWorst ml_M_262 d_M_peril_146 hf (fun μ1 h => t_M_layWorst C.2.2.2.2.2.2.2.2.1 h) rfl rfl (by decide) (Nat.le_of_ble_eq_true rfl) (fun μ28 hf => ?_)
    refine g_iload C d_M_peril_149 (upG hl6 rfl) ?_
    refine g_bipush (v := -9) C d_M_peril_151 (by decide) ?_
    refine g_icmp_ne (tgt := 170) C d_M_peril_153 (by decide) hf (fun c29 hf => ?_) (fun c29 hf => ?_)
    · refine g_aload_n C d_M_peril_156 rfl (upG hl0 rfl) ?_
      refine g_getI (k := 37) C k_M (by decide) fl_M_259 rfl rfl d_M_peril_157 ?_
      refine g_bipush (v := -9) C d_M_peril_160 (by decide) ?_
      refine g_icmp_ne (tgt := 170) C d_M_peril_162 (by decide) hf (fun c30 hf => ?_) (fun c30 hf => ?_)
      · refine g_iload C d_M_peril_165 (upG hl8 rfl) ?_
        refine g_goto (tgt := 172) C d_M_peril_167 (by decide) ?_
        exact t_M_peril_B172 C N _ hk86 _ _ _ _ _ _ _ _ _ ((upG hl0 rfl)) ((upG hl2 rfl)) ((upG hl3 rfl)) ((upG hl4 rfl)) ((upG hl5 rfl)) upS ((upG hl8 rfl)) hf
      · exact t_M_peril_B170 C N _ hk86 _ _ _ _ _ _ _ _ _ ((upG hl0 rfl)) ((upG hl2 rfl)) ((upG hl3 rfl)) ((upG hl4 rfl)) ((upG hl5 rfl)) ((upG hl6 rfl)) upS ((upG hl8 rfl)) hf
    · exact t_M_peril_B170 C N _ hk86 _ _ _ _ _ _ _ _ _ ((upG hl0 rfl)) ((upG hl2 rfl)) ((upG hl3 rfl)) ((upG hl4 rfl)) ((upG hl5 rfl)) ((upG hl6 rfl)) upS ((upG hl8 rfl)) hf
  · exact t_M_peril_B209 C N _ hk86 _ _ _ _ _ _ _ _ _ ((upG hl0 rfl)) ((upG hl2 rfl)) ((upG hl3 rfl)) ((upG hl4 rfl)) ((upG hl5 rfl)) ((upG hl6 rfl)) upS ((upG hl8 rfl)) hf
set_option maxHeartbeats 4000000 in
theorem t_M_peril_L86 {ad : Nat → Nat} {dA : Nat → ClassId} {D : va_G} {p : Program} {l : Launch} {e : Env} {s : State} {m : MethodId} {args : Array Value} {below : List Frame} {meth : Method} {c : Code} {r : Int32} {μ' : Mm} (C : Cx CLS SHM ad dA D p s m args meth c c_M_peril 9 R_M (some .int)) (N : Nat)   : ∀ (n : Nat) (v2 : Int32) (v3 : Int32) (v4 : Int32) (v5 : Int32) (v6 : Int32) (v7 : Int32) (v8 : Int32) (μ : Mm) (lv : Nat → Option Value), lv 0 = some (.ref (ad 0)) → lv 2 = some (.int v2) → lv 3 = some (.int v3) → lv 4 = some (.int v4) → lv 5 = some (.int v5) → lv 6 = some (.int v6) → lv 7 = some (.int v7) → lv 8 = some (.int v8) → f_M_peril_L86 N n v2 v3 v4 v5 v6 v7 v8 μ = some (r, μ') → Go CLS SHM ad dA D p l e (rmD 7) s m args below meth c 9 (some (.int r)) μ' 86 lv [] μ := by
  intro n
  induction n with
  | zero => intro v2 v3 v4 v5 v6 v7 v8 μ lv hl0 hl2 hl3 hl4 hl5 hl6 hl7 hl8 hf; cases (show none = some _ from hf)
  | succ n ih =>
    intro v2 v3 v4 v5 v6 v7 v8 μ lv hl0 hl2 hl3 hl4 hl5 hl6 hl7 hl8 hf
    unfold f_M_peril_L86 at hf
    refine g_iload C d_M_peril_86 hl8 ?_
    refine g_iconst (v := 1) C d_M_peril_88 (by decide) ?_
    refine g_aload_n C d_M_peril_89 rfl hl0 ?_
    refine g_getI (k := 15) C k_M (by decide) fl_M_162 rfl rfl d_M_peril_90 ?_
    refine g_ishl C d_M_peril_93 ?_
    refine g_icmp_ge (tgt := 215) C d_M_peril_94 (by decide) hf (fun c16 hf => ?_) (fun c16 hf => ?_)
    · exact t_M_peril_B215 C N _ _ _ _ _ _ hl0 hl4 hl5 hl6 hl7 hf
    · refine g_iload C d_M_peril_97 hl7 ?_
      refine g_if_ne (tgt := 215) C d_M_peril_99 (by decide) hf (fun c17 hf => ?_) (fun c17 hf => ?_)
      · refine g_iload C d_M_peril_102 hl8 ?_
        refine g_iload_n C d_M_peril_104 rfl hl2 ?_
        refine g_iconst (v := -1) C d_M_peril_105 (by decide) ?_
        refine g_ixor C d_M_peril_106 ?_
        refine g_iand C d_M_peril_107 ?_
        refine g_if_ne (tgt := 209) C d_M_peril_108 (by decide) hf (fun c18 hf => ?_) (fun c18 hf => ?_)
        · refine g_iload C d_M_peril_111 hl8 ?_
          refine g_csI C mv_M_bitsOf ml_M_272 d_M_peril_113 hf (fun r μ1 h => t_M_bitsOf C.2.2.2.2.2.2.2.2.1 h) rfl rfl (by decide) (Nat.le_of_ble_eq_true rfl) (fun r20 μ19 hf => ?_)
          refine g_iload_n C d_M_peril_116 rfl hl3 ?_
          refine g_icmp_ne (tgt := 209) C d_M_peril_117 (by decide) hf (fun c21 hf => ?_) (fun c21 hf => ?_)
          · refine g_aload_n C d_M_peril_120 rfl hl0 ?_
            refine g_iload C d_M_peril_121 hl8 ?_
            refine g_putI (k := 27) C k_M (by decide) fl_M_181 rfl rfl rfl rfl d_M_peril_123 ?_
            refine g_aload_n C d_M_peril_126 rfl hl0 ?_
            refine g_cvI C k_M rfl mv_M_laySeen ml_M_231 d_M_peril_127 hf (fun r μ1 h => t_M_laySeen C.2.2.2.2.2.2.2.2.1 h) rfl rfl (by decide) (Nat.le_of_ble_eq_true rfl) (fun r24 μ23 hf => ?_)
            refine g_if_ne (tgt := 137) C d_M_peril_130 (by decide) hf (fun c25 hf => ?_) (fun c25 hf => ?_)
            · refine g_iconst (v := 1) C d_M_peril_133 (by decide) ?_
              refine g_goto (tgt := 138) C d_M_peril_134 (by decide) ?_
              exact t_M_peril_B138 C N _ ih _ _ _ _ _ _ _ _ _ hl0 hl2 hl3 hl4 hl5 hl6 hl8 hf
            · refine g_iconst (v := 0) C d_M_peril_137 (by decide) ?_
              exact t_M_peril_B138 C N _ ih _ _ _ _ _ _ _ _ _ hl0 hl2 hl3 hl4 hl5 hl6 hl8 hf
          · exact t_M_peril_B209 C N _ ih _ _ _ _ _ _ _ _ _ hl0 hl2 hl3 hl4 hl5 hl6 hl7 hl8 hf
        · exact t_M_peril_B209 C N _ ih _ _ _ _ _ _ _ _ _ hl0 hl2 hl3 hl4 hl5 hl6 hl7 hl8 hf
      · exact t_M_peril_B215 C N _ _ _ _ _ _ hl0 hl4 hl5 hl6 hl7 hf
set_option maxHeartbeats 4000000 in
theorem t_M_peril_B68 {ad : Nat → Nat} {dA : Nat → ClassId} {D : va_G} {p : Program} {l : Launch} {e : Env} {s : State} {m : MethodId} {args : Array Value} {below : List Frame} {meth : Method} {c : Code} {r : Int32} {μ' : Mm} (C : Cx CLS SHM ad dA D p s m args meth c c_M_peril 9 R_M (some .int)) (N : Nat)   : ∀ (v2 : Int32) (s0 : Int32) (μ : Mm) (lv : Nat → Option Value), lv 0 = some (.ref (ad 0)) → lv 2 = some (.int v2) → f_M_peril_B68 N v2 s0 μ = some (r, μ') → Go CLS SHM ad dA D p l e (rmD 7) s m args below meth c 9 (some (.int r)) μ' 68 lv [.int s0] μ := by
  intro v2 s0 μ lv hl0 hl2 hf
  unfold f_M_peril_B68 at hf
  refine g_istore_n C d_M_peril_68 rfl (by decide) ?_
  refine g_bipush (v := -9) C d_M_peril_69 (by decide) ?_
  refine g_istore C d_M_peril_71 (by decide) ?_
  refine g_iconst (v := 0) C d_M_peril_73 (by decide) ?_
  refine g_istore C d_M_peril_74 (by decide) ?_
  refine g_bipush (v := -9) C d_M_peril_76 (by decide) ?_
  refine g_istore C d_M_peril_78 (by decide) ?_
  refine g_iconst (v := 0) C d_M_peril_80 (by decide) ?_
  refine g_istore C d_M_peril_81 (by decide) ?_
  refine g_iconst (v := 0) C d_M_peril_83 (by decide) ?_
  refine g_istore C d_M_peril_84 (by decide) ?_
  exact t_M_peril_L86 C N N _ _ _ _ _ _ _ _ _ ((upG (upG (upG (upG (upG (upG hl0 rfl) rfl) rfl) rfl) rfl) rfl)) ((upG (upG (upG (upG (upG (upG hl2 rfl) rfl) rfl) rfl) rfl) rfl)) ((upG (upG (upG (upG (upG upS rfl) rfl) rfl) rfl) rfl)) ((upG (upG (upG (upG upS rfl) rfl) rfl) rfl)) ((upG (upG (upG upS rfl) rfl) rfl)) ((upG (upG upS rfl) rfl)) ((upG upS rfl)) upS hf
set_option maxHeartbeats 4000000 in
theorem t_M_peril_B52 {ad : Nat → Nat} {dA : Nat → ClassId} {D : va_G} {p : Program} {l : Launch} {e : Env} {s : State} {m : MethodId} {args : Array Value} {below : List Frame} {meth : Method} {c : Code} {r : Int32} {μ' : Mm} (C : Cx CLS SHM ad dA D p s m args meth c c_M_peril 9 R_M (some .int)) (N : Nat)   : ∀ (v1 : Int32) (v2 : Int32) (μ : Mm) (lv : Nat → Option Value), lv 0 = some (.ref (ad 0)) → lv 1 = some (.int v1) → lv 2 = some (.int v2) → f_M_peril_B52 N v1 v2 μ = some (r, μ') → Go CLS SHM ad dA D p l e (rmD 7) s m args below meth c 9 (some (.int r)) μ' 52 lv [] μ := by
  intro v1 v2 μ lv hl0 hl1 hl2 hf
  unfold f_M_peril_B52 at hf
  refine g_iload_n C d_M_peril_52 rfl hl2 ?_
  refine g_csI C mv_M_bitsOf ml_M_272 d_M_peril_53 hf (fun r μ1 h => t_M_bitsOf C.2.2.2.2.2.2.2.2.1 h) rfl rfl (by decide) (Nat.le_of_ble_eq_true rfl) (fun r12 μ11 hf => ?_)
  refine g_iload_n C d_M_peril_56 rfl hl1 ?_
  refine g_icmp_ge (tgt := 67) C d_M_peril_57 (by decide) hf (fun c13 hf => ?_) (fun c13 hf => ?_)
  · refine g_iload_n C d_M_peril_67 rfl hl1 ?_
    exact t_M_peril_B68 C N _ _ _ _ hl0 hl2 hf
  · refine g_iload_n C d_M_peril_60 rfl hl2 ?_
    refine g_csI C mv_M_bitsOf ml_M_272 d_M_peril_61 hf (fun r μ1 h => t_M_bitsOf C.2.2.2.2.2.2.2.2.1 h) rfl rfl (by decide) (Nat.le_of_ble_eq_true rfl) (fun r15 μ14 hf => ?_)
    refine g_goto (tgt := 68) C d_M_peril_64 (by decide) ?_
    exact t_M_peril_B68 C N _ _ _ _ hl0 hl2 hf
set_option maxHeartbeats 4000000 in
theorem t_M_peril_B44 {ad : Nat → Nat} {dA : Nat → ClassId} {D : va_G} {p : Program} {l : Launch} {e : Env} {s : State} {m : MethodId} {args : Array Value} {below : List Frame} {meth : Method} {c : Code} {r : Int32} {μ' : Mm} (C : Cx CLS SHM ad dA D p s m args meth c c_M_peril 9 R_M (some .int)) (N : Nat)   (k20 : Int32 → Int32 → Int32 → Mm → Option (Int32 × Mm)) (hk20 : ∀ (v1 : Int32) (v2 : Int32) (v3 : Int32) (μ : Mm) (lv : Nat → Option Value), lv 0 = some (.ref (ad 0)) → lv 1 = some (.int v1) → lv 2 = some (.int v2) → lv 3 = some (.int v3) → k20 v1 v2 v3 μ = some (r, μ') → Go CLS SHM ad dA D p l e (rmD 7) s m args below meth c 9 (some (.int r)) μ' 20 lv [] μ) : ∀ (v1 : Int32) (v3 : Int32) (s0 : Int32) (s1 : Int32) (μ : Mm) (lv : Nat → Option Value), lv 0 = some (.ref (ad 0)) → lv 1 = some (.int v1) → lv 3 = some (.int v3) → f_M_peril_B44 N k20 v1 v3 s0 s1 μ = some (r, μ') → Go CLS SHM ad dA D p l e (rmD 7) s m args below meth c 9 (some (.int r)) μ' 44 lv [.int s1, .int s0] μ := by
  intro v1 v3 s0 s1 μ lv hl0 hl1 hl3 hf
  unfold f_M_peril_B44 at hf
  refine g_ior C d_M_peril_44 ?_
  refine g_istore_n C d_M_peril_45 rfl (by decide) ?_
  refine g_iinc (v := 1) C d_M_peril_46 (upG hl3 rfl) (by decide) (by decide) ?_
  refine g_goto (tgt := 20) C d_M_peril_49 (by decide) ?_
  exact hk20 _ _ _ _ _ ((upG (upG hl0 rfl) rfl)) ((upG (upG hl1 rfl) rfl)) ((upG upS rfl)) upS hf
set_option maxHeartbeats 4000000 in
theorem t_M_peril_L20 {ad : Nat → Nat} {dA : Nat → ClassId} {D : va_G} {p : Program} {l : Launch} {e : Env} {s : State} {m : MethodId} {args : Array Value} {below : List Frame} {meth : Method} {c : Code} {r : Int32} {μ' : Mm} (C : Cx CLS SHM ad dA D p s m args meth c c_M_peril 9 R_M (some .int)) (N : Nat)   : ∀ (n : Nat) (v1 : Int32) (v2 : Int32) (v3 : Int32) (μ : Mm) (lv : Nat → Option Value), lv 0 = some (.ref (ad 0)) → lv 1 = some (.int v1) → lv 2 = some (.int v2) → lv 3 = some (.int v3) → f_M_peril_L20 N n v1 v2 v3 μ = some (r, μ') → Go CLS SHM ad dA D p l e (rmD 7) s m args below meth c 9 (some (.int r)) μ' 20 lv [] μ := by
  intro n
  induction n with
  | zero => intro v1 v2 v3 μ lv hl0 hl1 hl2 hl3 hf; cases (show none = some _ from hf)
  | succ n ih =>
    intro v1 v2 v3 μ lv hl0 hl1 hl2 hl3 hf
    unfold f_M_peril_L20 at hf
    refine g_iload_n C d_M_peril_20 rfl hl3 ?_
    refine g_aload_n C d_M_peril_21 rfl hl0 ?_
    refine g_getI (k := 15) C k_M (by decide) fl_M_162 rfl rfl d_M_peril_22 ?_
    refine g_icmp_ge (tgt := 52) C d_M_peril_25 (by decide) hf (fun c5 hf => ?_) (fun c5 hf => ?_)
    · exact t_M_peril_B52 C N _ _ _ _ hl0 hl1 hl2 hf
    · refine g_iload_n C d_M_peril_28 rfl hl2 ?_
      refine g_aload_n C d_M_peril_29 rfl hl0 ?_
      refine g_iload_n C d_M_peril_30 rfl hl3 ?_
      refine g_cvI C k_M rfl mv_M_goes ml_M_193 d_M_peril_31 hf (fun r μ1 h => t_M_goes C.2.2.2.2.2.2.2.2.1 h) rfl rfl (by decide) (Nat.le_of_ble_eq_true rfl) (fun r7 μ6 hf => ?_)
      refine g_if_eq (tgt := 43) C d_M_peril_34 (by decide) hf (fun c8 hf => ?_) (fun c8 hf => ?_)
      · refine g_iconst (v := 0) C d_M_peril_43 (by decide) ?_
        exact t_M_peril_B44 C N _ ih _ _ _ _ _ _ hl0 hl1 hl3 hf
      · refine g_iconst (v := 1) C d_M_peril_37 (by decide) ?_
        refine g_iload_n C d_M_peril_38 rfl hl3 ?_
        refine g_ishl C d_M_peril_39 ?_
        refine g_goto (tgt := 44) C d_M_peril_40 (by decide) ?_
        exact t_M_peril_B44 C N _ ih _ _ _ _ _ _ hl0 hl1 hl3 hf
set_option maxHeartbeats 4000000 in
theorem t_M_peril {l : Launch} {ad : Nat → Nat} {dA : Nat → ClassId} {D : va_G} (hi : Inj SHM ad) {N : Nat} {a1 : Int32}  {μ μ' : Mm} {r : Int32} (hf : f_M_peril N a1 μ = some (r, μ')) : Ct CLS l SHM ad dA D y_M_peril c_M_peril 9 (some .int) 7 [.ref (ad 0), .int a1] μ (some (.int r)) μ' := by
  unfold f_M_peril at hf
  refine ct_of (by decide) hi (Nat.le_of_ble_eq_true rfl) ?_
  intro p e s m args below meth c C
  refine g_iload_n C d_M_peril_0 rfl rfl ?_
  refine g_iconst (v := 0) C d_M_peril_1 (by decide) ?_
  refine g_iconst (v := 3) C d_M_peril_2 (by decide) ?_
  refine g_csI C mv_M_in ml_M_117 d_M_peril_3 hf (fun r μ1 h => t_M_in C.2.2.2.2.2.2.2.2.1 h) rfl rfl (by decide) (Nat.le_of_ble_eq_true rfl) (fun r2 μ1 hf => ?_)
  refine g_if_ne (tgt := 11) C d_M_peril_6 (by decide) hf (fun c3 hf => ?_) (fun c3 hf => ?_)
  · refine g_iconst (v := -1) C d_M_peril_9 (by decide) ?_
    exact g_iret C d_M_peril_10 hf
  · refine g_aload_n C d_M_peril_11 rfl rfl ?_
    refine g_iconst (v := 0) C d_M_peril_12 (by decide) ?_
    refine g_putI (k := 27) C k_M (by decide) fl_M_181 rfl rfl rfl rfl d_M_peril_13 ?_
    refine g_iconst (v := 0) C d_M_peril_16 (by decide) ?_
    refine g_istore_n C d_M_peril_17 rfl (by decide) ?_
    refine g_iconst (v := 0) C d_M_peril_18 (by decide) ?_
    refine g_istore_n C d_M_peril_19 rfl (by decide) ?_
    exact t_M_peril_L20 C N N _ _ _ _ _ ((upG (upG rfl rfl) rfl)) ((upG (upG rfl rfl) rfl)) ((upG upS rfl)) upS hf
set_option maxHeartbeats 4000000 in
theorem t_M_walk_B219 {ad : Nat → Nat} {dA : Nat → ClassId} {D : va_G} {p : Program} {l : Launch} {e : Env} {s : State} {m : MethodId} {args : Array Value} {below : List Frame} {meth : Method} {c : Code} {μ' : Mm} (C : Cx CLS SHM ad dA D p s m args meth c c_M_walk 13 R_M (none)) (N : Nat)   : ∀ (v3 : Int32) (v7 : Int32) (v8 : Int32) (v9 : Int32) (μ : Mm) (lv : Nat → Option Value), lv 0 = some (.ref (ad 0)) → lv 3 = some (.int v3) → lv 7 = some (.int v7) → lv 8 = some (.int v8) → lv 9 = some (.int v9) → f_M_walk_B219 N v3 v7 v8 v9 μ = some μ' → Go CLS SHM ad dA D p l e (rmD 4) s m args below meth c 13 none μ' 219 lv [] μ := by
  intro v3 v7 v8 v9 μ lv hl0 hl3 hl7 hl8 hl9 hf
  unfold f_M_walk_B219 at hf
  refine g_iload_n C d_M_walk_219 rfl hl3 ?_
  refine g_if_eq (tgt := 244) C d_M_walk_220 (by decide) hf (fun c16 hf => ?_) (fun c16 hf => ?_)
  · refine g_aload_n C d_M_walk_244 rfl hl0 ?_
    refine g_iload C d_M_walk_245 hl7 ?_
    refine g_putI (k := 38) C k_M (by decide) fl_M_284 rfl rfl rfl rfl d_M_walk_247 ?_
    refine g_aload_n C d_M_walk_250 rfl hl0 ?_
    refine g_iload C d_M_walk_251 hl8 ?_
    refine g_putI (k := 40) C k_M (by decide) fl_M_287 rfl rfl rfl rfl d_M_walk_253 ?_
    refine g_aload_n C d_M_walk_256 rfl hl0 ?_
    refine g_iload C d_M_walk_257 hl9 ?_
    refine g_putI (k := 42) C k_M (by decide) fl_M_290 rfl rfl rfl rfl d_M_walk_259 ?_
    exact g_vret C d_M_walk_262 hf
  · refine g_aload_n C d_M_walk_223 rfl hl0 ?_
    refine g_iload C d_M_walk_224 hl7 ?_
    refine g_putI (k := 39) C k_M (by decide) fl_M_275 rfl rfl rfl rfl d_M_walk_226 ?_
    refine g_aload_n C d_M_walk_229 rfl hl0 ?_
    refine g_iload C d_M_walk_230 hl8 ?_
    refine g_putI (k := 41) C k_M (by decide) fl_M_278 rfl rfl rfl rfl d_M_walk_232 ?_
    refine g_aload_n C d_M_walk_235 rfl hl0 ?_
    refine g_iload C d_M_walk_236 hl9 ?_
    refine g_putI (k := 43) C k_M (by decide) fl_M_281 rfl rfl rfl rfl d_M_walk_238 ?_
    refine g_goto (tgt := 262) C d_M_walk_241 (by decide) ?_
    exact g_vret C d_M_walk_262 hf
set_option maxHeartbeats 4000000 in
theorem t_M_walk_B217 {ad : Nat → Nat} {dA : Nat → ClassId} {D : va_G} {p : Program} {l : Launch} {e : Env} {s : State} {m : MethodId} {args : Array Value} {below : List Frame} {meth : Method} {c : Code} {μ' : Mm} (C : Cx CLS SHM ad dA D p s m args meth c c_M_walk 13 R_M (none)) (N : Nat)   : ∀ (v3 : Int32) (v7 : Int32) (v8 : Int32) (s0 : Int32) (μ : Mm) (lv : Nat → Option Value), lv 0 = some (.ref (ad 0)) → lv 3 = some (.int v3) → lv 7 = some (.int v7) → lv 8 = some (.int v8) → f_M_walk_B217 N v3 v7 v8 s0 μ = some μ' → Go CLS SHM ad dA D p l e (rmD 4) s m args below meth c 13 none μ' 217 lv [.int s0] μ := by
  intro v3 v7 v8 s0 μ lv hl0 hl3 hl7 hl8 hf
  unfold f_M_walk_B217 at hf
  refine g_istore C d_M_walk_217 (by decide) ?_
  exact t_M_walk_B219 C N _ _ _ _ _ _ ((upG hl0 rfl)) ((upG hl3 rfl)) ((upG hl7 rfl)) ((upG hl8 rfl)) upS hf
set_option maxHeartbeats 4000000 in
theorem t_M_walk_B187 {ad : Nat → Nat} {dA : Nat → ClassId} {D : va_G} {p : Program} {l : Launch} {e : Env} {s : State} {m : MethodId} {args : Array Value} {below : List Frame} {meth : Method} {c : Code} {μ' : Mm} (C : Cx CLS SHM ad dA D p s m args meth c c_M_walk 13 R_M (none)) (N : Nat)   : ∀ (v1 : Int32) (v3 : Int32) (v4 : Int32) (v5 : Int32) (v7 : Int32) (s0 : Int32) (μ : Mm) (lv : Nat → Option Value), lv 0 = some (.ref (ad 0)) → lv 1 = some (.int v1) → lv 3 = some (.int v3) → lv 4 = some (.int v4) → lv 5 = some (.int v5) → lv 7 = some (.int v7) → f_M_walk_B187 N v1 v3 v4 v5 v7 s0 μ = some μ' → Go CLS SHM ad dA D p l e (rmD 4) s m args below meth c 13 none μ' 187 lv [.int s0] μ := by
  intro v1 v3 v4 v5 v7 s0 μ lv hl0 hl1 hl3 hl4 hl5 hl7 hf
  unfold f_M_walk_B187 at hf
  refine g_istore C d_M_walk_187 (by decide) ?_
  refine g_iload C d_M_walk_189 (upG hl4 rfl) ?_
  refine g_iload C d_M_walk_191 (upG hl5 rfl) ?_
  refine g_icmp_ge (tgt := 208) C d_M_walk_193 (by decide) hf (fun c15 hf => ?_) (fun c15 hf => ?_)
  · refine g_iload C d_M_walk_208 upS ?_
    refine g_aload_n C d_M_walk_210 rfl (upG hl0 rfl) ?_
    refine g_getR (b := 11) (k := 17) C k_M (by decide) fl_M_42 rfl rfl d_M_walk_211 ?_
    refine g_iload_n C d_M_walk_214 rfl (upG hl1 rfl) ?_
    refine g_iald C rfl d_M_walk_215 hf (fun hf => ?_)
    refine g_isub C d_M_walk_216 ?_
    exact t_M_walk_B217 C N _ _ _ _ _ _ ((upG hl0 rfl)) ((upG hl3 rfl)) ((upG hl7 rfl)) upS hf
  · refine g_iload C d_M_walk_196 upS ?_
    refine g_aload_n C d_M_walk_198 rfl (upG hl0 rfl) ?_
    refine g_getR (b := 11) (k := 17) C k_M (by decide) fl_M_42 rfl rfl d_M_walk_199 ?_
    refine g_iload_n C d_M_walk_202 rfl (upG hl1 rfl) ?_
    refine g_iald C rfl d_M_walk_203 hf (fun hf => ?_)
    refine g_iadd C d_M_walk_204 ?_
    refine g_goto (tgt := 217) C d_M_walk_205 (by decide) ?_
    exact t_M_walk_B217 C N _ _ _ _ _ _ ((upG hl0 rfl)) ((upG hl3 rfl)) ((upG hl7 rfl)) upS hf
set_option maxHeartbeats 4000000 in
theorem t_M_walk_B126 {ad : Nat → Nat} {dA : Nat → ClassId} {D : va_G} {p : Program} {l : Launch} {e : Env} {s : State} {m : MethodId} {args : Array Value} {below : List Frame} {meth : Method} {c : Code} {μ' : Mm} (C : Cx CLS SHM ad dA D p s m args meth c c_M_walk 13 R_M (none)) (N : Nat)   : ∀ (v1 : Int32) (v3 : Int32) (v4 : Int32) (v5 : Int32) (v6 : Int32) (v10 : Int32) (s0 : Int32) (μ : Mm) (lv : Nat → Option Value), lv 0 = some (.ref (ad 0)) → lv 1 = some (.int v1) → lv 3 = some (.int v3) → lv 4 = some (.int v4) → lv 5 = some (.int v5) → lv 6 = some (.int v6) → lv 10 = some (.int v10) → f_M_walk_B126 N v1 v3 v4 v5 v6 v10 s0 μ = some μ' → Go CLS SHM ad dA D p l e (rmD 4) s m args below meth c 13 none μ' 126 lv [.int s0] μ := by
  intro v1 v3 v4 v5 v6 v10 s0 μ lv hl0 hl1 hl3 hl4 hl5 hl6 hl10 hf
  unfold f_M_walk_B126 at hf
  refine g_istore C d_M_walk_126 (by decide) ?_
  refine g_bipush (v := 60) C d_M_walk_128 (by decide) ?_
  refine g_aload_n C d_M_walk_130 rfl (upG hl0 rfl) ?_
  refine g_getR (b := 5) (k := 10) C k_M (by decide) fl_M_23 rfl rfl d_M_walk_131 ?_
  refine g_bipush (v := 16) C d_M_walk_134 (by decide) ?_
  refine g_iload C d_M_walk_136 (upG hl10 rfl) ?_
  refine g_imul C d_M_walk_138 ?_
  refine g_iload C d_M_walk_139 upS ?_
  refine g_iadd C d_M_walk_141 ?_
  refine g_iald C rfl d_M_walk_142 hf (fun hf => ?_)
  refine g_imul C d_M_walk_143 ?_
  refine g_istore C d_M_walk_144 (by decide) ?_
  refine g_bipush (v := 16) C d_M_walk_146 (by decide) ?_
  refine g_iload C d_M_walk_148 (upG (upG hl10 rfl) rfl) ?_
  refine g_imul C d_M_walk_150 ?_
  refine g_iload C d_M_walk_151 (upG upS rfl) ?_
  refine g_iadd C d_M_walk_153 ?_
  refine g_istore C d_M_walk_154 (by decide) ?_
  refine g_iload C d_M_walk_156 (upG (upG (upG hl4 rfl) rfl) rfl) ?_
  refine g_iload C d_M_walk_158 (upG (upG (upG hl5 rfl) rfl) rfl) ?_
  refine g_icmp_ge (tgt := 175) C d_M_walk_160 (by decide) hf (fun c14 hf => ?_) (fun c14 hf => ?_)
  · refine g_iload C d_M_walk_175 (upG upS rfl) ?_
    refine g_iload C d_M_walk_177 (upG (upG (upG hl6 rfl) rfl) rfl) ?_
    refine g_aload_n C d_M_walk_179 rfl (upG (upG (upG hl0 rfl) rfl) rfl) ?_
    refine g_getR (b := 11) (k := 17) C k_M (by decide) fl_M_42 rfl rfl d_M_walk_180 ?_
    refine g_iload_n C d_M_walk_183 rfl (upG (upG (upG hl1 rfl) rfl) rfl) ?_
    refine g_iald C rfl d_M_walk_184 hf (fun hf => ?_)
    refine g_imul C d_M_walk_185 ?_
    refine g_isub C d_M_walk_186 ?_
    exact t_M_walk_B187 C N _ _ _ _ _ _ _ _ ((upG (upG (upG hl0 rfl) rfl) rfl)) ((upG (upG (upG hl1 rfl) rfl) rfl)) ((upG (upG (upG hl3 rfl) rfl) rfl)) ((upG (upG (upG hl4 rfl) rfl) rfl)) ((upG (upG (upG hl5 rfl) rfl) rfl)) upS hf
  · refine g_iload C d_M_walk_163 (upG (upG (upG hl6 rfl) rfl) rfl) ?_
    refine g_aload_n C d_M_walk_165 rfl (upG (upG (upG hl0 rfl) rfl) rfl) ?_
    refine g_getR (b := 11) (k := 17) C k_M (by decide) fl_M_42 rfl rfl d_M_walk_166 ?_
    refine g_iload_n C d_M_walk_169 rfl (upG (upG (upG hl1 rfl) rfl) rfl) ?_
    refine g_iald C rfl d_M_walk_170 hf (fun hf => ?_)
    refine g_imul C d_M_walk_171 ?_
    refine g_goto (tgt := 187) C d_M_walk_172 (by decide) ?_
    exact t_M_walk_B187 C N _ _ _ _ _ _ _ _ ((upG (upG (upG hl0 rfl) rfl) rfl)) ((upG (upG (upG hl1 rfl) rfl) rfl)) ((upG (upG (upG hl3 rfl) rfl) rfl)) ((upG (upG (upG hl4 rfl) rfl) rfl)) ((upG (upG (upG hl5 rfl) rfl) rfl)) upS hf
set_option maxHeartbeats 4000000 in
theorem t_M_walk_B110 {ad : Nat → Nat} {dA : Nat → ClassId} {D : va_G} {p : Program} {l : Launch} {e : Env} {s : State} {m : MethodId} {args : Array Value} {below : List Frame} {meth : Method} {c : Code} {μ' : Mm} (C : Cx CLS SHM ad dA D p s m args meth c c_M_walk 13 R_M (none)) (N : Nat)   : ∀ (v1 : Int32) (v3 : Int32) (v4 : Int32) (v5 : Int32) (v6 : Int32) (s0 : Int32) (μ : Mm) (lv : Nat → Option Value), lv 0 = some (.ref (ad 0)) → lv 1 = some (.int v1) → lv 3 = some (.int v3) → lv 4 = some (.int v4) → lv 5 = some (.int v5) → lv 6 = some (.int v6) → f_M_walk_B110 N v1 v3 v4 v5 v6 s0 μ = some μ' → Go CLS SHM ad dA D p l e (rmD 4) s m args below meth c 13 none μ' 110 lv [.int s0] μ := by
  intro v1 v3 v4 v5 v6 s0 μ lv hl0 hl1 hl3 hl4 hl5 hl6 hf
  unfold f_M_walk_B110 at hf
  refine g_istore C d_M_walk_110 (by decide) ?_
  refine g_iload C d_M_walk_112 (upG hl4 rfl) ?_
  refine g_iload C d_M_walk_114 (upG hl5 rfl) ?_
  refine g_icmp_ge (tgt := 124) C d_M_walk_116 (by decide) hf (fun c10 hf => ?_) (fun c10 hf => ?_)
  · refine g_iload C d_M_walk_124 (upG hl4 rfl) ?_
    exact t_M_walk_B126 C N _ _ _ _ _ _ _ _ _ ((upG hl0 rfl)) ((upG hl1 rfl)) ((upG hl3 rfl)) ((upG hl4 rfl)) ((upG hl5 rfl)) ((upG hl6 rfl)) upS hf
  · refine g_iload C d_M_walk_119 (upG hl5 rfl) ?_
    refine g_goto (tgt := 126) C d_M_walk_121 (by decide) ?_
    exact t_M_walk_B126 C N _ _ _ _ _ _ _ _ _ ((upG hl0 rfl)) ((upG hl1 rfl)) ((upG hl3 rfl)) ((upG hl4 rfl)) ((upG hl5 rfl)) ((upG hl6 rfl)) upS hf
set_option maxHeartbeats 4000000 in
theorem t_M_walk_B79 {ad : Nat → Nat} {dA : Nat → ClassId} {D : va_G} {p : Program} {l : Launch} {e : Env} {s : State} {m : MethodId} {args : Array Value} {below : List Frame} {meth : Method} {c : Code} {μ' : Mm} (C : Cx CLS SHM ad dA D p s m args meth c c_M_walk 13 R_M (none)) (N : Nat)   : ∀ (v1 : Int32) (v3 : Int32) (v4 : Int32) (v5 : Int32) (v6 : Int32) (μ : Mm) (lv : Nat → Option Value), lv 0 = some (.ref (ad 0)) → lv 1 = some (.int v1) → lv 3 = some (.int v3) → lv 4 = some (.int v4) → lv 5 = some (.int v5) → lv 6 = some (.int v6) → f_M_walk_B79 N v1 v3 v4 v5 v6 μ = some μ' → Go CLS SHM ad dA D p l e (rmD 4) s m args below meth c 13 none μ' 79 lv [] μ := by
  intro v1 v3 v4 v5 v6 μ lv hl0 hl1 hl3 hl4 hl5 hl6 hf
  unfold f_M_walk_B79 at hf
  refine g_bipush (v := -9) C d_M_walk_79 (by decide) ?_
  refine g_istore C d_M_walk_81 (by decide) ?_
  refine g_iconst (v := 0) C d_M_walk_83 (by decide) ?_
  refine g_istore C d_M_walk_84 (by decide) ?_
  refine g_iconst (v := 0) C d_M_walk_86 (by decide) ?_
  refine g_istore C d_M_walk_87 (by decide) ?_
  refine g_iload C d_M_walk_89 (upG (upG (upG hl5 rfl) rfl) rfl) ?_
  refine g_iload C d_M_walk_91 (upG (upG (upG hl4 rfl) rfl) rfl) ?_
  refine g_icmp_eq (tgt := 219) C d_M_walk_93 (by decide) hf (fun c8 hf => ?_) (fun c8 hf => ?_)
  · exact t_M_walk_B219 C N _ _ _ _ _ _ ((upG (upG (upG hl0 rfl) rfl) rfl)) ((upG (upG (upG hl3 rfl) rfl) rfl)) ((upG (upG upS rfl) rfl)) ((upG upS rfl)) upS hf
  · refine g_iload C d_M_walk_96 (upG (upG (upG hl4 rfl) rfl) rfl) ?_
    refine g_iload C d_M_walk_98 (upG (upG (upG hl5 rfl) rfl) rfl) ?_
    refine g_icmp_ge (tgt := 108) C d_M_walk_100 (by decide) hf (fun c9 hf => ?_) (fun c9 hf => ?_)
    · refine g_iload C d_M_walk_108 (upG (upG (upG hl5 rfl) rfl) rfl) ?_
      exact t_M_walk_B110 C N _ _ _ _ _ _ _ _ ((upG (upG (upG hl0 rfl) rfl) rfl)) ((upG (upG (upG hl1 rfl) rfl) rfl)) ((upG (upG (upG hl3 rfl) rfl) rfl)) ((upG (upG (upG hl4 rfl) rfl) rfl)) ((upG (upG (upG hl5 rfl) rfl) rfl)) ((upG (upG (upG hl6 rfl) rfl) rfl)) hf
    · refine g_iload C d_M_walk_103 (upG (upG (upG hl4 rfl) rfl) rfl) ?_
      refine g_goto (tgt := 110) C d_M_walk_105 (by decide) ?_
      exact t_M_walk_B110 C N _ _ _ _ _ _ _ _ ((upG (upG (upG hl0 rfl) rfl) rfl)) ((upG (upG (upG hl1 rfl) rfl) rfl)) ((upG (upG (upG hl3 rfl) rfl) rfl)) ((upG (upG (upG hl4 rfl) rfl) rfl)) ((upG (upG (upG hl5 rfl) rfl) rfl)) ((upG (upG (upG hl6 rfl) rfl) rfl)) hf
set_option maxHeartbeats 4000000 in
theorem t_M_walk_B55 {ad : Nat → Nat} {dA : Nat → ClassId} {D : va_G} {p : Program} {l : Launch} {e : Env} {s : State} {m : MethodId} {args : Array Value} {below : List Frame} {meth : Method} {c : Code} {μ' : Mm} (C : Cx CLS SHM ad dA D p s m args meth c c_M_walk 13 R_M (none)) (N : Nat)   : ∀ (v1 : Int32) (v3 : Int32) (v4 : Int32) (v6 : Int32) (s0 : Int32) (μ : Mm) (lv : Nat → Option Value), lv 0 = some (.ref (ad 0)) → lv 1 = some (.int v1) → lv 3 = some (.int v3) → lv 4 = some (.int v4) → lv 6 = some (.int v6) → f_M_walk_B55 N v1 v3 v4 v6 s0 μ = some μ' → Go CLS SHM ad dA D p l e (rmD 4) s m args below meth c 13 none μ' 55 lv [.int s0] μ := by
  intro v1 v3 v4 v6 s0 μ lv hl0 hl1 hl3 hl4 hl6 hf
  unfold f_M_walk_B55 at hf
  refine g_istore C d_M_walk_55 (by decide) ?_
  refine g_aload_n C d_M_walk_57 rfl (upG hl0 rfl) ?_
  refine g_getI (k := 30) C k_M (by decide) fl_M_202 rfl rfl d_M_walk_58 ?_
  refine g_if_ne (tgt := 79) C d_M_walk_61 (by decide) hf (fun c23 hf => ?_) (fun c23 hf => ?_)
  · refine g_aload_n C d_M_walk_64 rfl (upG hl0 rfl) ?_
    refine g_getI (k := 28) C k_M (by decide) fl_M_205 rfl rfl d_M_walk_65 ?_
    refine g_iload C d_M_walk_68 (upG hl4 rfl) ?_
    refine g_icmp_eq (tgt := 79) C d_M_walk_70 (by decide) hf (fun c24 hf => ?_) (fun c24 hf => ?_)
    · exact t_M_walk_B79 C N _ _ _ _ _ _ _ ((upG hl0 rfl)) ((upG hl1 rfl)) ((upG hl3 rfl)) ((upG hl4 rfl)) upS ((upG hl6 rfl)) hf
    · refine g_aload_n C d_M_walk_73 rfl (upG hl0 rfl) ?_
      refine g_getI (k := 28) C k_M (by decide) fl_M_205 rfl rfl d_M_walk_74 ?_
      refine g_istore C d_M_walk_77 (by decide) ?_
      exact t_M_walk_B79 C N _ _ _ _ _ _ _ ((upG (upG hl0 rfl) rfl)) ((upG (upG hl1 rfl) rfl)) ((upG (upG hl3 rfl) rfl)) ((upG (upG hl4 rfl) rfl)) upS ((upG (upG hl6 rfl) rfl)) hf
  · exact t_M_walk_B79 C N _ _ _ _ _ _ _ ((upG hl0 rfl)) ((upG hl1 rfl)) ((upG hl3 rfl)) ((upG hl4 rfl)) upS ((upG hl6 rfl)) hf
set_option maxHeartbeats 4000000 in
theorem t_M_walk {l : Launch} {ad : Nat → Nat} {dA : Nat → ClassId} {D : va_G} (hi : Inj SHM ad) {N : Nat} {a1 : Int32} {a2 : Int32} {a3 : Int32}  {μ μ' : Mm} (hf : f_M_walk N a1 a2 a3 μ = some μ') : Ct CLS l SHM ad dA D y_M_walk c_M_walk 13 (none) 4 [.ref (ad 0), .int a1, .int a2, .int a3] μ none μ' := by
  unfold f_M_walk at hf
  refine ct_of (by decide) hi (Nat.le_of_ble_eq_true rfl) ?_
  intro p e s m args below meth c C
  refine g_aload_n C d_M_walk_0 rfl rfl ?_
  refine g_iload_n C d_M_walk_1 rfl rfl ?_
  refine g_iload_n C d_M_walk_2 rfl rfl ?_
  refine g_cvV C k_M rfl mv_M_find ml_M_212 d_M_walk_3 hf (fun μ1 h => t_M_find C.2.2.2.2.2.2.2.2.1 h) rfl rfl (by decide) (Nat.le_of_ble_eq_true rfl) (fun μ1 hf => ?_)
  refine g_aload_n C d_M_walk_6 rfl rfl ?_
  refine g_getI (k := 28) C k_M (by decide) fl_M_205 rfl rfl d_M_walk_7 ?_
  refine g_istore C d_M_walk_10 (by decide) ?_
  refine g_aload_n C d_M_walk_12 rfl (upG rfl rfl) ?_
  refine g_getI (k := 29) C k_M (by decide) fl_M_208 rfl rfl d_M_walk_13 ?_
  refine g_istore C d_M_walk_16 (by decide) ?_
  refine g_aload_n C d_M_walk_18 rfl (upG (upG rfl rfl) rfl) ?_
  refine g_getI (k := 30) C k_M (by decide) fl_M_202 rfl rfl d_M_walk_19 ?_
  refine g_istore C d_M_walk_22 (by decide) ?_
  refine g_iload C d_M_walk_24 (upG upS rfl) ?_
  refine g_iload C d_M_walk_26 (upG (upG upS rfl) rfl) ?_
  refine g_icmp_ne (tgt := 79) C d_M_walk_28 (by decide) hf (fun c5 hf => ?_) (fun c5 hf => ?_)
  · refine g_aload_n C d_M_walk_31 rfl (upG (upG (upG rfl rfl) rfl) rfl) ?_
    refine g_iload_n C d_M_walk_32 rfl (upG (upG (upG rfl rfl) rfl) rfl) ?_
    refine g_iload_n C d_M_walk_33 rfl (upG (upG (upG rfl rfl) rfl) rfl) ?_
    refine g_iconst (v := 1) C d_M_walk_34 (by decide) ?_
    refine g_iadd C d_M_walk_35 ?_
    refine g_cvV C k_M rfl mv_M_find ml_M_212 d_M_walk_36 hf (fun μ1 h => t_M_find C.2.2.2.2.2.2.2.2.1 h) rfl rfl (by decide) (Nat.le_of_ble_eq_true rfl) (fun μ6 hf => ?_)
    refine g_aload_n C d_M_walk_39 rfl (upG (upG (upG rfl rfl) rfl) rfl) ?_
    refine g_getI (k := 30) C k_M (by decide) fl_M_202 rfl rfl d_M_walk_40 ?_
    refine g_if_le (tgt := 53) C d_M_walk_43 (by decide) hf (fun c7 hf => ?_) (fun c7 hf => ?_)
    · refine g_iload C d_M_walk_53 (upG (upG upS rfl) rfl) ?_
      exact t_M_walk_B55 C N _ _ _ _ _ _ _ ((upG (upG (upG rfl rfl) rfl) rfl)) ((upG (upG (upG rfl rfl) rfl) rfl)) ((upG (upG (upG rfl rfl) rfl) rfl)) ((upG (upG upS rfl) rfl)) upS hf
    · refine g_aload_n C d_M_walk_46 rfl (upG (upG (upG rfl rfl) rfl) rfl) ?_
      refine g_getI (k := 29) C k_M (by decide) fl_M_208 rfl rfl d_M_walk_47 ?_
      refine g_goto (tgt := 55) C d_M_walk_50 (by decide) ?_
      exact t_M_walk_B55 C N _ _ _ _ _ _ _ ((upG (upG (upG rfl rfl) rfl) rfl)) ((upG (upG (upG rfl rfl) rfl) rfl)) ((upG (upG (upG rfl rfl) rfl) rfl)) ((upG (upG upS rfl) rfl)) upS hf
  · exact t_M_walk_B79 C N _ _ _ _ _ _ _ ((upG (upG (upG rfl rfl) rfl) rfl)) ((upG (upG (upG rfl rfl) rfl) rfl)) ((upG (upG (upG rfl rfl) rfl) rfl)) ((upG (upG upS rfl) rfl)) ((upG upS rfl)) upS hf
set_option maxHeartbeats 4000000 in
theorem t_M_areTogether_B134 {ad : Nat → Nat} {dA : Nat → ClassId} {D : va_G} {p : Program} {l : Launch} {e : Env} {s : State} {m : MethodId} {args : Array Value} {below : List Frame} {meth : Method} {c : Code} {r : Int32} {μ' : Mm} (C : Cx CLS SHM ad dA D p s m args meth c c_M_areTogether 8 R_M (some .boolean)) (N : Nat)   : ∀ (v1 : Int32) (v2 : Int32) (v4 : Int32) (v5 : Int32) (v6 : Int32) (v7 : Int32) (μ : Mm) (lv : Nat → Option Value), lv 0 = some (.ref (ad 0)) → lv 1 = some (.int v1) → lv 2 = some (.int v2) → lv 4 = some (.int v4) → lv 5 = some (.int v5) → lv 6 = some (.int v6) → lv 7 = some (.int v7) → f_M_areTogether_B134 N v1 v2 v4 v5 v6 v7 μ = some (r, μ') → Go CLS SHM ad dA D p l e (rmD 4) s m args below meth c 8 (some (.int r)) μ' 134 lv [] μ := by
  intro v1 v2 v4 v5 v6 v7 μ lv hl0 hl1 hl2 hl4 hl5 hl6 hl7 hf
  unfold f_M_areTogether_B134 at hf
  refine g_iload C d_M_areTogether_134 hl4 ?_
  refine g_aload_n C d_M_areTogether_136 rfl hl0 ?_
  refine g_getI (k := 29) C k_M (by decide) fl_M_208 rfl rfl d_M_areTogether_137 ?_
  refine g_icmp_ne (tgt := 182) C d_M_areTogether_140 (by decide) hf (fun c13 hf => ?_) (fun c13 hf => ?_)
  · refine g_iload C d_M_areTogether_143 hl5 ?_
    refine g_aload_n C d_M_areTogether_145 rfl hl0 ?_
    refine g_getI (k := 28) C k_M (by decide) fl_M_205 rfl rfl d_M_areTogether_146 ?_
    refine g_icmp_ne (tgt := 182) C d_M_areTogether_149 (by decide) hf (fun c14 hf => ?_) (fun c14 hf => ?_)
    · refine g_iload C d_M_areTogether_152 hl6 ?_
      refine g_aload_n C d_M_areTogether_154 rfl hl0 ?_
      refine g_getR (b := 11) (k := 17) C k_M (by decide) fl_M_42 rfl rfl d_M_areTogether_155 ?_
      refine g_iload_n C d_M_areTogether_158 rfl hl1 ?_
      refine g_iald C rfl d_M_areTogether_159 hf (fun hf => ?_)
      refine g_imul C d_M_areTogether_160 ?_
      refine g_iload C d_M_areTogether_161 hl7 ?_
      refine g_aload_n C d_M_areTogether_163 rfl hl0 ?_
      refine g_getI (k := 30) C k_M (by decide) fl_M_202 rfl rfl d_M_areTogether_164 ?_
      refine g_aload_n C d_M_areTogether_167 rfl hl0 ?_
      refine g_getR (b := 11) (k := 17) C k_M (by decide) fl_M_42 rfl rfl d_M_areTogether_168 ?_
      refine g_iload_n C d_M_areTogether_171 rfl hl2 ?_
      refine g_iald C rfl d_M_areTogether_172 hf (fun hf => ?_)
      refine g_imul C d_M_areTogether_173 ?_
      refine g_isub C d_M_areTogether_174 ?_
      refine g_icmp_ne (tgt := 182) C d_M_areTogether_175 (by decide) hf (fun c15 hf => ?_) (fun c15 hf => ?_)
      · refine g_iconst (v := 1) C d_M_areTogether_178 (by decide) ?_
        refine g_goto (tgt := 183) C d_M_areTogether_179 (by decide) ?_
        exact g_zretc C d_M_areTogether_183 rfl hf
      · refine g_iconst (v := 0) C d_M_areTogether_182 (by decide) ?_
        exact g_zretc C d_M_areTogether_183 rfl hf
    · refine g_iconst (v := 0) C d_M_areTogether_182 (by decide) ?_
      exact g_zretc C d_M_areTogether_183 rfl hf
  · refine g_iconst (v := 0) C d_M_areTogether_182 (by decide) ?_
    exact g_zretc C d_M_areTogether_183 rfl hf
set_option maxHeartbeats 4000000 in
theorem t_M_areTogether_B42 {ad : Nat → Nat} {dA : Nat → ClassId} {D : va_G} {p : Program} {l : Launch} {e : Env} {s : State} {m : MethodId} {args : Array Value} {below : List Frame} {meth : Method} {c : Code} {r : Int32} {μ' : Mm} (C : Cx CLS SHM ad dA D p s m args meth c c_M_areTogether 8 R_M (some .boolean)) (N : Nat)   : ∀ (v4 : Int32) (v6 : Int32) (μ : Mm) (lv : Nat → Option Value), lv 0 = some (.ref (ad 0)) → lv 4 = some (.int v4) → lv 6 = some (.int v6) → f_M_areTogether_B42 N v4 v6 μ = some (r, μ') → Go CLS SHM ad dA D p l e (rmD 4) s m args below meth c 8 (some (.int r)) μ' 42 lv [] μ := by
  intro v4 v6 μ lv hl0 hl4 hl6 hf
  unfold f_M_areTogether_B42 at hf
  refine g_iload C d_M_areTogether_42 hl6 ?_
  refine g_if_ne (tgt := 67) C d_M_areTogether_44 (by decide) hf (fun c16 hf => ?_) (fun c16 hf => ?_)
  · refine g_aload_n C d_M_areTogether_47 rfl hl0 ?_
    refine g_getI (k := 30) C k_M (by decide) fl_M_202 rfl rfl d_M_areTogether_48 ?_
    refine g_if_ne (tgt := 67) C d_M_areTogether_51 (by decide) hf (fun c17 hf => ?_) (fun c17 hf => ?_)
    · refine g_iload C d_M_areTogether_54 hl4 ?_
      refine g_aload_n C d_M_areTogether_56 rfl hl0 ?_
      refine g_getI (k := 28) C k_M (by decide) fl_M_205 rfl rfl d_M_areTogether_57 ?_
      refine g_icmp_ne (tgt := 67) C d_M_areTogether_60 (by decide) hf (fun c18 hf => ?_) (fun c18 hf => ?_)
      · refine g_iconst (v := 1) C d_M_areTogether_63 (by decide) ?_
        refine g_goto (tgt := 68) C d_M_areTogether_64 (by decide) ?_
        exact g_zretc C d_M_areTogether_68 rfl hf
      · refine g_iconst (v := 0) C d_M_areTogether_67 (by decide) ?_
        exact g_zretc C d_M_areTogether_68 rfl hf
    · refine g_iconst (v := 0) C d_M_areTogether_67 (by decide) ?_
      exact g_zretc C d_M_areTogether_68 rfl hf
  · refine g_iconst (v := 0) C d_M_areTogether_67 (by decide) ?_
    exact g_zretc C d_M_areTogether_68 rfl hf
set_option maxHeartbeats 4000000 in
theorem t_M_areTogether {l : Launch} {ad : Nat → Nat} {dA : Nat → ClassId} {D : va_G} (hi : Inj SHM ad) {N : Nat} {a1 : Int32} {a2 : Int32} {a3 : Int32}  {μ μ' : Mm} {r : Int32} (hf : f_M_areTogether N a1 a2 a3 μ = some (r, μ')) : Ct CLS l SHM ad dA D y_M_areTogether c_M_areTogether 8 (some .boolean) 4 [.ref (ad 0), .int a1, .int a2, .int a3] μ (some (.int r)) μ' := by
  unfold f_M_areTogether at hf
  refine ct_of (by decide) hi (Nat.le_of_ble_eq_true rfl) ?_
  intro p e s m args below meth c C
  refine g_aload_n C d_M_areTogether_0 rfl rfl ?_
  refine g_iload_n C d_M_areTogether_1 rfl rfl ?_
  refine g_iload_n C d_M_areTogether_2 rfl rfl ?_
  refine g_cvV C k_M rfl mv_M_find ml_M_212 d_M_areTogether_3 hf (fun μ1 h => t_M_find C.2.2.2.2.2.2.2.2.1 h) rfl rfl (by decide) (Nat.le_of_ble_eq_true rfl) (fun μ1 hf => ?_)
  refine g_aload_n C d_M_areTogether_6 rfl rfl ?_
  refine g_getI (k := 28) C k_M (by decide) fl_M_205 rfl rfl d_M_areTogether_7 ?_
  refine g_istore C d_M_areTogether_10 (by decide) ?_
  refine g_aload_n C d_M_areTogether_12 rfl (upG rfl rfl) ?_
  refine g_getI (k := 29) C k_M (by decide) fl_M_208 rfl rfl d_M_areTogether_13 ?_
  refine g_istore C d_M_areTogether_16 (by decide) ?_
  refine g_aload_n C d_M_areTogether_18 rfl (upG (upG rfl rfl) rfl) ?_
  refine g_getI (k := 30) C k_M (by decide) fl_M_202 rfl rfl d_M_areTogether_19 ?_
  refine g_istore C d_M_areTogether_22 (by decide) ?_
  refine g_aload_n C d_M_areTogether_24 rfl (upG (upG (upG rfl rfl) rfl) rfl) ?_
  refine g_iload_n C d_M_areTogether_25 rfl (upG (upG (upG rfl rfl) rfl) rfl) ?_
  refine g_iload_n C d_M_areTogether_26 rfl (upG (upG (upG rfl rfl) rfl) rfl) ?_
  refine g_cvV C k_M rfl mv_M_find ml_M_212 d_M_areTogether_27 hf (fun μ1 h => t_M_find C.2.2.2.2.2.2.2.2.1 h) rfl rfl (by decide) (Nat.le_of_ble_eq_true rfl) (fun μ5 hf => ?_)
  refine g_iload C d_M_areTogether_30 upS ?_
  refine g_if_eq (tgt := 42) C d_M_areTogether_32 (by decide) hf (fun c6 hf => ?_) (fun c6 hf => ?_)
  · exact t_M_areTogether_B42 C N _ _ _ _ ((upG (upG (upG rfl rfl) rfl) rfl)) ((upG (upG upS rfl) rfl)) upS hf
  · refine g_aload_n C d_M_areTogether_35 rfl (upG (upG (upG rfl rfl) rfl) rfl) ?_
    refine g_getI (k := 30) C k_M (by decide) fl_M_202 rfl rfl d_M_areTogether_36 ?_
    refine g_if_ne (tgt := 69) C d_M_areTogether_39 (by decide) hf (fun c7 hf => ?_) (fun c7 hf => ?_)
    · exact t_M_areTogether_B42 C N _ _ _ _ ((upG (upG (upG rfl rfl) rfl) rfl)) ((upG (upG upS rfl) rfl)) upS hf
    · refine g_bipush (v := 60) C d_M_areTogether_69 (by decide) ?_
      refine g_aload_n C d_M_areTogether_71 rfl (upG (upG (upG rfl rfl) rfl) rfl) ?_
      refine g_getR (b := 5) (k := 10) C k_M (by decide) fl_M_23 rfl rfl d_M_areTogether_72 ?_
      refine g_bipush (v := 16) C d_M_areTogether_75 (by decide) ?_
      refine g_iload C d_M_areTogether_77 (upG (upG upS rfl) rfl) ?_
      refine g_imul C d_M_areTogether_79 ?_
      refine g_iload C d_M_areTogether_80 (upG upS rfl) ?_
      refine g_iadd C d_M_areTogether_82 ?_
      refine g_iald C rfl d_M_areTogether_83 hf (fun hf => ?_)
      refine g_imul C d_M_areTogether_84 ?_
      refine g_istore C d_M_areTogether_85 (by decide) ?_
      refine g_iload C d_M_areTogether_87 (upG (upG (upG upS rfl) rfl) rfl) ?_
      refine g_aload_n C d_M_areTogether_89 rfl (upG (upG (upG (upG rfl rfl) rfl) rfl) rfl) ?_
      refine g_getI (k := 28) C k_M (by decide) fl_M_205 rfl rfl d_M_areTogether_90 ?_
      refine g_icmp_ne (tgt := 134) C d_M_areTogether_93 (by decide) hf (fun c10 hf => ?_) (fun c10 hf => ?_)
      · refine g_iload C d_M_areTogether_96 (upG (upG upS rfl) rfl) ?_
        refine g_aload_n C d_M_areTogether_98 rfl (upG (upG (upG (upG rfl rfl) rfl) rfl) rfl) ?_
        refine g_getI (k := 29) C k_M (by decide) fl_M_208 rfl rfl d_M_areTogether_99 ?_
        refine g_icmp_ne (tgt := 134) C d_M_areTogether_102 (by decide) hf (fun c11 hf => ?_) (fun c11 hf => ?_)
        · refine g_iload C d_M_areTogether_105 (upG upS rfl) ?_
          refine g_aload_n C d_M_areTogether_107 rfl (upG (upG (upG (upG rfl rfl) rfl) rfl) rfl) ?_
          refine g_getR (b := 11) (k := 17) C k_M (by decide) fl_M_42 rfl rfl d_M_areTogether_108 ?_
          refine g_iload_n C d_M_areTogether_111 rfl (upG (upG (upG (upG rfl rfl) rfl) rfl) rfl) ?_
          refine g_iald C rfl d_M_areTogether_112 hf (fun hf => ?_)
          refine g_imul C d_M_areTogether_113 ?_
          refine g_aload_n C d_M_areTogether_114 rfl (upG (upG (upG (upG rfl rfl) rfl) rfl) rfl) ?_
          refine g_getI (k := 30) C k_M (by decide) fl_M_202 rfl rfl d_M_areTogether_115 ?_
          refine g_aload_n C d_M_areTogether_118 rfl (upG (upG (upG (upG rfl rfl) rfl) rfl) rfl) ?_
          refine g_getR (b := 11) (k := 17) C k_M (by decide) fl_M_42 rfl rfl d_M_areTogether_119 ?_
          refine g_iload_n C d_M_areTogether_122 rfl (upG (upG (upG (upG rfl rfl) rfl) rfl) rfl) ?_
          refine g_iald C rfl d_M_areTogether_123 hf (fun hf => ?_)
          refine g_imul C d_M_areTogether_124 ?_
          refine g_icmp_ne (tgt := 132) C d_M_areTogether_125 (by decide) hf (fun c12 hf => ?_) (fun c12 hf => ?_)
          · refine g_iconst (v := 1) C d_M_areTogether_128 (by decide) ?_
            refine g_goto (tgt := 133) C d_M_areTogether_129 (by decide) ?_
            exact g_zretc C d_M_areTogether_133 rfl hf
          · refine g_iconst (v := 0) C d_M_areTogether_132 (by decide) ?_
            exact g_zretc C d_M_areTogether_133 rfl hf
        · exact t_M_areTogether_B134 C N _ _ _ _ _ _ _ _ ((upG (upG (upG (upG rfl rfl) rfl) rfl) rfl)) ((upG (upG (upG (upG rfl rfl) rfl) rfl) rfl)) ((upG (upG (upG (upG rfl rfl) rfl) rfl) rfl)) ((upG (upG (upG upS rfl) rfl) rfl)) ((upG (upG upS rfl) rfl)) ((upG upS rfl)) upS hf
      · exact t_M_areTogether_B134 C N _ _ _ _ _ _ _ _ ((upG (upG (upG (upG rfl rfl) rfl) rfl) rfl)) ((upG (upG (upG (upG rfl rfl) rfl) rfl) rfl)) ((upG (upG (upG (upG rfl rfl) rfl) rfl) rfl)) ((upG (upG (upG upS rfl) rfl) rfl)) ((upG (upG upS rfl) rfl)) ((upG upS rfl)) upS hf
set_option maxHeartbeats 4000000 in
theorem t_M_jointOf {l : Launch} {ad : Nat → Nat} {dA : Nat → ClassId} {D : va_G} (hi : Inj SHM ad) {N : Nat} {a1 : Int32} {a2 : Int32}  {μ μ' : Mm} {r : Int64} (hf : f_M_jointOf N a1 a2 μ = some (r, μ')) : Ct CLS l SHM ad dA D y_M_jointOf c_M_jointOf 7 (some .long) 3 [.ref (ad 0), .int a1, .int a2] μ (some (.long r)) μ' := by
  unfold f_M_jointOf at hf
  refine ct_of (by decide) hi (Nat.le_of_ble_eq_true rfl) ?_
  intro p e s m args below meth c C
  refine g_aload_n C d_M_jointOf_0 rfl rfl ?_
  refine g_iload_n C d_M_jointOf_1 rfl rfl ?_
  refine g_cvI C k_M rfl mv_M_periodOf ml_M_196 d_M_jointOf_2 hf (fun r μ1 h => t_M_periodOf C.2.2.2.2.2.2.2.2.1 h) rfl rfl (by decide) (Nat.le_of_ble_eq_true rfl) (fun r2 μ1 hf => ?_)
  refine g_i2l C d_M_jointOf_5 ?_
  refine g_lstore_n C d_M_jointOf_6 rfl (by decide) ?_
  refine g_aload_n C d_M_jointOf_7 rfl (upG rfl rfl) ?_
  refine g_iload_n C d_M_jointOf_8 rfl (upG rfl rfl) ?_
  refine g_cvI C k_M rfl mv_M_periodOf ml_M_196 d_M_jointOf_9 hf (fun r μ1 h => t_M_periodOf C.2.2.2.2.2.2.2.2.1 h) rfl rfl (by decide) (Nat.le_of_ble_eq_true rfl) (fun r5 μ4 hf => ?_)
  refine g_i2l C d_M_jointOf_12 ?_
  refine g_lstore C d_M_jointOf_13 (by decide) ?_
  refine g_lload_n C d_M_jointOf_15 rfl (upG upS rfl) ?_
  refine g_lload_n C d_M_jointOf_16 rfl (upG upS rfl) ?_
  refine g_lload C d_M_jointOf_17 upS ?_
  refine g_csL C mv_M_gcd ml_M_124 d_M_jointOf_19 hf (fun r μ1 h => t_M_gcd C.2.2.2.2.2.2.2.2.1 h) rfl rfl (by decide) (Nat.le_of_ble_eq_true rfl) (fun r8 μ7 hf => ?_)
  refine g_ldiv C d_M_jointOf_22 hf (fun hf => ?_)
  refine g_lload C d_M_jointOf_23 upS ?_
  refine g_lmul C d_M_jointOf_25 ?_
  exact g_lret C d_M_jointOf_26 hf
