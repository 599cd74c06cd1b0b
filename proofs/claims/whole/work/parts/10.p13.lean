set_option maxHeartbeats 4000000 in
theorem t_M_roundLength {l : Launch} {ad : Nat → Nat} {dA : Nat → ClassId} {D : va_G} (hi : Inj SHM ad) {N : Nat}   {μ μ' : Mm} {r : Int32} (hf : f_M_roundLength N  μ = some (r, μ')) : Ct CLS l SHM ad dA D y_M_roundLength c_M_roundLength 1 (some .int) 1 [.ref (ad 0)] μ (some (.int r)) μ' := by
  unfold f_M_roundLength at hf
  refine ct_of (by decide) hi (Nat.le_of_ble_eq_true rfl) ?_
  intro p e s m args below meth c C
  refine g_aload_n C d_M_roundLength_0 rfl rfl ?_
  refine g_getI (k := 46) C k_M (by decide) fl_M_325 rfl rfl d_M_roundLength_1 ?_
  refine g_iconst (v := 2) C d_M_roundLength_4 (by decide) ?_
  refine g_icmp_ge (tgt := 12) C d_M_roundLength_5 (by decide) hf (fun c1 hf => ?_) (fun c1 hf => ?_)
  · refine g_aload_n C d_M_roundLength_12 rfl rfl ?_
    refine g_iconst (v := 1) C d_M_roundLength_13 (by decide) ?_
    refine g_aload_n C d_M_roundLength_14 rfl rfl ?_
    refine g_getI (k := 46) C k_M (by decide) fl_M_325 rfl rfl d_M_roundLength_15 ?_
    refine g_ishl C d_M_roundLength_18 ?_
    refine g_iconst (v := 2) C d_M_roundLength_19 (by decide) ?_
    refine g_isub C d_M_roundLength_20 ?_
    refine g_iconst (v := 0) C d_M_roundLength_21 (by decide) ?_
    refine g_cvI C k_M rfl mv_M_restOf ml_M_331 d_M_roundLength_22 hf (fun r μ1 h => t_M_restOf C.2.2.2.2.2.2.2.2.1 h) rfl rfl (by decide) (Nat.le_of_ble_eq_true rfl) (fun r3 μ2 hf => ?_)
    exact g_iret C d_M_roundLength_25 hf
  · refine g_iconst (v := 0) C d_M_roundLength_8 (by decide) ?_
    refine g_goto (tgt := 25) C d_M_roundLength_9 (by decide) ?_
    exact g_iret C d_M_roundLength_25 hf
set_option maxHeartbeats 4000000 in
theorem t_M_round {l : Launch} {ad : Nat → Nat} {dA : Nat → ClassId} {D : va_G} (hi : Inj SHM ad) {N : Nat}   {μ μ' : Mm} {r : Int32} (hf : f_M_round N  μ = some (r, μ')) : Ct CLS l SHM ad dA D y_M_round c_M_round 2 (some .int) 2 [.ref (ad 0)] μ (some (.int r)) μ' := by
  unfold f_M_round at hf
  refine ct_of (by decide) hi (Nat.le_of_ble_eq_true rfl) ?_
  intro p e s m args below meth c C
  refine g_aload_n C d_M_round_0 rfl rfl ?_
  refine g_cvI C k_M rfl mv_M_layRound ml_M_334 d_M_round_1 hf (fun r μ1 h => t_M_layRound C.2.2.2.2.2.2.2.2.1 h) rfl rfl (by decide) (Nat.le_of_ble_eq_true rfl) (fun r2 μ1 hf => ?_)
  refine g_if_ne (tgt := 10) C d_M_round_4 (by decide) hf (fun c3 hf => ?_) (fun c3 hf => ?_)
  · refine g_bipush (v := -4) C d_M_round_7 (by decide) ?_
    exact g_iret C d_M_round_9 hf
  · refine g_aload_n C d_M_round_10 rfl rfl ?_
    refine g_cvI C k_M rfl mv_M_roundLength ml_M_337 d_M_round_11 hf (fun r μ1 h => t_M_roundLength C.2.2.2.2.2.2.2.2.1 h) rfl rfl (by decide) (Nat.le_of_ble_eq_true rfl) (fun r5 μ4 hf => ?_)
    refine g_istore_n C d_M_round_14 rfl (by decide) ?_
    refine g_iload_n C d_M_round_15 rfl upS ?_
    refine g_ldc C ck_M_158 d_M_round_16 ?_
    refine g_icmp_lt (tgt := 26) C d_M_round_18 (by decide) hf (fun c6 hf => ?_) (fun c6 hf => ?_)
    · refine g_iload_n C d_M_round_26 rfl upS ?_
      exact g_iret C d_M_round_27 hf
    · refine g_bipush (v := -9) C d_M_round_21 (by decide) ?_
      refine g_goto (tgt := 27) C d_M_round_23 (by decide) ?_
      exact g_iret C d_M_round_27 hf
set_option maxHeartbeats 4000000 in
theorem t_M_roundAt_B123 {ad : Nat → Nat} {dA : Nat → ClassId} {D : va_G} {p : Program} {l : Launch} {e : Env} {s : State} {m : MethodId} {args : Array Value} {below : List Frame} {meth : Method} {c : Code} {r : Int32} {μ' : Mm} (C : Cx CLS SHM ad dA D p s m args meth c c_M_roundAt 6 R_M (some .int)) (N : Nat)   : ∀ (v3 : Int32) (μ : Mm) (lv : Nat → Option Value), lv 0 = some (.ref (ad 0)) → lv 3 = some (.int v3) → f_M_roundAt_B123 N v3 μ = some (r, μ') → Go CLS SHM ad dA D p l e (rmD 2) s m args below meth c 6 (some (.int r)) μ' 123 lv [] μ := by
  intro v3 μ lv hl0 hl3 hf
  unfold f_M_roundAt_B123 at hf
  refine g_aload_n C d_M_roundAt_123 rfl hl0 ?_
  refine g_getR (b := 24) (k := 47) C k_M (by decide) fl_M_82 rfl rfl d_M_roundAt_124 ?_
  refine g_iload_n C d_M_roundAt_127 rfl hl3 ?_
  refine g_iald C rfl d_M_roundAt_128 hf (fun hf => ?_)
  exact g_iret C d_M_roundAt_129 hf
set_option maxHeartbeats 4000000 in
theorem t_M_roundAt_B105 {ad : Nat → Nat} {dA : Nat → ClassId} {D : va_G} {p : Program} {l : Launch} {e : Env} {s : State} {m : MethodId} {args : Array Value} {below : List Frame} {meth : Method} {c : Code} {r : Int32} {μ' : Mm} (C : Cx CLS SHM ad dA D p s m args meth c c_M_roundAt 6 R_M (some .int)) (N : Nat)   (k50 : Int32 → Int32 → Int32 → Int32 → Mm → Option (Int32 × Mm)) (hk50 : ∀ (v1 : Int32) (v2 : Int32) (v3 : Int32) (v4 : Int32) (μ : Mm) (lv : Nat → Option Value), lv 0 = some (.ref (ad 0)) → lv 1 = some (.int v1) → lv 2 = some (.int v2) → lv 3 = some (.int v3) → lv 4 = some (.int v4) → k50 v1 v2 v3 v4 μ = some (r, μ') → Go CLS SHM ad dA D p l e (rmD 2) s m args below meth c 6 (some (.int r)) μ' 50 lv [] μ) : ∀ (v1 : Int32) (v2 : Int32) (v4 : Int32) (v5 : Int32) (μ : Mm) (lv : Nat → Option Value), lv 0 = some (.ref (ad 0)) → lv 1 = some (.int v1) → lv 2 = some (.int v2) → lv 4 = some (.int v4) → lv 5 = some (.int v5) → f_M_roundAt_B105 N k50 v1 v2 v4 v5 μ = some (r, μ') → Go CLS SHM ad dA D p l e (rmD 2) s m args below meth c 6 (some (.int r)) μ' 105 lv [] μ := by
  intro v1 v2 v4 v5 μ lv hl0 hl1 hl2 hl4 hl5 hf
  unfold f_M_roundAt_B105 at hf
  refine g_iload_n C d_M_roundAt_105 rfl hl2 ?_
  refine g_iconst (v := 1) C d_M_roundAt_106 (by decide) ?_
  refine g_iload C d_M_roundAt_107 hl5 ?_
  refine g_ishl C d_M_roundAt_109 ?_
  refine g_iconst (v := -1) C d_M_roundAt_110 (by decide) ?_
  refine g_ixor C d_M_roundAt_111 ?_
  refine g_iand C d_M_roundAt_112 ?_
  refine g_istore_n C d_M_roundAt_113 rfl (by decide) ?_
  refine g_iload C d_M_roundAt_114 (upG hl5 rfl) ?_
  refine g_istore_n C d_M_roundAt_116 rfl (by decide) ?_
  refine g_iinc (v := 1) C d_M_roundAt_117 (upG (upG hl4 rfl) rfl) (by decide) (by decide) ?_
  refine g_goto (tgt := 50) C d_M_roundAt_120 (by decide) ?_
  exact hk50 _ _ _ _ _ _ ((upG (upG (upG hl0 rfl) rfl) rfl)) ((upG (upG (upG hl1 rfl) rfl) rfl)) ((upG (upG upS rfl) rfl)) ((upG upS rfl)) upS hf
set_option maxHeartbeats 4000000 in
theorem t_M_roundAt_B99 {ad : Nat → Nat} {dA : Nat → ClassId} {D : va_G} {p : Program} {l : Launch} {e : Env} {s : State} {m : MethodId} {args : Array Value} {below : List Frame} {meth : Method} {c : Code} {r : Int32} {μ' : Mm} (C : Cx CLS SHM ad dA D p s m args meth c c_M_roundAt 6 R_M (some .int)) (N : Nat)   (k50 : Int32 → Int32 → Int32 → Int32 → Mm → Option (Int32 × Mm)) (hk50 : ∀ (v1 : Int32) (v2 : Int32) (v3 : Int32) (v4 : Int32) (μ : Mm) (lv : Nat → Option Value), lv 0 = some (.ref (ad 0)) → lv 1 = some (.int v1) → lv 2 = some (.int v2) → lv 3 = some (.int v3) → lv 4 = some (.int v4) → k50 v1 v2 v3 v4 μ = some (r, μ') → Go CLS SHM ad dA D p l e (rmD 2) s m args below meth c 6 (some (.int r)) μ' 50 lv [] μ) (k59 : Int32 → Int32 → Int32 → Int32 → Int32 → Mm → Option (Int32 × Mm)) (hk59 : ∀ (v1 : Int32) (v2 : Int32) (v3 : Int32) (v4 : Int32) (v5 : Int32) (μ : Mm) (lv : Nat → Option Value), lv 0 = some (.ref (ad 0)) → lv 1 = some (.int v1) → lv 2 = some (.int v2) → lv 3 = some (.int v3) → lv 4 = some (.int v4) → lv 5 = some (.int v5) → k59 v1 v2 v3 v4 v5 μ = some (r, μ') → Go CLS SHM ad dA D p l e (rmD 2) s m args below meth c 6 (some (.int r)) μ' 59 lv [] μ) : ∀ (v1 : Int32) (v2 : Int32) (v3 : Int32) (v4 : Int32) (v5 : Int32) (μ : Mm) (lv : Nat → Option Value), lv 0 = some (.ref (ad 0)) → lv 1 = some (.int v1) → lv 2 = some (.int v2) → lv 3 = some (.int v3) → lv 4 = some (.int v4) → lv 5 = some (.int v5) → f_M_roundAt_B99 N k50 k59 v1 v2 v3 v4 v5 μ = some (r, μ') → Go CLS SHM ad dA D p l e (rmD 2) s m args below meth c 6 (some (.int r)) μ' 99 lv [] μ := by
  intro v1 v2 v3 v4 v5 μ lv hl0 hl1 hl2 hl3 hl4 hl5 hf
  unfold f_M_roundAt_B99 at hf
  refine g_iinc (v := 1) C d_M_roundAt_99 hl5 (by decide) (by decide) ?_
  refine g_goto (tgt := 59) C d_M_roundAt_102 (by decide) ?_
  exact hk59 _ _ _ _ _ _ _ ((upG hl0 rfl)) ((upG hl1 rfl)) ((upG hl2 rfl)) ((upG hl3 rfl)) ((upG hl4 rfl)) upS hf
set_option maxHeartbeats 4000000 in
theorem t_M_roundAt_L59 {ad : Nat → Nat} {dA : Nat → ClassId} {D : va_G} {p : Program} {l : Launch} {e : Env} {s : State} {m : MethodId} {args : Array Value} {below : List Frame} {meth : Method} {c : Code} {r : Int32} {μ' : Mm} (C : Cx CLS SHM ad dA D p s m args meth c c_M_roundAt 6 R_M (some .int)) (N : Nat)   (k50 : Int32 → Int32 → Int32 → Int32 → Mm → Option (Int32 × Mm)) (hk50 : ∀ (v1 : Int32) (v2 : Int32) (v3 : Int32) (v4 : Int32) (μ : Mm) (lv : Nat → Option Value), lv 0 = some (.ref (ad 0)) → lv 1 = some (.int v1) → lv 2 = some (.int v2) → lv 3 = some (.int v3) → lv 4 = some (.int v4) → k50 v1 v2 v3 v4 μ = some (r, μ') → Go CLS SHM ad dA D p l e (rmD 2) s m args below meth c 6 (some (.int r)) μ' 50 lv [] μ) : ∀ (n : Nat) (v1 : Int32) (v2 : Int32) (v3 : Int32) (v4 : Int32) (v5 : Int32) (μ : Mm) (lv : Nat → Option Value), lv 0 = some (.ref (ad 0)) → lv 1 = some (.int v1) → lv 2 = some (.int v2) → lv 3 = some (.int v3) → lv 4 = some (.int v4) → lv 5 = some (.int v5) → f_M_roundAt_L59 N k50 n v1 v2 v3 v4 v5 μ = some (r, μ') → Go CLS SHM ad dA D p l e (rmD 2) s m args below meth c 6 (some (.int r)) μ' 59 lv [] μ := by
  intro n
  induction n with
  | zero => intro v1 v2 v3 v4 v5 μ lv hl0 hl1 hl2 hl3 hl4 hl5 hf; cases (show none = some _ from hf)
  | succ n ih =>
    intro v1 v2 v3 v4 v5 μ lv hl0 hl1 hl2 hl3 hl4 hl5 hf
    unfold f_M_roundAt_L59 at hf
    refine g_iload_n C d_M_roundAt_59 rfl hl2 ?_
    refine g_iload C d_M_roundAt_60 hl5 ?_
    refine g_ishr C d_M_roundAt_62 ?_
    refine g_iconst (v := 1) C d_M_roundAt_63 (by decide) ?_
    refine g_iand C d_M_roundAt_64 ?_
    refine g_if_eq (tgt := 99) C d_M_roundAt_65 (by decide) hf (fun c12 hf => ?_) (fun c12 hf => ?_)
    · exact t_M_roundAt_B99 C N _ hk50 _ ih _ _ _ _ _ _ _ hl0 hl1 hl2 hl3 hl4 hl5 hf
    · refine g_aload_n C d_M_roundAt_68 rfl hl0 ?_
      refine g_iload_n C d_M_roundAt_69 rfl hl3 ?_
      refine g_iload C d_M_roundAt_70 hl5 ?_
      refine g_cvI C k_M rfl mv_M_hop ml_M_328 d_M_roundAt_72 hf (fun r μ1 h => t_M_hop C.2.2.2.2.2.2.2.2.1 h) rfl rfl (by decide) (Nat.le_of_ble_eq_true rfl) (fun r14 μ13 hf => ?_)
      refine g_aload_n C d_M_roundAt_75 rfl hl0 ?_
      refine g_iload_n C d_M_roundAt_76 rfl hl2 ?_
      refine g_iconst (v := 1) C d_M_roundAt_77 (by decide) ?_
      refine g_iload C d_M_roundAt_78 hl5 ?_
      refine g_ishl C d_M_roundAt_80 ?_
      refine g_iconst (v := -1) C d_M_roundAt_81 (by decide) ?_
      refine g_ixor C d_M_roundAt_82 ?_
      refine g_iand C d_M_roundAt_83 ?_
      refine g_iload C d_M_roundAt_84 hl5 ?_
      refine g_cvI C k_M rfl mv_M_restOf ml_M_331 d_M_roundAt_86 hf (fun r μ1 h => t_M_restOf C.2.2.2.2.2.2.2.2.1 h) rfl rfl (by decide) (Nat.le_of_ble_eq_true rfl) (fun r16 μ15 hf => ?_)
      refine g_iadd C d_M_roundAt_89 ?_
      refine g_aload_n C d_M_roundAt_90 rfl hl0 ?_
      refine g_iload_n C d_M_roundAt_91 rfl hl2 ?_
      refine g_iload_n C d_M_roundAt_92 rfl hl3 ?_
      refine g_cvI C k_M rfl mv_M_restOf ml_M_331 d_M_roundAt_93 hf (fun r μ1 h => t_M_restOf C.2.2.2.2.2.2.2.2.1 h) rfl rfl (by decide) (Nat.le_of_ble_eq_true rfl) (fun r18 μ17 hf => ?_)
      refine g_icmp_eq (tgt := 105) C d_M_roundAt_96 (by decide) hf (fun c19 hf => ?_) (fun c19 hf => ?_)
      · exact t_M_roundAt_B105 C N _ hk50 _ _ _ _ _ _ hl0 hl1 hl2 hl4 hl5 hf
      · exact t_M_roundAt_B99 C N _ hk50 _ ih _ _ _ _ _ _ _ hl0 hl1 hl2 hl3 hl4 hl5 hf
set_option maxHeartbeats 4000000 in
theorem t_M_roundAt_L50 {ad : Nat → Nat} {dA : Nat → ClassId} {D : va_G} {p : Program} {l : Launch} {e : Env} {s : State} {m : MethodId} {args : Array Value} {below : List Frame} {meth : Method} {c : Code} {r : Int32} {μ' : Mm} (C : Cx CLS SHM ad dA D p s m args meth c c_M_roundAt 6 R_M (some .int)) (N : Nat)   : ∀ (n : Nat) (v1 : Int32) (v2 : Int32) (v3 : Int32) (v4 : Int32) (μ : Mm) (lv : Nat → Option Value), lv 0 = some (.ref (ad 0)) → lv 1 = some (.int v1) → lv 2 = some (.int v2) → lv 3 = some (.int v3) → lv 4 = some (.int v4) → f_M_roundAt_L50 N n v1 v2 v3 v4 μ = some (r, μ') → Go CLS SHM ad dA D p l e (rmD 2) s m args below meth c 6 (some (.int r)) μ' 50 lv [] μ := by
  intro n
  induction n with
  | zero => intro v1 v2 v3 v4 μ lv hl0 hl1 hl2 hl3 hl4 hf; cases (show none = some _ from hf)
  | succ n ih =>
    intro v1 v2 v3 v4 μ lv hl0 hl1 hl2 hl3 hl4 hf
    unfold f_M_roundAt_L50 at hf
    refine g_iload C d_M_roundAt_50 hl4 ?_
    refine g_iload_n C d_M_roundAt_52 rfl hl1 ?_
    refine g_icmp_ge (tgt := 123) C d_M_roundAt_53 (by decide) hf (fun c11 hf => ?_) (fun c11 hf => ?_)
    · exact t_M_roundAt_B123 C N _ _ _ hl0 hl3 hf
    · refine g_iconst (v := 0) C d_M_roundAt_56 (by decide) ?_
      refine g_istore C d_M_roundAt_57 (by decide) ?_
      exact t_M_roundAt_L59 C N _ ih N _ _ _ _ _ _ _ ((upG hl0 rfl)) ((upG hl1 rfl)) ((upG hl2 rfl)) ((upG hl3 rfl)) ((upG hl4 rfl)) upS hf
set_option maxHeartbeats 4000000 in
theorem t_M_roundAt {l : Launch} {ad : Nat → Nat} {dA : Nat → ClassId} {D : va_G} (hi : Inj SHM ad) {N : Nat} {a1 : Int32}  {μ μ' : Mm} {r : Int32} (hf : f_M_roundAt N a1 μ = some (r, μ')) : Ct CLS l SHM ad dA D y_M_roundAt c_M_roundAt 6 (some .int) 2 [.ref (ad 0), .int a1] μ (some (.int r)) μ' := by
  unfold f_M_roundAt at hf
  refine ct_of (by decide) hi (Nat.le_of_ble_eq_true rfl) ?_
  intro p e s m args below meth c C
  refine g_aload_n C d_M_roundAt_0 rfl rfl ?_
  refine g_cvI C k_M rfl mv_M_layRound ml_M_334 d_M_roundAt_1 hf (fun r μ1 h => t_M_layRound C.2.2.2.2.2.2.2.2.1 h) rfl rfl (by decide) (Nat.le_of_ble_eq_true rfl) (fun r2 μ1 hf => ?_)
  refine g_if_ne (tgt := 10) C d_M_roundAt_4 (by decide) hf (fun c3 hf => ?_) (fun c3 hf => ?_)
  · refine g_bipush (v := -4) C d_M_roundAt_7 (by decide) ?_
    exact g_iret C d_M_roundAt_9 hf
  · refine g_iload_n C d_M_roundAt_10 rfl rfl ?_
    refine g_iconst (v := 0) C d_M_roundAt_11 (by decide) ?_
    refine g_aload_n C d_M_roundAt_12 rfl rfl ?_
    refine g_getI (k := 46) C k_M (by decide) fl_M_325 rfl rfl d_M_roundAt_13 ?_
    refine g_iconst (v := 1) C d_M_roundAt_16 (by decide) ?_
    refine g_isub C d_M_roundAt_17 ?_
    refine g_csI C mv_M_in ml_M_117 d_M_roundAt_18 hf (fun r μ1 h => t_M_in C.2.2.2.2.2.2.2.2.1 h) rfl rfl (by decide) (Nat.le_of_ble_eq_true rfl) (fun r5 μ4 hf => ?_)
    refine g_if_eq (tgt := 33) C d_M_roundAt_21 (by decide) hf (fun c6 hf => ?_) (fun c6 hf => ?_)
    · refine g_bipush (v := -9) C d_M_roundAt_33 (by decide) ?_
      exact g_iret C d_M_roundAt_35 hf
    · refine g_aload_n C d_M_roundAt_24 rfl rfl ?_
      refine g_cvI C k_M rfl mv_M_roundLength ml_M_337 d_M_roundAt_25 hf (fun r μ1 h => t_M_roundLength C.2.2.2.2.2.2.2.2.1 h) rfl rfl (by decide) (Nat.le_of_ble_eq_true rfl) (fun r8 μ7 hf => ?_)
      refine g_ldc C ck_M_158 d_M_roundAt_28 ?_
      refine g_icmp_lt (tgt := 36) C d_M_roundAt_30 (by decide) hf (fun c9 hf => ?_) (fun c9 hf => ?_)
      · refine g_iconst (v := 1) C d_M_roundAt_36 (by decide) ?_
        refine g_aload_n C d_M_roundAt_37 rfl rfl ?_
        refine g_getI (k := 46) C k_M (by decide) fl_M_325 rfl rfl d_M_roundAt_38 ?_
        refine g_ishl C d_M_roundAt_41 ?_
        refine g_iconst (v := 2) C d_M_roundAt_42 (by decide) ?_
        refine g_isub C d_M_roundAt_43 ?_
        refine g_istore_n C d_M_roundAt_44 rfl (by decide) ?_
        refine g_iconst (v := 0) C d_M_roundAt_45 (by decide) ?_
        refine g_istore_n C d_M_roundAt_46 rfl (by decide) ?_
        refine g_iconst (v := 0) C d_M_roundAt_47 (by decide) ?_
        refine g_istore C d_M_roundAt_48 (by decide) ?_
        exact t_M_roundAt_L50 C N N _ _ _ _ _ _ ((upG (upG (upG rfl rfl) rfl) rfl)) ((upG (upG (upG rfl rfl) rfl) rfl)) ((upG (upG upS rfl) rfl)) ((upG upS rfl)) upS hf
      · refine g_bipush (v := -9) C d_M_roundAt_33 (by decide) ?_
        exact g_iret C d_M_roundAt_35 hf
set_option maxHeartbeats 4000000 in
theorem t_M_part_B225 {ad : Nat → Nat} {dA : Nat → ClassId} {D : va_G} {p : Program} {l : Launch} {e : Env} {s : State} {m : MethodId} {args : Array Value} {below : List Frame} {meth : Method} {c : Code} {μ' : Mm} (C : Cx CLS SHM ad dA D p s m args meth c c_M_part 11 R_M (none)) (N : Nat) (kr : Int32 → Int32 → Int32 → Int32 → Int32 → Mm → Option Mm) {dp : Nat} (hkr : ∀ (b1 b2 b3 b4 b5 : Int32) (μa μb : Mm), kr b1 b2 b3 b4 b5 μa = some μb → Ct CLS l SHM ad dA D y_M_part c_M_part 11 none dp [.ref (ad 0), .int b1, .int b2, .int b3, .int b4, .int b5] μa none μb)   (k69 : Int32 → Int32 → Int32 → Int32 → Int32 → Int32 → Mm → Option Mm) (hk69 : ∀ (v1 : Int32) (v2 : Int32) (v3 : Int32) (v4 : Int32) (v5 : Int32) (v6 : Int32) (μ : Mm) (lv : Nat → Option Value), lv 0 = some (.ref (ad 0)) → lv 1 = some (.int v1) → lv 2 = some (.int v2) → lv 3 = some (.int v3) → lv 4 = some (.int v4) → lv 5 = some (.int v5) → lv 6 = some (.int v6) → k69 v1 v2 v3 v4 v5 v6 μ = some μ' → Go CLS SHM ad dA D p l e (rmD (dp + 1)) s m args below meth c 11 none μ' 69 lv [] μ) : ∀ (v1 : Int32) (v2 : Int32) (v3 : Int32) (v4 : Int32) (v5 : Int32) (v6 : Int32) (μ : Mm) (lv : Nat → Option Value), lv 0 = some (.ref (ad 0)) → lv 1 = some (.int v1) → lv 2 = some (.int v2) → lv 3 = some (.int v3) → lv 4 = some (.int v4) → lv 5 = some (.int v5) → lv 6 = some (.int v6) → f_M_part_B225 N kr k69 v1 v2 v3 v4 v5 v6 μ = some μ' → Go CLS SHM ad dA D p l e (rmD (dp + 1)) s m args below meth c 11 none μ' 225 lv [] μ := by
  intro v1 v2 v3 v4 v5 v6 μ lv hl0 hl1 hl2 hl3 hl4 hl5 hl6 hf
  unfold f_M_part_B225 at hf
  refine g_iinc (v := 1) C d_M_part_225 hl6 (by decide) (by decide) ?_
  refine g_goto (tgt := 69) C d_M_part_228 (by decide) ?_
  exact hk69 _ _ _ _ _ _ _ _ ((upG hl0 rfl)) ((upG hl1 rfl)) ((upG hl2 rfl)) ((upG hl3 rfl)) ((upG hl4 rfl)) ((upG hl5 rfl)) upS hf
set_option maxHeartbeats 4000000 in
theorem t_M_part_B222 {ad : Nat → Nat} {dA : Nat → ClassId} {D : va_G} {p : Program} {l : Launch} {e : Env} {s : State} {m : MethodId} {args : Array Value} {below : List Frame} {meth : Method} {c : Code} {μ' : Mm} (C : Cx CLS SHM ad dA D p s m args meth c c_M_part 11 R_M (none)) (N : Nat) (kr : Int32 → Int32 → Int32 → Int32 → Int32 → Mm → Option Mm) {dp : Nat} (hkr : ∀ (b1 b2 b3 b4 b5 : Int32) (μa μb : Mm), kr b1 b2 b3 b4 b5 μa = some μb → Ct CLS l SHM ad dA D y_M_part c_M_part 11 none dp [.ref (ad 0), .int b1, .int b2, .int b3, .int b4, .int b5] μa none μb)   (k69 : Int32 → Int32 → Int32 → Int32 → Int32 → Int32 → Mm → Option Mm) (hk69 : ∀ (v1 : Int32) (v2 : Int32) (v3 : Int32) (v4 : Int32) (v5 : Int32) (v6 : Int32) (μ : Mm) (lv : Nat → Option Value), lv 0 = some (.ref (ad 0)) → lv 1 = some (.int v1) → lv 2 = some (.int v2) → lv 3 = some (.int v3) → lv 4 = some (.int v4) → lv 5 = some (.int v5) → lv 6 = some (.int v6) → k69 v1 v2 v3 v4 v5 v6 μ = some μ' → Go CLS SHM ad dA D p l e (rmD (dp + 1)) s m args below meth c 11 none μ' 69 lv [] μ) : ∀ (v1 : Int32) (v2 : Int32) (v3 : Int32) (v4 : Int32) (v5 : Int32) (v6 : Int32) (s1 : Int32) (s2 : Int32) (s3 : Int32) (s4 : Int32) (s5 : Int32) (μ : Mm) (lv : Nat → Option Value), lv 0 = some (.ref (ad 0)) → lv 1 = some (.int v1) → lv 2 = some (.int v2) → lv 3 = some (.int v3) → lv 4 = some (.int v4) → lv 5 = some (.int v5) → lv 6 = some (.int v6) → f_M_part_B222 N kr k69 v1 v2 v3 v4 v5 v6 s1 s2 s3 s4 s5 μ = some μ' → Go CLS SHM ad dA D p l e (rmD (dp + 1)) s m args below meth c 11 none μ' 222 lv [.int s5, .int s4, .int s3, .int s2, .int s1, .ref (ad 0)] μ := by
  intro v1 v2 v3 v4 v5 v6 s1 s2 s3 s4 s5 μ lv hl0 hl1 hl2 hl3 hl4 hl5 hl6 hf
  unfold f_M_part_B222 at hf
  refine g_cvV C k_M rfl mv_M_part ml_M_347 d_M_part_222 hf (fun μ1 h => hkr _ _ _ _ _ _ _ h) rfl rfl (by simp [rmD]; try omega) (Nat.le_of_ble_eq_true rfl) (fun μ20 hf => ?_)
  exact t_M_part_B225 C N kr hkr _ hk69 _ _ _ _ _ _ _ _ hl0 hl1 hl2 hl3 hl4 hl5 hl6 hf
set_option maxHeartbeats 4000000 in
theorem t_M_part_B163 {ad : Nat → Nat} {dA : Nat → ClassId} {D : va_G} {p : Program} {l : Launch} {e : Env} {s : State} {m : MethodId} {args : Array Value} {below : List Frame} {meth : Method} {c : Code} {μ' : Mm} (C : Cx CLS SHM ad dA D p s m args meth c c_M_part 11 R_M (none)) (N : Nat) (kr : Int32 → Int32 → Int32 → Int32 → Int32 → Mm → Option Mm) {dp : Nat} (hkr : ∀ (b1 b2 b3 b4 b5 : Int32) (μa μb : Mm), kr b1 b2 b3 b4 b5 μa = some μb → Ct CLS l SHM ad dA D y_M_part c_M_part 11 none dp [.ref (ad 0), .int b1, .int b2, .int b3, .int b4, .int b5] μa none μb)   (k69 : Int32 → Int32 → Int32 → Int32 → Int32 → Int32 → Mm → Option Mm) (hk69 : ∀ (v1 : Int32) (v2 : Int32) (v3 : Int32) (v4 : Int32) (v5 : Int32) (v6 : Int32) (μ : Mm) (lv : Nat → Option Value), lv 0 = some (.ref (ad 0)) → lv 1 = some (.int v1) → lv 2 = some (.int v2) → lv 3 = some (.int v3) → lv 4 = some (.int v4) → lv 5 = some (.int v5) → lv 6 = some (.int v6) → k69 v1 v2 v3 v4 v5 v6 μ = some μ' → Go CLS SHM ad dA D p l e (rmD (dp + 1)) s m args below meth c 11 none μ' 69 lv [] μ) : ∀ (v1 : Int32) (v2 : Int32) (v3 : Int32) (v4 : Int32) (v5 : Int32) (v6 : Int32) (s0 : Int32) (μ : Mm) (lv : Nat → Option Value), lv 0 = some (.ref (ad 0)) → lv 1 = some (.int v1) → lv 2 = some (.int v2) → lv 3 = some (.int v3) → lv 4 = some (.int v4) → lv 5 = some (.int v5) → lv 6 = some (.int v6) → f_M_part_B163 N kr k69 v1 v2 v3 v4 v5 v6 s0 μ = some μ' → Go CLS SHM ad dA D p l e (rmD (dp + 1)) s m args below meth c 11 none μ' 163 lv [.int s0] μ := by
  intro v1 v2 v3 v4 v5 v6 s0 μ lv hl0 hl1 hl2 hl3 hl4 hl5 hl6 hf
  unfold f_M_part_B163 at hf
  refine g_istore C d_M_part_163 (by decide) ?_
  refine g_iconst (v := 2) C d_M_part_165 (by decide) ?_
  refine g_iload C d_M_part_166 upS ?_
  refine g_imul C d_M_part_168 ?_
  refine g_aload_n C d_M_part_169 rfl (upG hl0 rfl) ?_
  refine g_aload_n C d_M_part_170 rfl (upG hl0 rfl) ?_
  refine g_getR (b := 26) (k := 50) C k_M (by decide) fl_M_88 rfl rfl d_M_part_171 ?_
  refine g_iload C d_M_part_174 (upG hl6 rfl) ?_
  refine g_iald C rfl d_M_part_176 hf (fun hf => ?_)
  refine g_cvI C k_M rfl mv_M_unitOf ml_M_190 d_M_part_177 hf (fun r μ1 h => t_M_unitOf C.2.2.2.2.2.2.2.2.1 h) rfl rfl (by simp [rmD]; try omega) (Nat.le_of_ble_eq_true rfl) (fun r16 μ15 hf => ?_)
  refine g_imul C d_M_part_180 ?_
  refine g_istore C d_M_part_181 (by decide) ?_
  refine g_aload_n C d_M_part_183 rfl (upG (upG hl0 rfl) rfl) ?_
  refine g_getR (b := 27) (k := 51) C k_M (by decide) fl_M_91 rfl rfl d_M_part_184 ?_
  refine g_iload_n C d_M_part_187 rfl (upG (upG hl1 rfl) rfl) ?_
  refine g_iload C d_M_part_188 (upG (upG hl6 rfl) rfl) ?_
  refine g_iast C rfl d_M_part_190 hf (fun hf => ?_)
  refine g_aload_n C d_M_part_191 rfl (upG (upG hl0 rfl) rfl) ?_
  refine g_iload_n C d_M_part_192 rfl (upG (upG hl1 rfl) rfl) ?_
  refine g_iconst (v := 1) C d_M_part_193 (by decide) ?_
  refine g_iadd C d_M_part_194 ?_
  refine g_iload C d_M_part_195 (upG (upG hl6 rfl) rfl) ?_
  refine g_iload C d_M_part_197 (upG upS rfl) ?_
  refine g_iload C d_M_part_199 (upG (upG hl4 rfl) rfl) ?_
  refine g_iconst (v := 1) C d_M_part_201 (by decide) ?_
  refine g_iload C d_M_part_202 (upG (upG hl6 rfl) rfl) ?_
  refine g_ishl C d_M_part_204 ?_
  refine g_iconst (v := -1) C d_M_part_205 (by decide) ?_
  refine g_ixor C d_M_part_206 ?_
  refine g_iand C d_M_part_207 ?_
  refine g_iload C d_M_part_208 upS ?_
  refine g_iload C d_M_part_210 (upG (upG hl5 rfl) rfl) ?_
  refine g_icmp_le (tgt := 220) C d_M_part_212 (by decide) hf (fun c19 hf => ?_) (fun c19 hf => ?_)
  · refine g_iload C d_M_part_220 (upG (upG hl5 rfl) rfl) ?_
    exact t_M_part_B222 C N kr hkr _ hk69 _ _ _ _ _ _ _ _ _ _ _ _ _ ((upG (upG hl0 rfl) rfl)) ((upG (upG hl1 rfl) rfl)) ((upG (upG hl2 rfl) rfl)) ((upG (upG hl3 rfl) rfl)) ((upG (upG hl4 rfl) rfl)) ((upG (upG hl5 rfl) rfl)) ((upG (upG hl6 rfl) rfl)) hf
  · refine g_iload C d_M_part_215 upS ?_
    refine g_goto (tgt := 222) C d_M_part_217 (by decide) ?_
    exact t_M_part_B222 C N kr hkr _ hk69 _ _ _ _ _ _ _ _ _ _ _ _ _ ((upG (upG hl0 rfl) rfl)) ((upG (upG hl1 rfl) rfl)) ((upG (upG hl2 rfl) rfl)) ((upG (upG hl3 rfl) rfl)) ((upG (upG hl4 rfl) rfl)) ((upG (upG hl5 rfl) rfl)) ((upG (upG hl6 rfl) rfl)) hf
set_option maxHeartbeats 4000000 in
theorem t_M_part_B139 {ad : Nat → Nat} {dA : Nat → ClassId} {D : va_G} {p : Program} {l : Launch} {e : Env} {s : State} {m : MethodId} {args : Array Value} {below : List Frame} {meth : Method} {c : Code} {μ' : Mm} (C : Cx CLS SHM ad dA D p s m args meth c c_M_part 11 R_M (none)) (N : Nat) (kr : Int32 → Int32 → Int32 → Int32 → Int32 → Mm → Option Mm) {dp : Nat} (hkr : ∀ (b1 b2 b3 b4 b5 : Int32) (μa μb : Mm), kr b1 b2 b3 b4 b5 μa = some μb → Ct CLS l SHM ad dA D y_M_part c_M_part 11 none dp [.ref (ad 0), .int b1, .int b2, .int b3, .int b4, .int b5] μa none μb)   (k69 : Int32 → Int32 → Int32 → Int32 → Int32 → Int32 → Mm → Option Mm) (hk69 : ∀ (v1 : Int32) (v2 : Int32) (v3 : Int32) (v4 : Int32) (v5 : Int32) (v6 : Int32) (μ : Mm) (lv : Nat → Option Value), lv 0 = some (.ref (ad 0)) → lv 1 = some (.int v1) → lv 2 = some (.int v2) → lv 3 = some (.int v3) → lv 4 = some (.int v4) → lv 5 = some (.int v5) → lv 6 = some (.int v6) → k69 v1 v2 v3 v4 v5 v6 μ = some μ' → Go CLS SHM ad dA D p l e (rmD (dp + 1)) s m args below meth c 11 none μ' 69 lv [] μ) : ∀ (v1 : Int32) (v2 : Int32) (v3 : Int32) (v4 : Int32) (v5 : Int32) (v6 : Int32) (v7 : Int32) (μ : Mm) (lv : Nat → Option Value), lv 0 = some (.ref (ad 0)) → lv 1 = some (.int v1) → lv 2 = some (.int v2) → lv 3 = some (.int v3) → lv 4 = some (.int v4) → lv 5 = some (.int v5) → lv 6 = some (.int v6) → lv 7 = some (.int v7) → f_M_part_B139 N kr k69 v1 v2 v3 v4 v5 v6 v7 μ = some μ' → Go CLS SHM ad dA D p l e (rmD (dp + 1)) s m args below meth c 11 none μ' 139 lv [] μ := by
  intro v1 v2 v3 v4 v5 v6 v7 μ lv hl0 hl1 hl2 hl3 hl4 hl5 hl6 hl7 hf
  unfold f_M_part_B139 at hf
  refine g_iload C d_M_part_139 hl7 ?_
  refine g_if_eq (tgt := 162) C d_M_part_141 (by decide) hf (fun c13 hf => ?_) (fun c13 hf => ?_)
  · refine g_iconst (v := 0) C d_M_part_162 (by decide) ?_
    exact t_M_part_B163 C N kr hkr _ hk69 _ _ _ _ _ _ _ _ _ hl0 hl1 hl2 hl3 hl4 hl5 hl6 hf
  · refine g_iload_n C d_M_part_144 rfl hl3 ?_
    refine g_aload_n C d_M_part_145 rfl hl0 ?_
    refine g_getR (b := 5) (k := 10) C k_M (by decide) fl_M_23 rfl rfl d_M_part_146 ?_
    refine g_bipush (v := 16) C d_M_part_149 (by decide) ?_
    refine g_iload_n C d_M_part_151 rfl hl1 ?_
    refine g_iconst (v := 1) C d_M_part_152 (by decide) ?_
    refine g_isub C d_M_part_153 ?_
    refine g_imul C d_M_part_154 ?_
    refine g_iload_n C d_M_part_155 rfl hl1 ?_
    refine g_iadd C d_M_part_156 ?_
    refine g_iald C rfl d_M_part_157 hf (fun hf => ?_)
    refine g_iadd C d_M_part_158 ?_
    refine g_goto (tgt := 163) C d_M_part_159 (by decide) ?_
    exact t_M_part_B163 C N kr hkr _ hk69 _ _ _ _ _ _ _ _ _ hl0 hl1 hl2 hl3 hl4 hl5 hl6 hf
set_option maxHeartbeats 4000000 in
theorem t_M_part_B127 {ad : Nat → Nat} {dA : Nat → ClassId} {D : va_G} {p : Program} {l : Launch} {e : Env} {s : State} {m : MethodId} {args : Array Value} {below : List Frame} {meth : Method} {c : Code} {μ' : Mm} (C : Cx CLS SHM ad dA D p s m args meth c c_M_part 11 R_M (none)) (N : Nat) (kr : Int32 → Int32 → Int32 → Int32 → Int32 → Mm → Option Mm) {dp : Nat} (hkr : ∀ (b1 b2 b3 b4 b5 : Int32) (μa μb : Mm), kr b1 b2 b3 b4 b5 μa = some μb → Ct CLS l SHM ad dA D y_M_part c_M_part 11 none dp [.ref (ad 0), .int b1, .int b2, .int b3, .int b4, .int b5] μa none μb)   (k69 : Int32 → Int32 → Int32 → Int32 → Int32 → Int32 → Mm → Option Mm) (hk69 : ∀ (v1 : Int32) (v2 : Int32) (v3 : Int32) (v4 : Int32) (v5 : Int32) (v6 : Int32) (μ : Mm) (lv : Nat → Option Value), lv 0 = some (.ref (ad 0)) → lv 1 = some (.int v1) → lv 2 = some (.int v2) → lv 3 = some (.int v3) → lv 4 = some (.int v4) → lv 5 = some (.int v5) → lv 6 = some (.int v6) → k69 v1 v2 v3 v4 v5 v6 μ = some μ' → Go CLS SHM ad dA D p l e (rmD (dp + 1)) s m args below meth c 11 none μ' 69 lv [] μ) : ∀ (v1 : Int32) (v2 : Int32) (v3 : Int32) (v4 : Int32) (v5 : Int32) (v6 : Int32) (v7 : Int32) (s0 : Int32) (μ : Mm) (lv : Nat → Option Value), lv 0 = some (.ref (ad 0)) → lv 1 = some (.int v1) → lv 2 = some (.int v2) → lv 3 = some (.int v3) → lv 4 = some (.int v4) → lv 5 = some (.int v5) → lv 6 = some (.int v6) → lv 7 = some (.int v7) → f_M_part_B127 N kr k69 v1 v2 v3 v4 v5 v6 v7 s0 μ = some μ' → Go CLS SHM ad dA D p l e (rmD (dp + 1)) s m args below meth c 11 none μ' 127 lv [.int s0] μ := by
  intro v1 v2 v3 v4 v5 v6 v7 s0 μ lv hl0 hl1 hl2 hl3 hl4 hl5 hl6 hl7 hf
  unfold f_M_part_B127 at hf
  refine g_istore C d_M_part_127 (by decide) ?_
  refine g_iload C d_M_part_129 (upG hl7 rfl) ?_
  refine g_if_ne (tgt := 139) C d_M_part_131 (by decide) hf (fun c11 hf => ?_) (fun c11 hf => ?_)
  · refine g_iload C d_M_part_134 upS ?_
    refine g_if_eq (tgt := 225) C d_M_part_136 (by decide) hf (fun c12 hf => ?_) (fun c12 hf => ?_)
    · exact t_M_part_B225 C N kr hkr _ hk69 _ _ _ _ _ _ _ _ ((upG hl0 rfl)) ((upG hl1 rfl)) ((upG hl2 rfl)) ((upG hl3 rfl)) ((upG hl4 rfl)) ((upG hl5 rfl)) ((upG hl6 rfl)) hf
    · exact t_M_part_B139 C N kr hkr _ hk69 _ _ _ _ _ _ _ _ _ ((upG hl0 rfl)) ((upG hl1 rfl)) ((upG hl2 rfl)) ((upG hl3 rfl)) ((upG hl4 rfl)) ((upG hl5 rfl)) ((upG hl6 rfl)) ((upG hl7 rfl)) hf
  · exact t_M_part_B139 C N kr hkr _ hk69 _ _ _ _ _ _ _ _ _ ((upG hl0 rfl)) ((upG hl1 rfl)) ((upG hl2 rfl)) ((upG hl3 rfl)) ((upG hl4 rfl)) ((upG hl5 rfl)) ((upG hl6 rfl)) ((upG hl7 rfl)) hf
set_option maxHeartbeats 4000000 in
theorem t_M_part_B109 {ad : Nat → Nat} {dA : Nat → ClassId} {D : va_G} {p : Program} {l : Launch} {e : Env} {s : State} {m : MethodId} {args : Array Value} {below : List Frame} {meth : Method} {c : Code} {μ' : Mm} (C : Cx CLS SHM ad dA D p s m args meth c c_M_part 11 R_M (none)) (N : Nat) (kr : Int32 → Int32 → Int32 → Int32 → Int32 → Mm → Option Mm) {dp : Nat} (hkr : ∀ (b1 b2 b3 b4 b5 : Int32) (μa μb : Mm), kr b1 b2 b3 b4 b5 μa = some μb → Ct CLS l SHM ad dA D y_M_part c_M_part 11 none dp [.ref (ad 0), .int b1, .int b2, .int b3, .int b4, .int b5] μa none μb)   (k69 : Int32 → Int32 → Int32 → Int32 → Int32 → Int32 → Mm → Option Mm) (hk69 : ∀ (v1 : Int32) (v2 : Int32) (v3 : Int32) (v4 : Int32) (v5 : Int32) (v6 : Int32) (μ : Mm) (lv : Nat → Option Value), lv 0 = some (.ref (ad 0)) → lv 1 = some (.int v1) → lv 2 = some (.int v2) → lv 3 = some (.int v3) → lv 4 = some (.int v4) → lv 5 = some (.int v5) → lv 6 = some (.int v6) → k69 v1 v2 v3 v4 v5 v6 μ = some μ' → Go CLS SHM ad dA D p l e (rmD (dp + 1)) s m args below meth c 11 none μ' 69 lv [] μ) : ∀ (v1 : Int32) (v2 : Int32) (v3 : Int32) (v4 : Int32) (v5 : Int32) (v6 : Int32) (s0 : Int32) (μ : Mm) (lv : Nat → Option Value), lv 0 = some (.ref (ad 0)) → lv 1 = some (.int v1) → lv 2 = some (.int v2) → lv 3 = some (.int v3) → lv 4 = some (.int v4) → lv 5 = some (.int v5) → lv 6 = some (.int v6) → f_M_part_B109 N kr k69 v1 v2 v3 v4 v5 v6 s0 μ = some μ' → Go CLS SHM ad dA D p l e (rmD (dp + 1)) s m args below meth c 11 none μ' 109 lv [.int s0] μ := by
  intro v1 v2 v3 v4 v5 v6 s0 μ lv hl0 hl1 hl2 hl3 hl4 hl5 hl6 hf
  unfold f_M_part_B109 at hf
  refine g_istore C d_M_part_109 (by decide) ?_
  refine g_iload C d_M_part_111 (upG hl4 rfl) ?_
  refine g_iload C d_M_part_113 (upG hl6 rfl) ?_
  refine g_ishr C d_M_part_115 ?_
  refine g_iconst (v := 1) C d_M_part_116 (by decide) ?_
  refine g_iand C d_M_part_117 ?_
  refine g_iconst (v := 1) C d_M_part_118 (by decide) ?_
  refine g_icmp_ne (tgt := 126) C d_M_part_119 (by decide) hf (fun c10 hf => ?_) (fun c10 hf => ?_)
  · refine g_iconst (v := 1) C d_M_part_122 (by decide) ?_
    refine g_goto (tgt := 127) C d_M_part_123 (by decide) ?_
    exact t_M_part_B127 C N kr hkr _ hk69 _ _ _ _ _ _ _ _ _ _ ((upG hl0 rfl)) ((upG hl1 rfl)) ((upG hl2 rfl)) ((upG hl3 rfl)) ((upG hl4 rfl)) ((upG hl5 rfl)) ((upG hl6 rfl)) upS hf
  · refine g_iconst (v := 0) C d_M_part_126 (by decide) ?_
    exact t_M_part_B127 C N kr hkr _ hk69 _ _ _ _ _ _ _ _ _ _ ((upG hl0 rfl)) ((upG hl1 rfl)) ((upG hl2 rfl)) ((upG hl3 rfl)) ((upG hl4 rfl)) ((upG hl5 rfl)) ((upG hl6 rfl)) upS hf
set_option maxHeartbeats 4000000 in
theorem t_M_part_B108 {ad : Nat → Nat} {dA : Nat → ClassId} {D : va_G} {p : Program} {l : Launch} {e : Env} {s : State} {m : MethodId} {args : Array Value} {below : List Frame} {meth : Method} {c : Code} {μ' : Mm} (C : Cx CLS SHM ad dA D p s m args meth c c_M_part 11 R_M (none)) (N : Nat) (kr : Int32 → Int32 → Int32 → Int32 → Int32 → Mm → Option Mm) {dp : Nat} (hkr : ∀ (b1 b2 b3 b4 b5 : Int32) (μa μb : Mm), kr b1 b2 b3 b4 b5 μa = some μb → Ct CLS l SHM ad dA D y_M_part c_M_part 11 none dp [.ref (ad 0), .int b1, .int b2, .int b3, .int b4, .int b5] μa none μb)   (k69 : Int32 → Int32 → Int32 → Int32 → Int32 → Int32 → Mm → Option Mm) (hk69 : ∀ (v1 : Int32) (v2 : Int32) (v3 : Int32) (v4 : Int32) (v5 : Int32) (v6 : Int32) (μ : Mm) (lv : Nat → Option Value), lv 0 = some (.ref (ad 0)) → lv 1 = some (.int v1) → lv 2 = some (.int v2) → lv 3 = some (.int v3) → lv 4 = some (.int v4) → lv 5 = some (.int v5) → lv 6 = some (.int v6) → k69 v1 v2 v3 v4 v5 v6 μ = some μ' → Go CLS SHM ad dA D p l e (rmD (dp + 1)) s m args below meth c 11 none μ' 69 lv [] μ) : ∀ (v1 : Int32) (v2 : Int32) (v3 : Int32) (v4 : Int32) (v5 : Int32) (v6 : Int32) (μ : Mm) (lv : Nat → Option Value), lv 0 = some (.ref (ad 0)) → lv 1 = some (.int v1) → lv 2 = some (.int v2) → lv 3 = some (.int v3) → lv 4 = some (.int v4) → lv 5 = some (.int v5) → lv 6 = some (.int v6) → f_M_part_B108 N kr k69 v1 v2 v3 v4 v5 v6 μ = some μ' → Go CLS SHM ad dA D p l e (rmD (dp + 1)) s m args below meth c 11 none μ' 108 lv [] μ := by
  intro v1 v2 v3 v4 v5 v6 μ lv hl0 hl1 hl2 hl3 hl4 hl5 hl6 hf
  unfold f_M_part_B108 at hf
  refine g_iconst (v := 0) C d_M_part_108 (by decide) ?_
  exact t_M_part_B109 C N kr hkr _ hk69 _ _ _ _ _ _ _ _ _ hl0 hl1 hl2 hl3 hl4 hl5 hl6 hf
set_option maxHeartbeats 4000000 in
theorem t_M_part_L69 {ad : Nat → Nat} {dA : Nat → ClassId} {D : va_G} {p : Program} {l : Launch} {e : Env} {s : State} {m : MethodId} {args : Array Value} {below : List Frame} {meth : Method} {c : Code} {μ' : Mm} (C : Cx CLS SHM ad dA D p s m args meth c c_M_part 11 R_M (none)) (N : Nat) (kr : Int32 → Int32 → Int32 → Int32 → Int32 → Mm → Option Mm) {dp : Nat} (hkr : ∀ (b1 b2 b3 b4 b5 : Int32) (μa μb : Mm), kr b1 b2 b3 b4 b5 μa = some μb → Ct CLS l SHM ad dA D y_M_part c_M_part 11 none dp [.ref (ad 0), .int b1, .int b2, .int b3, .int b4, .int b5] μa none μb)   : ∀ (n : Nat) (v1 : Int32) (v2 : Int32) (v3 : Int32) (v4 : Int32) (v5 : Int32) (v6 : Int32) (μ : Mm) (lv : Nat → Option Value), lv 0 = some (.ref (ad 0)) → lv 1 = some (.int v1) → lv 2 = some (.int v2) → lv 3 = some (.int v3) → lv 4 = some (.int v4) → lv 5 = some (.int v5) → lv 6 = some (.int v6) → f_M_part_L69 N kr n v1 v2 v3 v4 v5 v6 μ = some μ' → Go CLS SHM ad dA D p l e (rmD (dp + 1)) s m args below meth c 11 none μ' 69 lv [] μ := by
  intro n
  induction n with
  | zero => intro v1 v2 v3 v4 v5 v6 μ lv hl0 hl1 hl2 hl3 hl4 hl5 hl6 hf; cases (show none = some _ from hf)
  | succ n ih =>
    intro v1 v2 v3 v4 v5 v6 μ lv hl0 hl1 hl2 hl3 hl4 hl5 hl6 hf
    unfold f_M_part_L69 at hf
    refine g_iload C d_M_part_69 hl6 ?_
    refine g_aload_n C d_M_part_71 rfl hl0 ?_
    refine g_getI (k := 49) C k_M (by decide) fl_M_344 rfl rfl d_M_part_72 ?_
    refine g_icmp_ge (tgt := 231) C d_M_part_75 (by decide) hf (fun c5 hf => ?_) (fun c5 hf => ?_)
    · exact g_vret C d_M_part_231 hf
    · refine g_iload C d_M_part_78 hl6 ?_
      refine g_iload_n C d_M_part_80 rfl hl2 ?_
      refine g_icmp_ne (tgt := 108) C d_M_part_81 (by decide) hf (fun c6 hf => ?_) (fun c6 hf => ?_)
      · refine g_iload_n C d_M_part_84 rfl hl1 ?_
        refine g_if_le (tgt := 108) C d_M_part_85 (by decide) hf (fun c7 hf => ?_) (fun c7 hf => ?_)
        · exact t_M_part_B108 C N kr hkr _ ih _ _ _ _ _ _ _ _ hl0 hl1 hl2 hl3 hl4 hl5 hl6 hf
        · refine g_aload_n C d_M_part_88 rfl hl0 ?_
          refine g_getR (b := 6) (k := 11) C k_M (by decide) fl_M_26 rfl rfl d_M_part_89 ?_
          refine g_bipush (v := 16) C d_M_part_92 (by decide) ?_
          refine g_iload_n C d_M_part_94 rfl hl1 ?_
          refine g_iconst (v := 1) C d_M_part_95 (by decide) ?_
          refine g_isub C d_M_part_96 ?_
          refine g_imul C d_M_part_97 ?_
          refine g_iload_n C d_M_part_98 rfl hl1 ?_
          refine g_iadd C d_M_part_99 ?_
          refine g_zald C rfl d_M_part_100 hf (fun hf => ?_)
          refine g_if_ne (tgt := 108) C d_M_part_101 (by decide) hf (fun c9 hf => ?_) (fun c9 hf => ?_)
          · refine g_iconst (v := 1) C d_M_part_104 (by decide) ?_
            refine g_goto (tgt := 109) C d_M_part_105 (by decide) ?_
            exact t_M_part_B109 C N kr hkr _ ih _ _ _ _ _ _ _ _ _ hl0 hl1 hl2 hl3 hl4 hl5 hl6 hf
          · exact t_M_part_B108 C N kr hkr _ ih _ _ _ _ _ _ _ _ hl0 hl1 hl2 hl3 hl4 hl5 hl6 hf
      · exact t_M_part_B108 C N kr hkr _ ih _ _ _ _ _ _ _ _ hl0 hl1 hl2 hl3 hl4 hl5 hl6 hf
set_option maxHeartbeats 4000000 in
theorem t_M_part_L36 {ad : Nat → Nat} {dA : Nat → ClassId} {D : va_G} {p : Program} {l : Launch} {e : Env} {s : State} {m : MethodId} {args : Array Value} {below : List Frame} {meth : Method} {c : Code} {μ' : Mm} (C : Cx CLS SHM ad dA D p s m args meth c c_M_part 11 R_M (none)) (N : Nat) (kr : Int32 → Int32 → Int32 → Int32 → Int32 → Mm → Option Mm) {dp : Nat} (hkr : ∀ (b1 b2 b3 b4 b5 : Int32) (μa μb : Mm), kr b1 b2 b3 b4 b5 μa = some μb → Ct CLS l SHM ad dA D y_M_part c_M_part 11 none dp [.ref (ad 0), .int b1, .int b2, .int b3, .int b4, .int b5] μa none μb)   : ∀ (n : Nat) (v6 : Int32) (μ : Mm) (lv : Nat → Option Value), lv 0 = some (.ref (ad 0)) → lv 6 = some (.int v6) → f_M_part_L36 N kr n v6 μ = some μ' → Go CLS SHM ad dA D p l e (rmD (dp + 1)) s m args below meth c 11 none μ' 36 lv [] μ := by
  intro n
  induction n with
  | zero => intro v6 μ lv hl0 hl6 hf; cases (show none = some _ from hf)
  | succ n ih =>
    intro v6 μ lv hl0 hl6 hf
    unfold f_M_part_L36 at hf
    refine g_iload C d_M_part_36 hl6 ?_
    refine g_aload_n C d_M_part_38 rfl hl0 ?_
    refine g_getI (k := 9) C k_M (by decide) fl_M_111 rfl rfl d_M_part_39 ?_
    refine g_icmp_ge (tgt := 65) C d_M_part_42 (by decide) hf (fun c22 hf => ?_) (fun c22 hf => ?_)
    · exact g_vret C d_M_part_65 hf
    · refine g_aload_n C d_M_part_45 rfl hl0 ?_
      refine g_getR (b := 28) (k := 52) C k_M (by decide) fl_M_94 rfl rfl d_M_part_46 ?_
      refine g_iload C d_M_part_49 hl6 ?_
      refine g_aload_n C d_M_part_51 rfl hl0 ?_
      refine g_getR (b := 27) (k := 51) C k_M (by decide) fl_M_91 rfl rfl d_M_part_52 ?_
      refine g_iload C d_M_part_55 hl6 ?_
      refine g_iald C rfl d_M_part_57 hf (fun hf => ?_)
      refine g_iast C rfl d_M_part_58 hf (fun hf => ?_)
      refine g_iinc (v := 1) C d_M_part_59 hl6 (by decide) (by decide) ?_
      refine g_goto (tgt := 36) C d_M_part_62 (by decide) ?_
      exact ih _ _ _ ((upG hl0 rfl)) upS hf
set_option maxHeartbeats 4000000 in
theorem t_M_part_B19 {ad : Nat → Nat} {dA : Nat → ClassId} {D : va_G} {p : Program} {l : Launch} {e : Env} {s : State} {m : MethodId} {args : Array Value} {below : List Frame} {meth : Method} {c : Code} {μ' : Mm} (C : Cx CLS SHM ad dA D p s m args meth c c_M_part 11 R_M (none)) (N : Nat) (kr : Int32 → Int32 → Int32 → Int32 → Int32 → Mm → Option Mm) {dp : Nat} (hkr : ∀ (b1 b2 b3 b4 b5 : Int32) (μa μb : Mm), kr b1 b2 b3 b4 b5 μa = some μb → Ct CLS l SHM ad dA D y_M_part c_M_part 11 none dp [.ref (ad 0), .int b1, .int b2, .int b3, .int b4, .int b5] μa none μb)   : ∀ (v1 : Int32) (v2 : Int32) (v3 : Int32) (v4 : Int32) (v5 : Int32) (μ : Mm) (lv : Nat → Option Value), lv 0 = some (.ref (ad 0)) → lv 1 = some (.int v1) → lv 2 = some (.int v2) → lv 3 = some (.int v3) → lv 4 = some (.int v4) → lv 5 = some (.int v5) → f_M_part_B19 N kr v1 v2 v3 v4 v5 μ = some μ' → Go CLS SHM ad dA D p l e (rmD (dp + 1)) s m args below meth c 11 none μ' 19 lv [] μ := by
  intro v1 v2 v3 v4 v5 μ lv hl0 hl1 hl2 hl3 hl4 hl5 hf
  unfold f_M_part_B19 at hf
  refine g_iload_n C d_M_part_19 rfl hl1 ?_
  refine g_aload_n C d_M_part_20 rfl hl0 ?_
  refine g_getI (k := 9) C k_M (by decide) fl_M_111 rfl rfl d_M_part_21 ?_
  refine g_icmp_ne (tgt := 66) C d_M_part_24 (by decide) hf (fun c3 hf => ?_) (fun c3 hf => ?_)
  · refine g_aload_n C d_M_part_27 rfl hl0 ?_
    refine g_iload C d_M_part_28 hl5 ?_
    refine g_putI (k := 53) C k_M (by decide) fl_M_341 rfl rfl rfl rfl d_M_part_30 ?_
    refine g_iconst (v := 0) C d_M_part_33 (by decide) ?_
    refine g_istore C d_M_part_34 (by decide) ?_
    exact t_M_part_L36 C N kr hkr N _ _ _ ((upG hl0 rfl)) upS hf
  · refine g_iconst (v := 0) C d_M_part_66 (by decide) ?_
    refine g_istore C d_M_part_67 (by decide) ?_
    exact t_M_part_L69 C N kr hkr N _ _ _ _ _ _ _ _ ((upG hl0 rfl)) ((upG hl1 rfl)) ((upG hl2 rfl)) ((upG hl3 rfl)) ((upG hl4 rfl)) ((upG hl5 rfl)) upS hf
set_option maxHeartbeats 4000000 in
theorem t_M_part {l : Launch} {ad : Nat → Nat} {dA : Nat → ClassId} {D : va_G} (hi : Inj SHM ad) {N : Nat} : ∀ (n : Nat) (a1 : Int32) (a2 : Int32) (a3 : Int32) (a4 : Int32) (a5 : Int32) (μ μ' : Mm), f_M_part N n a1 a2 a3 a4 a5 μ = some μ' → Ct CLS l SHM ad dA D y_M_part c_M_part 11 (none) (n + 1) [.ref (ad 0), .int a1, .int a2, .int a3, .int a4, .int a5] μ none μ' := by
  intro n
  induction n with
  | zero => intro a1 a2 a3 a4 a5 μ μ' hf; cases (show none = some _ from hf)
  | succ n ih =>
    intro a1 a2 a3 a4 a5 μ μ' hf
    unfold f_M_part f_M_part_b at hf
    refine ct_of (by decide) hi (Nat.le_of_ble_eq_true rfl) ?_
    intro p e s m args below meth c C
    have hkr := ih
    refine g_aload_n C d_M_part_0 rfl rfl ?_
    refine g_getI (k := 53) C k_M (by decide) fl_M_341 rfl rfl d_M_part_1 ?_
    refine g_bipush (v := -9) C d_M_part_4 (by decide) ?_
    refine g_icmp_eq (tgt := 19) C d_M_part_6 (by decide) hf (fun c1 hf => ?_) (fun c1 hf => ?_)
    · exact t_M_part_B19 C N _ hkr _ _ _ _ _ _ _ rfl rfl rfl rfl rfl rfl hf
    · refine g_iload C d_M_part_9 rfl ?_
      refine g_aload_n C d_M_part_11 rfl rfl ?_
      refine g_getI (k := 53) C k_M (by decide) fl_M_341 rfl rfl d_M_part_12 ?_
      refine g_icmp_lt (tgt := 19) C d_M_part_15 (by decide) hf (fun c2 hf => ?_) (fun c2 hf => ?_)
      · exact t_M_part_B19 C N _ hkr _ _ _ _ _ _ _ rfl rfl rfl rfl rfl rfl hf
      · exact g_vret C d_M_part_18 hf
set_option maxHeartbeats 4000000 in
theorem t_M_parting_B227 {ad : Nat → Nat} {dA : Nat → ClassId} {D : va_G} {p : Program} {l : Launch} {e : Env} {s : State} {m : MethodId} {args : Array Value} {below : List Frame} {meth : Method} {c : Code} {r : Int32} {μ' : Mm} (C : Cx CLS SHM ad dA D p s m args meth c c_M_parting 3 R_M (some .int)) (N : Nat)   : ∀  (μ : Mm) (lv : Nat → Option Value), lv 0 = some (.ref (ad 0)) → f_M_parting_B227 N μ = some (r, μ') → Go CLS SHM ad dA D p l e (rmD 42) s m args below meth c 3 (some (.int r)) μ' 227 lv [] μ := by
  intro μ lv hl0 hf
  unfold f_M_parting_B227 at hf
  refine g_aload_n C d_M_parting_227 rfl hl0 ?_
  refine g_getI (k := 53) C k_M (by decide) fl_M_341 rfl rfl d_M_parting_228 ?_
  exact g_iret C d_M_parting_231 hf
set_option maxHeartbeats 4000000 in
theorem t_M_parting_B213 {ad : Nat → Nat} {dA : Nat → ClassId} {D : va_G} {p : Program} {l : Launch} {e : Env} {s : State} {m : MethodId} {args : Array Value} {below : List Frame} {meth : Method} {c : Code} {r : Int32} {μ' : Mm} (C : Cx CLS SHM ad dA D p s m args meth c c_M_parting 3 R_M (some .int)) (N : Nat)   (k167 : Int32 → Mm → Option (Int32 × Mm)) (hk167 : ∀ (v1 : Int32) (μ : Mm) (lv : Nat → Option Value), lv 0 = some (.ref (ad 0)) → lv 1 = some (.int v1) → k167 v1 μ = some (r, μ') → Go CLS SHM ad dA D p l e (rmD 42) s m args below meth c 3 (some (.int r)) μ' 167 lv [] μ) : ∀ (v1 : Int32) (v2 : Int32) (s1 : Int32) (s2 : Int32) (μ : Mm) (lv : Nat → Option Value), lv 0 = some (.ref (ad 0)) → lv 1 = some (.int v1) → lv 2 = some (.int v2) → f_M_parting_B213 N k167 v1 v2 s1 s2 μ = some (r, μ') → Go CLS SHM ad dA D p l e (rmD 42) s m args below meth c 3 (some (.int r)) μ' 213 lv [.int s2, .int s1, .ref (ad 29)] μ := by
  intro v1 v2 s1 s2 μ lv hl0 hl1 hl2 hf
  unfold f_M_parting_B213 at hf
  refine g_iast C rfl d_M_parting_213 hf (fun hf => ?_)
  refine g_aload_n C d_M_parting_214 rfl hl0 ?_
  refine g_getR (b := 30) (k := 55) C k_M (by decide) fl_M_100 rfl rfl d_M_parting_215 ?_
  refine g_iload_n C d_M_parting_218 rfl hl2 ?_
  refine g_iload_n C d_M_parting_219 rfl hl1 ?_
  refine g_iast C rfl d_M_parting_220 hf (fun hf => ?_)
  refine g_iinc (v := 1) C d_M_parting_221 hl1 (by decide) (by decide) ?_
  refine g_goto (tgt := 167) C d_M_parting_224 (by decide) ?_
  exact hk167 _ _ _ ((upG hl0 rfl)) upS hf
set_option maxHeartbeats 4000000 in
theorem t_M_parting_L167 {ad : Nat → Nat} {dA : Nat → ClassId} {D : va_G} {p : Program} {l : Launch} {e : Env} {s : State} {m : MethodId} {args : Array Value} {below : List Frame} {meth : Method} {c : Code} {r : Int32} {μ' : Mm} (C : Cx CLS SHM ad dA D p s m args meth c c_M_parting 3 R_M (some .int)) (N : Nat)   : ∀ (n : Nat) (v1 : Int32) (μ : Mm) (lv : Nat → Option Value), lv 0 = some (.ref (ad 0)) → lv 1 = some (.int v1) → f_M_parting_L167 N n v1 μ = some (r, μ') → Go CLS SHM ad dA D p l e (rmD 42) s m args below meth c 3 (some (.int r)) μ' 167 lv [] μ := by
  intro n
  induction n with
  | zero => intro v1 μ lv hl0 hl1 hf; cases (show none = some _ from hf)
  | succ n ih =>
    intro v1 μ lv hl0 hl1 hf
    unfold f_M_parting_L167 at hf
    refine g_iload_n C d_M_parting_167 rfl hl1 ?_
    refine g_aload_n C d_M_parting_168 rfl hl0 ?_
    refine g_getI (k := 9) C k_M (by decide) fl_M_111 rfl rfl d_M_parting_169 ?_
    refine g_icmp_ge (tgt := 227) C d_M_parting_172 (by decide) hf (fun c22 hf => ?_) (fun c22 hf => ?_)
    · exact t_M_parting_B227 C N _ _ hl0 hf
    · refine g_aload_n C d_M_parting_175 rfl hl0 ?_
      refine g_getR (b := 26) (k := 50) C k_M (by decide) fl_M_88 rfl rfl d_M_parting_176 ?_
      refine g_aload_n C d_M_parting_179 rfl hl0 ?_
      refine g_getR (b := 28) (k := 52) C k_M (by decide) fl_M_94 rfl rfl d_M_parting_180 ?_
      refine g_iload_n C d_M_parting_183 rfl hl1 ?_
      refine g_iald C rfl d_M_parting_184 hf (fun hf => ?_)
      refine g_iald C rfl d_M_parting_185 hf (fun hf => ?_)
      refine g_istore_n C d_M_parting_186 rfl (by decide) ?_
      refine g_aload_n C d_M_parting_187 rfl (upG hl0 rfl) ?_
      refine g_getR (b := 29) (k := 54) C k_M (by decide) fl_M_97 rfl rfl d_M_parting_188 ?_
      refine g_iload_n C d_M_parting_191 rfl upS ?_
      refine g_aload_n C d_M_parting_192 rfl (upG hl0 rfl) ?_
      refine g_getR (b := 29) (k := 54) C k_M (by decide) fl_M_97 rfl rfl d_M_parting_193 ?_
      refine g_iload_n C d_M_parting_196 rfl upS ?_
      refine g_iald C rfl d_M_parting_197 hf (fun hf => ?_)
      refine g_bipush (v := -9) C d_M_parting_198 (by decide) ?_
      refine g_icmp_ne (tgt := 207) C d_M_parting_200 (by decide) hf (fun c25 hf => ?_) (fun c25 hf => ?_)
      · refine g_iload_n C d_M_parting_203 rfl (upG hl1 rfl) ?_
        refine g_goto (tgt := 213) C d_M_parting_204 (by decide) ?_
        exact t_M_parting_B213 C N _ ih _ _ _ _ _ _ ((upG hl0 rfl)) ((upG hl1 rfl)) upS hf
      · refine g_aload_n C d_M_parting_207 rfl (upG hl0 rfl) ?_
        refine g_getR (b := 29) (k := 54) C k_M (by decide) fl_M_97 rfl rfl d_M_parting_208 ?_
        refine g_iload_n C d_M_parting_211 rfl upS ?_
        refine g_iald C rfl d_M_parting_212 hf (fun hf => ?_)
        exact t_M_parting_B213 C N _ ih _ _ _ _ _ _ ((upG hl0 rfl)) ((upG hl1 rfl)) upS hf
set_option maxHeartbeats 4000000 in
theorem t_M_parting_B165 {ad : Nat → Nat} {dA : Nat → ClassId} {D : va_G} {p : Program} {l : Launch} {e : Env} {s : State} {m : MethodId} {args : Array Value} {below : List Frame} {meth : Method} {c : Code} {r : Int32} {μ' : Mm} (C : Cx CLS SHM ad dA D p s m args meth c c_M_parting 3 R_M (some .int)) (N : Nat)   : ∀  (μ : Mm) (lv : Nat → Option Value), lv 0 = some (.ref (ad 0)) → f_M_parting_B165 N μ = some (r, μ') → Go CLS SHM ad dA D p l e (rmD 42) s m args below meth c 3 (some (.int r)) μ' 165 lv [] μ := by
  intro μ lv hl0 hf
  unfold f_M_parting_B165 at hf
  refine g_iconst (v := 0) C d_M_parting_165 (by decide) ?_
  refine g_istore_n C d_M_parting_166 rfl (by decide) ?_
  exact t_M_parting_L167 C N N _ _ _ ((upG hl0 rfl)) upS hf
set_option maxHeartbeats 4000000 in
theorem t_M_parting_L137 {ad : Nat → Nat} {dA : Nat → ClassId} {D : va_G} {p : Program} {l : Launch} {e : Env} {s : State} {m : MethodId} {args : Array Value} {below : List Frame} {meth : Method} {c : Code} {r : Int32} {μ' : Mm} (C : Cx CLS SHM ad dA D p s m args meth c c_M_parting 3 R_M (some .int)) (N : Nat)   : ∀ (n : Nat) (v1 : Int32) (μ : Mm) (lv : Nat → Option Value), lv 0 = some (.ref (ad 0)) → lv 1 = some (.int v1) → f_M_parting_L137 N n v1 μ = some (r, μ') → Go CLS SHM ad dA D p l e (rmD 42) s m args below meth c 3 (some (.int r)) μ' 137 lv [] μ := by
  intro n
  induction n with
  | zero => intro v1 μ lv hl0 hl1 hf; cases (show none = some _ from hf)
  | succ n ih =>
    intro v1 μ lv hl0 hl1 hf
    unfold f_M_parting_L137 at hf
    refine g_iload_n C d_M_parting_137 rfl hl1 ?_
    refine g_bipush (v := 8) C d_M_parting_138 (by decide) ?_
    refine g_icmp_ge (tgt := 165) C d_M_parting_140 (by decide) hf (fun c18 hf => ?_) (fun c18 hf => ?_)
    · exact t_M_parting_B165 C N _ _ hl0 hf
    · refine g_aload_n C d_M_parting_143 rfl hl0 ?_
      refine g_getR (b := 29) (k := 54) C k_M (by decide) fl_M_97 rfl rfl d_M_parting_144 ?_
      refine g_iload_n C d_M_parting_147 rfl hl1 ?_
      refine g_bipush (v := -9) C d_M_parting_148 (by decide) ?_
      refine g_iast C rfl d_M_parting_150 hf (fun hf => ?_)
      refine g_aload_n C d_M_parting_151 rfl hl0 ?_
      refine g_getR (b := 30) (k := 55) C k_M (by decide) fl_M_100 rfl rfl d_M_parting_152 ?_
      refine g_iload_n C d_M_parting_155 rfl hl1 ?_
      refine g_bipush (v := -9) C d_M_parting_156 (by decide) ?_
      refine g_iast C rfl d_M_parting_158 hf (fun hf => ?_)
      refine g_iinc (v := 1) C d_M_parting_159 hl1 (by decide) (by decide) ?_
      refine g_goto (tgt := 137) C d_M_parting_162 (by decide) ?_
      exact ih _ _ _ ((upG hl0 rfl)) upS hf
set_option maxHeartbeats 4000000 in
theorem t_M_parting_B90 {ad : Nat → Nat} {dA : Nat → ClassId} {D : va_G} {p : Program} {l : Launch} {e : Env} {s : State} {m : MethodId} {args : Array Value} {below : List Frame} {meth : Method} {c : Code} {r : Int32} {μ' : Mm} (C : Cx CLS SHM ad dA D p s m args meth c c_M_parting 3 R_M (some .int)) (N : Nat)   : ∀  (μ : Mm) (lv : Nat → Option Value), lv 0 = some (.ref (ad 0)) → f_M_parting_B90 N μ = some (r, μ') → Go CLS SHM ad dA D p l e (rmD 42) s m args below meth c 3 (some (.int r)) μ' 90 lv [] μ := by
  intro μ lv hl0 hf
  unfold f_M_parting_B90 at hf
  refine g_aload_n C d_M_parting_90 rfl hl0 ?_
  refine g_getI (k := 49) C k_M (by decide) fl_M_344 rfl rfl d_M_parting_91 ?_
  refine g_if_ne (tgt := 100) C d_M_parting_94 (by decide) hf (fun c14 hf => ?_) (fun c14 hf => ?_)
  · refine g_bipush (v := -4) C d_M_parting_97 (by decide) ?_
    exact g_iret C d_M_parting_99 hf
  · refine g_aload_n C d_M_parting_100 rfl hl0 ?_
    refine g_bipush (v := -9) C d_M_parting_101 (by decide) ?_
    refine g_putI (k := 53) C k_M (by decide) fl_M_341 rfl rfl rfl rfl d_M_parting_103 ?_
    refine g_aload_n C d_M_parting_106 rfl hl0 ?_
    refine g_iconst (v := 0) C d_M_parting_107 (by decide) ?_
    refine g_bipush (v := -9) C d_M_parting_108 (by decide) ?_
    refine g_iconst (v := 0) C d_M_parting_110 (by decide) ?_
    refine g_iconst (v := 1) C d_M_parting_111 (by decide) ?_
    refine g_aload_n C d_M_parting_112 rfl hl0 ?_
    refine g_getI (k := 49) C k_M (by decide) fl_M_344 rfl rfl d_M_parting_113 ?_
    refine g_ishl C d_M_parting_116 ?_
    refine g_iconst (v := 1) C d_M_parting_117 (by decide) ?_
    refine g_isub C d_M_parting_118 ?_
    refine g_iconst (v := 0) C d_M_parting_119 (by decide) ?_
    refine g_cvV C k_M rfl mv_M_part ml_M_347 d_M_parting_120 hf (fun μ1 h => t_M_part C.2.2.2.2.2.2.2.2.1 40 _ _ _ _ _ _ _ h) rfl rfl (by decide) (Nat.le_of_ble_eq_true rfl) (fun μ16 hf => ?_)
    refine g_aload_n C d_M_parting_123 rfl hl0 ?_
    refine g_getI (k := 53) C k_M (by decide) fl_M_341 rfl rfl d_M_parting_124 ?_
    refine g_bipush (v := -9) C d_M_parting_127 (by decide) ?_
    refine g_icmp_ne (tgt := 135) C d_M_parting_129 (by decide) hf (fun c17 hf => ?_) (fun c17 hf => ?_)
    · refine g_bipush (v := -4) C d_M_parting_132 (by decide) ?_
      exact g_iret C d_M_parting_134 hf
    · refine g_iconst (v := 0) C d_M_parting_135 (by decide) ?_
      refine g_istore_n C d_M_parting_136 rfl (by decide) ?_
      exact t_M_parting_L137 C N N _ _ _ ((upG hl0 rfl)) upS hf
set_option maxHeartbeats 4000000 in
theorem t_M_parting_B84 {ad : Nat → Nat} {dA : Nat → ClassId} {D : va_G} {p : Program} {l : Launch} {e : Env} {s : State} {m : MethodId} {args : Array Value} {below : List Frame} {meth : Method} {c : Code} {r : Int32} {μ' : Mm} (C : Cx CLS SHM ad dA D p s m args meth c c_M_parting 3 R_M (some .int)) (N : Nat)   (k20 : Int32 → Mm → Option (Int32 × Mm)) (hk20 : ∀ (v1 : Int32) (μ : Mm) (lv : Nat → Option Value), lv 0 = some (.ref (ad 0)) → lv 1 = some (.int v1) → k20 v1 μ = some (r, μ') → Go CLS SHM ad dA D p l e (rmD 42) s m args below meth c 3 (some (.int r)) μ' 20 lv [] μ) : ∀ (v1 : Int32) (μ : Mm) (lv : Nat → Option Value), lv 0 = some (.ref (ad 0)) → lv 1 = some (.int v1) → f_M_parting_B84 N k20 v1 μ = some (r, μ') → Go CLS SHM ad dA D p l e (rmD 42) s m args below meth c 3 (some (.int r)) μ' 84 lv [] μ := by
  intro v1 μ lv hl0 hl1 hf
  unfold f_M_parting_B84 at hf
  refine g_iinc (v := 1) C d_M_parting_84 hl1 (by decide) (by decide) ?_
  refine g_goto (tgt := 20) C d_M_parting_87 (by decide) ?_
  exact hk20 _ _ _ ((upG hl0 rfl)) upS hf
set_option maxHeartbeats 4000000 in
theorem t_M_parting_L20 {ad : Nat → Nat} {dA : Nat → ClassId} {D : va_G} {p : Program} {l : Launch} {e : Env} {s : State} {m : MethodId} {args : Array Value} {below : List Frame} {meth : Method} {c : Code} {r : Int32} {μ' : Mm} (C : Cx CLS SHM ad dA D p s m args meth c c_M_parting 3 R_M (some .int)) (N : Nat)   : ∀ (n : Nat) (v1 : Int32) (μ : Mm) (lv : Nat → Option Value), lv 0 = some (.ref (ad 0)) → lv 1 = some (.int v1) → f_M_parting_L20 N n v1 μ = some (r, μ') → Go CLS SHM ad dA D p l e (rmD 42) s m args below meth c 3 (some (.int r)) μ' 20 lv [] μ := by
  intro n
  induction n with
  | zero => intro v1 μ lv hl0 hl1 hf; cases (show none = some _ from hf)
  | succ n ih =>
    intro v1 μ lv hl0 hl1 hf
    unfold f_M_parting_L20 at hf
    refine g_iload_n C d_M_parting_20 rfl hl1 ?_
    refine g_aload_n C d_M_parting_21 rfl hl0 ?_
    refine g_getI (k := 15) C k_M (by decide) fl_M_162 rfl rfl d_M_parting_22 ?_
    refine g_icmp_ge (tgt := 90) C d_M_parting_25 (by decide) hf (fun c5 hf => ?_) (fun c5 hf => ?_)
    · exact t_M_parting_B90 C N _ _ hl0 hf
    · refine g_aload_n C d_M_parting_28 rfl hl0 ?_
      refine g_getR (b := 16) (k := 22) C k_M (by decide) fl_M_57 rfl rfl d_M_parting_29 ?_
      refine g_iload_n C d_M_parting_32 rfl hl1 ?_
      refine g_zald C rfl d_M_parting_33 hf (fun hf => ?_)
      refine g_if_ne (tgt := 84) C d_M_parting_34 (by decide) hf (fun c6 hf => ?_) (fun c6 hf => ?_)
      · refine g_aload_n C d_M_parting_37 rfl hl0 ?_
        refine g_getR (b := 15) (k := 21) C k_M (by decide) fl_M_54 rfl rfl d_M_parting_38 ?_
        refine g_iload_n C d_M_parting_41 rfl hl1 ?_
        refine g_zald C rfl d_M_parting_42 hf (fun hf => ?_)
        refine g_if_ne (tgt := 84) C d_M_parting_43 (by decide) hf (fun c7 hf => ?_) (fun c7 hf => ?_)
        · refine g_aload_n C d_M_parting_46 rfl hl0 ?_
          refine g_getR (b := 10) (k := 16) C k_M (by decide) fl_M_39 rfl rfl d_M_parting_47 ?_
          refine g_iload_n C d_M_parting_50 rfl hl1 ?_
          refine g_iald C rfl d_M_parting_51 hf (fun hf => ?_)
          refine g_iconst (v := 3) C d_M_parting_52 (by decide) ?_
          refine g_icmp_eq (tgt := 84) C d_M_parting_53 (by decide) hf (fun c8 hf => ?_) (fun c8 hf => ?_)
          · exact t_M_parting_B84 C N _ ih _ _ _ hl0 hl1 hf
          · refine g_aload_n C d_M_parting_56 rfl hl0 ?_
            refine g_getI (k := 49) C k_M (by decide) fl_M_344 rfl rfl d_M_parting_57 ?_
            refine g_iconst (v := 5) C d_M_parting_60 (by decide) ?_
            refine g_icmp_ge (tgt := 84) C d_M_parting_61 (by decide) hf (fun c9 hf => ?_) (fun c9 hf => ?_)
            · exact t_M_parting_B84 C N _ ih _ _ _ hl0 hl1 hf
            · refine g_aload_n C d_M_parting_64 rfl hl0 ?_
              refine g_getR (b := 26) (k := 50) C k_M (by decide) fl_M_88 rfl rfl d_M_parting_65 ?_
              refine g_aload_n C d_M_parting_68 rfl hl0 ?_
              refine g_getI (k := 49) C k_M (by decide) fl_M_344 rfl rfl d_M_parting_69 ?_
              refine g_iload_n C d_M_parting_72 rfl hl1 ?_
              refine g_iast C rfl d_M_parting_73 hf (fun hf => ?_)
              refine g_aload_n C d_M_parting_74 rfl hl0 ?_
              refine g_dup C d_M_parting_75 rfl ?_
              refine g_getI (k := 49) C k_M (by decide) fl_M_344 rfl rfl d_M_parting_76 ?_
              refine g_iconst (v := 1) C d_M_parting_79 (by decide) ?_
              refine g_iadd C d_M_parting_80 ?_
              refine g_putI (k := 49) C k_M (by decide) fl_M_344 rfl rfl rfl rfl d_M_parting_81 ?_
              exact t_M_parting_B84 C N _ ih _ _ _ hl0 hl1 hf
        · exact t_M_parting_B84 C N _ ih _ _ _ hl0 hl1 hf
      · exact t_M_parting_B84 C N _ ih _ _ _ hl0 hl1 hf
set_option maxHeartbeats 4000000 in
theorem t_M_parting {l : Launch} {ad : Nat → Nat} {dA : Nat → ClassId} {D : va_G} (hi : Inj SHM ad) {N : Nat}   {μ μ' : Mm} {r : Int32} (hf : f_M_parting N  μ = some (r, μ')) : Ct CLS l SHM ad dA D y_M_parting c_M_parting 3 (some .int) 42 [.ref (ad 0)] μ (some (.int r)) μ' := by
  unfold f_M_parting at hf
  refine ct_of (by decide) hi (Nat.le_of_ble_eq_true rfl) ?_
  intro p e s m args below meth c C
  refine g_aload_n C d_M_parting_0 rfl rfl ?_
  refine g_getI (k := 8) C k_M (by decide) fl_M_107 rfl rfl d_M_parting_1 ?_
  refine g_if_eq (tgt := 13) C d_M_parting_4 (by decide) hf (fun c1 hf => ?_) (fun c1 hf => ?_)
  · refine g_aload_n C d_M_parting_13 rfl rfl ?_
    refine g_iconst (v := 0) C d_M_parting_14 (by decide) ?_
    refine g_putI (k := 49) C k_M (by decide) fl_M_344 rfl rfl rfl rfl d_M_parting_15 ?_
    refine g_iconst (v := 0) C d_M_parting_18 (by decide) ?_
    refine g_istore_n C d_M_parting_19 rfl (by decide) ?_
    exact t_M_parting_L20 C N N _ _ _ ((upG rfl rfl)) upS hf
  · refine g_aload_n C d_M_parting_7 rfl rfl ?_
    refine g_iconst (v := 3) C d_M_parting_8 (by decide) ?_
    refine g_cvI C k_M rfl mv_M_meets ml_M_135 d_M_parting_9 hf (fun r μ1 h => t_M_meets C.2.2.2.2.2.2.2.2.1 h) rfl rfl (by decide) (Nat.le_of_ble_eq_true rfl) (fun r4 μ3 hf => ?_)
    exact g_iret C d_M_parting_12 hf
set_option maxHeartbeats 4000000 in
theorem t_M_partOf {l : Launch} {ad : Nat → Nat} {dA : Nat → ClassId} {D : va_G} (hi : Inj SHM ad) {N : Nat} {a1 : Int32} {a2 : Int32}  {μ μ' : Mm} {r : Int32} (hf : f_M_partOf N a1 a2 μ = some (r, μ')) : Ct CLS l SHM ad dA D y_M_partOf c_M_partOf 3 (some .int) 1 [.ref (ad 0), .int a1, .int a2] μ (some (.int r)) μ' := by
  unfold f_M_partOf at hf
  refine ct_of (by decide) hi (Nat.le_of_ble_eq_true rfl) ?_
  intro p e s m args below meth c C
  refine g_iload_n C d_M_partOf_0 rfl rfl ?_
  refine g_iconst (v := 0) C d_M_partOf_1 (by decide) ?_
  refine g_bipush (v := 7) C d_M_partOf_2 (by decide) ?_
  refine g_csI C mv_M_in ml_M_117 d_M_partOf_4 hf (fun r μ1 h => t_M_in C.2.2.2.2.2.2.2.2.1 h) rfl rfl (by decide) (Nat.le_of_ble_eq_true rfl) (fun r2 μ1 hf => ?_)
  refine g_if_ne (tgt := 14) C d_M_partOf_7 (by decide) hf (fun c3 hf => ?_) (fun c3 hf => ?_)
  · refine g_iconst (v := -1) C d_M_partOf_10 (by decide) ?_
    refine g_goto (tgt := 33) C d_M_partOf_11 (by decide) ?_
    exact g_iret C d_M_partOf_33 hf
  · refine g_iload_n C d_M_partOf_14 rfl rfl ?_
    refine g_if_eq (tgt := 27) C d_M_partOf_15 (by decide) hf (fun c4 hf => ?_) (fun c4 hf => ?_)
    · refine g_aload_n C d_M_partOf_27 rfl rfl ?_
      refine g_getR (b := 29) (k := 54) C k_M (by decide) fl_M_97 rfl rfl d_M_partOf_28 ?_
      refine g_iload_n C d_M_partOf_31 rfl rfl ?_
      refine g_iald C rfl d_M_partOf_32 hf (fun hf => ?_)
      exact g_iret C d_M_partOf_33 hf
    · refine g_aload_n C d_M_partOf_18 rfl rfl ?_
      refine g_getR (b := 30) (k := 55) C k_M (by decide) fl_M_100 rfl rfl d_M_partOf_19 ?_
      refine g_iload_n C d_M_partOf_22 rfl rfl ?_
      refine g_iald C rfl d_M_partOf_23 hf (fun hf => ?_)
      refine g_goto (tgt := 33) C d_M_partOf_24 (by decide) ?_
      exact g_iret C d_M_partOf_33 hf
set_option maxHeartbeats 4000000 in
theorem t_M_fuel {l : Launch} {ad : Nat → Nat} {dA : Nat → ClassId} {D : va_G} (hi : Inj SHM ad) {N : Nat} {a1 : Int32}  {μ μ' : Mm} {r : Int32} (hf : f_M_fuel N a1 μ = some (r, μ')) : Ct CLS l SHM ad dA D y_M_fuel c_M_fuel 3 (some .int) 4 [.ref (ad 0), .int a1] μ (some (.int r)) μ' := by
  unfold f_M_fuel at hf
  refine ct_of (by decide) hi (Nat.le_of_ble_eq_true rfl) ?_
  intro p e s m args below meth c C
  refine g_aload_n C d_M_fuel_0 rfl rfl ?_
  refine g_iconst (v := 1) C d_M_fuel_1 (by decide) ?_
  refine g_iload_n C d_M_fuel_2 rfl rfl ?_
  refine g_cvI C k_M rfl mv_M_need ml_M_168 d_M_fuel_3 hf (fun r μ1 h => t_M_need C.2.2.2.2.2.2.2.2.1 h) rfl rfl (by decide) (Nat.le_of_ble_eq_true rfl) (fun r2 μ1 hf => ?_)
  refine g_istore_n C d_M_fuel_6 rfl (by decide) ?_
  refine g_iload_n C d_M_fuel_7 rfl upS ?_
  refine g_if_ge (tgt := 13) C d_M_fuel_8 (by decide) hf (fun c3 hf => ?_) (fun c3 hf => ?_)
  · refine g_aload_n C d_M_fuel_13 rfl (upG rfl rfl) ?_
    refine g_iload_n C d_M_fuel_14 rfl (upG rfl rfl) ?_
    refine g_cvI C k_M rfl mv_M_whyNot ml_M_184 d_M_fuel_15 hf (fun r μ1 h => t_M_whyNot C.2.2.2.2.2.2.2.2.1 h) rfl rfl (by decide) (Nat.le_of_ble_eq_true rfl) (fun r5 μ4 hf => ?_)
    refine g_iconst (v := 1) C d_M_fuel_18 (by decide) ?_
    refine g_iconst (v := 4) C d_M_fuel_19 (by decide) ?_
    refine g_csI C mv_M_in ml_M_117 d_M_fuel_20 hf (fun r μ1 h => t_M_in C.2.2.2.2.2.2.2.2.1 h) rfl rfl (by decide) (Nat.le_of_ble_eq_true rfl) (fun r7 μ6 hf => ?_)
    refine g_if_eq (tgt := 31) C d_M_fuel_23 (by decide) hf (fun c8 hf => ?_) (fun c8 hf => ?_)
    · refine g_aload_n C d_M_fuel_31 rfl (upG rfl rfl) ?_
      refine g_iload_n C d_M_fuel_32 rfl (upG rfl rfl) ?_
      refine g_cvI C k_M rfl mv_M_mostFuel ml_M_178 d_M_fuel_33 hf (fun r μ1 h => t_M_mostFuel C.2.2.2.2.2.2.2.2.1 h) rfl rfl (by decide) (Nat.le_of_ble_eq_true rfl) (fun r10 μ9 hf => ?_)
      exact g_iret C d_M_fuel_36 hf
    · refine g_bipush (v := -4) C d_M_fuel_26 (by decide) ?_
      refine g_goto (tgt := 36) C d_M_fuel_28 (by decide) ?_
      exact g_iret C d_M_fuel_36 hf
  · refine g_iload_n C d_M_fuel_11 rfl upS ?_
    exact g_iret C d_M_fuel_12 hf
set_option maxHeartbeats 4000000 in
theorem t_M_tellsCount_B124 {ad : Nat → Nat} {dA : Nat → ClassId} {D : va_G} {p : Program} {l : Launch} {e : Env} {s : State} {m : MethodId} {args : Array Value} {below : List Frame} {meth : Method} {c : Code} {r : Int32} {μ' : Mm} (C : Cx CLS SHM ad dA D p s m args meth c c_M_tellsCount 4 R_M (some .int)) (N : Nat)   (k103 : Int32 → Int32 → Mm → Option (Int32 × Mm)) (hk103 : ∀ (v2 : Int32) (v3 : Int32) (μ : Mm) (lv : Nat → Option Value), lv 0 = some (.ref (ad 0)) → lv 2 = some (.int v2) → lv 3 = some (.int v3) → k103 v2 v3 μ = some (r, μ') → Go CLS SHM ad dA D p l e (rmD 5) s m args below meth c 4 (some (.int r)) μ' 103 lv [] μ) : ∀ (v3 : Int32) (s0 : Int32) (s1 : Int32) (μ : Mm) (lv : Nat → Option Value), lv 0 = some (.ref (ad 0)) → lv 3 = some (.int v3) → f_M_tellsCount_B124 N k103 v3 s0 s1 μ = some (r, μ') → Go CLS SHM ad dA D p l e (rmD 5) s m args below meth c 4 (some (.int r)) μ' 124 lv [.int s1, .int s0] μ := by
  intro v3 s0 s1 μ lv hl0 hl3 hf
  unfold f_M_tellsCount_B124 at hf
  refine g_iadd C d_M_tellsCount_124 ?_
  refine g_istore_n C d_M_tellsCount_125 rfl (by decide) ?_
  refine g_iinc (v := 1) C d_M_tellsCount_126 (upG hl3 rfl) (by decide) (by decide) ?_
  refine g_goto (tgt := 103) C d_M_tellsCount_129 (by decide) ?_
  exact hk103 _ _ _ _ ((upG (upG hl0 rfl) rfl)) ((upG upS rfl)) upS hf
set_option maxHeartbeats 4000000 in
theorem t_M_tellsCount_L103 {ad : Nat → Nat} {dA : Nat → ClassId} {D : va_G} {p : Program} {l : Launch} {e : Env} {s : State} {m : MethodId} {args : Array Value} {below : List Frame} {meth : Method} {c : Code} {r : Int32} {μ' : Mm} (C : Cx CLS SHM ad dA D p s m args meth c c_M_tellsCount 4 R_M (some .int)) (N : Nat)   : ∀ (n : Nat) (v2 : Int32) (v3 : Int32) (μ : Mm) (lv : Nat → Option Value), lv 0 = some (.ref (ad 0)) → lv 2 = some (.int v2) → lv 3 = some (.int v3) → f_M_tellsCount_L103 N n v2 v3 μ = some (r, μ') → Go CLS SHM ad dA D p l e (rmD 5) s m args below meth c 4 (some (.int r)) μ' 103 lv [] μ := by
  intro n
  induction n with
  | zero => intro v2 v3 μ lv hl0 hl2 hl3 hf; cases (show none = some _ from hf)
  | succ n ih =>
    intro v2 v3 μ lv hl0 hl2 hl3 hf
    unfold f_M_tellsCount_L103 at hf
    refine g_iload_n C d_M_tellsCount_103 rfl hl3 ?_
    refine g_bipush (v := 8) C d_M_tellsCount_104 (by decide) ?_
    refine g_icmp_ge (tgt := 132) C d_M_tellsCount_106 (by decide) hf (fun c5 hf => ?_) (fun c5 hf => ?_)
    · refine g_iload_n C d_M_tellsCount_132 rfl hl2 ?_
      exact g_iret C d_M_tellsCount_133 hf
    · refine g_iload_n C d_M_tellsCount_109 rfl hl2 ?_
      refine g_aload_n C d_M_tellsCount_110 rfl hl0 ?_
      refine g_getR (b := 2) (k := 5) C k_M (by decide) fl_M_13 rfl rfl d_M_tellsCount_111 ?_
      refine g_iload_n C d_M_tellsCount_114 rfl hl3 ?_
      refine g_iald C rfl d_M_tellsCount_115 hf (fun hf => ?_)
      refine g_if_ge (tgt := 123) C d_M_tellsCount_116 (by decide) hf (fun c6 hf => ?_) (fun c6 hf => ?_)
      · refine g_iconst (v := 1) C d_M_tellsCount_123 (by decide) ?_
        exact t_M_tellsCount_B124 C N _ ih _ _ _ _ _ hl0 hl3 hf
      · refine g_iconst (v := 0) C d_M_tellsCount_119 (by decide) ?_
        refine g_goto (tgt := 124) C d_M_tellsCount_120 (by decide) ?_
        exact t_M_tellsCount_B124 C N _ ih _ _ _ _ _ hl0 hl3 hf
set_option maxHeartbeats 4000000 in
theorem t_M_tellsCount_B91 {ad : Nat → Nat} {dA : Nat → ClassId} {D : va_G} {p : Program} {l : Launch} {e : Env} {s : State} {m : MethodId} {args : Array Value} {below : List Frame} {meth : Method} {c : Code} {r : Int32} {μ' : Mm} (C : Cx CLS SHM ad dA D p s m args meth c c_M_tellsCount 4 R_M (some .int)) (N : Nat)   (k69 : Int32 → Int32 → Mm → Option (Int32 × Mm)) (hk69 : ∀ (v2 : Int32) (v3 : Int32) (μ : Mm) (lv : Nat → Option Value), lv 0 = some (.ref (ad 0)) → lv 2 = some (.int v2) → lv 3 = some (.int v3) → k69 v2 v3 μ = some (r, μ') → Go CLS SHM ad dA D p l e (rmD 5) s m args below meth c 4 (some (.int r)) μ' 69 lv [] μ) : ∀ (v3 : Int32) (s0 : Int32) (s1 : Int32) (μ : Mm) (lv : Nat → Option Value), lv 0 = some (.ref (ad 0)) → lv 3 = some (.int v3) → f_M_tellsCount_B91 N k69 v3 s0 s1 μ = some (r, μ') → Go CLS SHM ad dA D p l e (rmD 5) s m args below meth c 4 (some (.int r)) μ' 91 lv [.int s1, .int s0] μ := by
  intro v3 s0 s1 μ lv hl0 hl3 hf
  unfold f_M_tellsCount_B91 at hf
  refine g_iadd C d_M_tellsCount_91 ?_
  refine g_istore_n C d_M_tellsCount_92 rfl (by decide) ?_
  refine g_iinc (v := 1) C d_M_tellsCount_93 (upG hl3 rfl) (by decide) (by decide) ?_
  refine g_goto (tgt := 69) C d_M_tellsCount_96 (by decide) ?_
  exact hk69 _ _ _ _ ((upG (upG hl0 rfl) rfl)) ((upG upS rfl)) upS hf
set_option maxHeartbeats 4000000 in
theorem t_M_tellsCount_L69 {ad : Nat → Nat} {dA : Nat → ClassId} {D : va_G} {p : Program} {l : Launch} {e : Env} {s : State} {m : MethodId} {args : Array Value} {below : List Frame} {meth : Method} {c : Code} {r : Int32} {μ' : Mm} (C : Cx CLS SHM ad dA D p s m args meth c c_M_tellsCount 4 R_M (some .int)) (N : Nat)   : ∀ (n : Nat) (v2 : Int32) (v3 : Int32) (μ : Mm) (lv : Nat → Option Value), lv 0 = some (.ref (ad 0)) → lv 2 = some (.int v2) → lv 3 = some (.int v3) → f_M_tellsCount_L69 N n v2 v3 μ = some (r, μ') → Go CLS SHM ad dA D p l e (rmD 5) s m args below meth c 4 (some (.int r)) μ' 69 lv [] μ := by
  intro n
  induction n with
  | zero => intro v2 v3 μ lv hl0 hl2 hl3 hf; cases (show none = some _ from hf)
  | succ n ih =>
    intro v2 v3 μ lv hl0 hl2 hl3 hf
    unfold f_M_tellsCount_L69 at hf
    refine g_iload_n C d_M_tellsCount_69 rfl hl3 ?_
    refine g_aload_n C d_M_tellsCount_70 rfl hl0 ?_
    refine g_getI (k := 15) C k_M (by decide) fl_M_162 rfl rfl d_M_tellsCount_71 ?_
    refine g_icmp_ge (tgt := 99) C d_M_tellsCount_74 (by decide) hf (fun c9 hf => ?_) (fun c9 hf => ?_)
    · refine g_iload_n C d_M_tellsCount_99 rfl hl2 ?_
      exact g_iret C d_M_tellsCount_100 hf
    · refine g_iload_n C d_M_tellsCount_77 rfl hl2 ?_
      refine g_aload_n C d_M_tellsCount_78 rfl hl0 ?_
      refine g_iload_n C d_M_tellsCount_79 rfl hl3 ?_
      refine g_cvI C k_M rfl mv_M_goes ml_M_193 d_M_tellsCount_80 hf (fun r μ1 h => t_M_goes C.2.2.2.2.2.2.2.2.1 h) rfl rfl (by decide) (Nat.le_of_ble_eq_true rfl) (fun r11 μ10 hf => ?_)
      refine g_if_eq (tgt := 90) C d_M_tellsCount_83 (by decide) hf (fun c12 hf => ?_) (fun c12 hf => ?_)
      · refine g_iconst (v := 0) C d_M_tellsCount_90 (by decide) ?_
        exact t_M_tellsCount_B91 C N _ ih _ _ _ _ _ hl0 hl3 hf
      · refine g_iconst (v := 1) C d_M_tellsCount_86 (by decide) ?_
        refine g_goto (tgt := 91) C d_M_tellsCount_87 (by decide) ?_
        exact t_M_tellsCount_B91 C N _ ih _ _ _ _ _ hl0 hl3 hf
set_option maxHeartbeats 4000000 in
theorem t_M_tellsCount {l : Launch} {ad : Nat → Nat} {dA : Nat → ClassId} {D : va_G} (hi : Inj SHM ad) {N : Nat} {a1 : Int32}  {μ μ' : Mm} {r : Int32} (hf : f_M_tellsCount N a1 μ = some (r, μ')) : Ct CLS l SHM ad dA D y_M_tellsCount c_M_tellsCount 4 (some .int) 5 [.ref (ad 0), .int a1] μ (some (.int r)) μ' := by
  unfold f_M_tellsCount at hf
  refine ct_of (by decide) hi (Nat.le_of_ble_eq_true rfl) ?_
  intro p e s m args below meth c C
  refine g_iconst (v := 0) C d_M_tellsCount_0 (by decide) ?_
  refine g_istore_n C d_M_tellsCount_1 rfl (by decide) ?_
  refine g_iload_n C d_M_tellsCount_2 rfl (upG rfl rfl) ?_
  refine g_cas hf (fun e0 hf => ?_) (fun e0 hf => ?_)
  · refine g_tabIn (tgt := 40) C d_M_tellsCount_3 (by rw [e0]; decide) (by rw [e0]; decide) (by rw [e0]; rfl) (by decide) ?_
    refine g_aload_n C d_M_tellsCount_40 rfl (upG rfl rfl) ?_
    refine g_getI (k := 8) C k_M (by decide) fl_M_107 rfl rfl d_M_tellsCount_41 ?_
    exact g_iret C d_M_tellsCount_44 hf
  · skip
    refine g_cas hf (fun e1 hf => ?_) (fun e1 hf => ?_)
    · refine g_tabIn (tgt := 45) C d_M_tellsCount_3 (by rw [e1]; decide) (by rw [e1]; decide) (by rw [e1]; rfl) (by decide) ?_
      refine g_aload_n C d_M_tellsCount_45 rfl (upG rfl rfl) ?_
      refine g_getI (k := 9) C k_M (by decide) fl_M_111 rfl rfl d_M_tellsCount_46 ?_
      exact g_iret C d_M_tellsCount_49 hf
    · skip
      refine g_cas hf (fun e2 hf => ?_) (fun e2 hf => ?_)
      · refine g_tabIn (tgt := 50) C d_M_tellsCount_3 (by rw [e2]; decide) (by rw [e2]; decide) (by rw [e2]; rfl) (by decide) ?_
        refine g_aload_n C d_M_tellsCount_50 rfl (upG rfl rfl) ?_
        refine g_iconst (v := 0) C d_M_tellsCount_51 (by decide) ?_
        refine g_cvI C k_M rfl mv_M_walls ml_M_154 d_M_tellsCount_52 hf (fun r μ1 h => t_M_walls C.2.2.2.2.2.2.2.2.1 h) rfl rfl (by decide) (Nat.le_of_ble_eq_true rfl) (fun r2 μ1 hf => ?_)
        exact g_iret C d_M_tellsCount_55 hf
      · skip
        refine g_cas hf (fun e3 hf => ?_) (fun e3 hf => ?_)
        · refine g_tabIn (tgt := 56) C d_M_tellsCount_3 (by rw [e3]; decide) (by rw [e3]; decide) (by rw [e3]; rfl) (by decide) ?_
          refine g_aload_n C d_M_tellsCount_56 rfl (upG rfl rfl) ?_
          refine g_iconst (v := 1) C d_M_tellsCount_57 (by decide) ?_
          refine g_cvI C k_M rfl mv_M_walls ml_M_154 d_M_tellsCount_58 hf (fun r μ1 h => t_M_walls C.2.2.2.2.2.2.2.2.1 h) rfl rfl (by decide) (Nat.le_of_ble_eq_true rfl) (fun r4 μ3 hf => ?_)
          exact g_iret C d_M_tellsCount_61 hf
        · skip
          refine g_cas hf (fun e4 hf => ?_) (fun e4 hf => ?_)
          · refine g_tabIn (tgt := 62) C d_M_tellsCount_3 (by rw [e4]; decide) (by rw [e4]; decide) (by rw [e4]; rfl) (by decide) ?_
            refine g_aload_n C d_M_tellsCount_62 rfl (upG rfl rfl) ?_
            refine g_getI (k := 15) C k_M (by decide) fl_M_162 rfl rfl d_M_tellsCount_63 ?_
            exact g_iret C d_M_tellsCount_66 hf
          · skip
            refine g_cas hf (fun e5 hf => ?_) (fun e5 hf => ?_)
            · refine g_tabIn (tgt := 67) C d_M_tellsCount_3 (by rw [e5]; decide) (by rw [e5]; decide) (by rw [e5]; rfl) (by decide) ?_
              refine g_iconst (v := 0) C d_M_tellsCount_67 (by decide) ?_
              refine g_istore_n C d_M_tellsCount_68 rfl (by decide) ?_
              exact t_M_tellsCount_L69 C N N _ _ _ _ ((upG (upG rfl rfl) rfl)) ((upG upS rfl)) upS hf
            · skip
              have e0 := tni (k := 0) (0 : Int32) rfl e0
              have e1 := tni (k := 1) (1 : Int32) rfl e1
              have e2 := tni (k := 2) (2 : Int32) rfl e2
              have e3 := tni (k := 3) (3 : Int32) rfl e3
              have e4 := tni (k := 4) (4 : Int32) rfl e4
              have e5 := tni (k := 5) (5 : Int32) rfl e5
              refine g_tabOut (tgt := 101) C d_M_tellsCount_3 (by omega) (by decide) ?_
              refine g_iconst (v := 0) C d_M_tellsCount_101 (by decide) ?_
              refine g_istore_n C d_M_tellsCount_102 rfl (by decide) ?_
              exact t_M_tellsCount_L103 C N N _ _ _ _ ((upG (upG rfl rfl) rfl)) ((upG upS rfl)) upS hf
set_option maxHeartbeats 4000000 in
theorem t_M_count {l : Launch} {ad : Nat → Nat} {dA : Nat → ClassId} {D : va_G} (hi : Inj SHM ad) {N : Nat} {a1 : Int32}  {μ μ' : Mm} {r : Int32} (hf : f_M_count N a1 μ = some (r, μ')) : Ct CLS l SHM ad dA D y_M_count c_M_count 2 (some .int) 6 [.ref (ad 0), .int a1] μ (some (.int r)) μ' := by
  unfold f_M_count at hf
  refine ct_of (by decide) hi (Nat.le_of_ble_eq_true rfl) ?_
  intro p e s m args below meth c C
  refine g_iload_n C d_M_count_0 rfl rfl ?_
  refine g_iconst (v := 0) C d_M_count_1 (by decide) ?_
  refine g_bipush (v := 6) C d_M_count_2 (by decide) ?_
  refine g_csI C mv_M_in ml_M_117 d_M_count_4 hf (fun r μ1 h => t_M_in C.2.2.2.2.2.2.2.2.1 h) rfl rfl (by decide) (Nat.le_of_ble_eq_true rfl) (fun r2 μ1 hf => ?_)
  refine g_if_eq (tgt := 18) C d_M_count_7 (by decide) hf (fun c3 hf => ?_) (fun c3 hf => ?_)
  · refine g_iconst (v := -1) C d_M_count_18 (by decide) ?_
    exact g_iret C d_M_count_19 hf
  · refine g_aload_n C d_M_count_10 rfl rfl ?_
    refine g_iload_n C d_M_count_11 rfl rfl ?_
    refine g_cvI C k_M rfl mv_M_tellsCount ml_M_351 d_M_count_12 hf (fun r μ1 h => t_M_tellsCount C.2.2.2.2.2.2.2.2.1 h) rfl rfl (by decide) (Nat.le_of_ble_eq_true rfl) (fun r5 μ4 hf => ?_)
    refine g_goto (tgt := 19) C d_M_count_15 (by decide) ?_
    exact g_iret C d_M_count_19 hf
