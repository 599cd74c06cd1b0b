set_option maxHeartbeats 4000000 in
theorem t_Sh_settle_B90 {ad : Nat → Nat} {dA : Nat → ClassId} {D : va_G} {p : Program} {l : Launch} {e : Env} {s : State} {m : MethodId} {args : Array Value} {below : List Frame} {meth : Method} {c : Code} {r : Int32} {μ' : Mm} (C : Cx CLS SHX ad dA D p s m args meth c c_Sh_settle 4 R_Sh (some .int)) (N : Nat)   : ∀ (v1 : Int32) (μ : Mm) (lv : Nat → Option Value), lv 0 = some (.ref (ad 79)) → lv 1 = some (.int v1) → f_Sh_settle_B90 N v1 μ = some (r, μ') → Go CLS SHX ad dA D p l e (rmD 5) s m args below meth c 4 (some (.int r)) μ' 90 lv [] μ := by
  intro v1 μ lv hl0 hl1 hf
  unfold f_Sh_settle_B90 at hf
  refine g_aload_n C d_Sh_settle_90 rfl hl0 ?_
  refine g_getR (b := 83) (k := 5) C k_Sh (by decide) fl_Sh_21 rfl rfl d_Sh_settle_91 ?_
  refine g_iload_n C d_Sh_settle_94 rfl hl1 ?_
  refine g_iconst (v := 0) C d_Sh_settle_95 (by decide) ?_
  refine g_csI C mv_Sh_place ml_Sh_47 d_Sh_settle_96 hf (fun r μ1 h => t_Sh_place C.2.2.2.2.2.2.2.2.1 h) rfl rfl (by decide) (Nat.le_of_ble_eq_true rfl) (fun r18 μ17 hf => ?_)
  refine g_iald C rfl d_Sh_settle_99 hf (fun hf => ?_)
  refine g_istore_n C d_Sh_settle_100 rfl (by decide) ?_
  refine g_iload_n C d_Sh_settle_101 rfl upS ?_
  refine g_ldc C ck_Sh_54 d_Sh_settle_102 ?_
  refine g_icmp_lt (tgt := 110) C d_Sh_settle_104 (by decide) hf (fun c20 hf => ?_) (fun c20 hf => ?_)
  · refine g_aload_n C d_Sh_settle_110 rfl (upG hl0 rfl) ?_
    refine g_cvV C k_Sh rfl mv_Sh_forget ml_Sh_36 d_Sh_settle_111 hf (fun μ1 h => t_Sh_forget C.2.2.2.2.2.2.2.2.1 h) rfl rfl (by decide) (Nat.le_of_ble_eq_true rfl) (fun μ21 hf => ?_)
    refine g_aload_n C d_Sh_settle_114 rfl (upG hl0 rfl) ?_
    refine g_iload_n C d_Sh_settle_115 rfl (upG hl1 rfl) ?_
    refine g_iload_n C d_Sh_settle_116 rfl upS ?_
    refine g_cvV C k_Sh rfl mv_Sh_dealOut ml_Sh_55 d_Sh_settle_117 hf (fun μ1 h => t_Sh_dealOut C.2.2.2.2.2.2.2.2.1 h) rfl rfl (by decide) (Nat.le_of_ble_eq_true rfl) (fun μ22 hf => ?_)
    refine g_iload_n C d_Sh_settle_120 rfl upS ?_
    exact g_iret C d_Sh_settle_121 hf
  · refine g_bipush (v := -4) C d_Sh_settle_107 (by decide) ?_
    exact g_iret C d_Sh_settle_109 hf
set_option maxHeartbeats 4000000 in
theorem t_Sh_settle_B84 {ad : Nat → Nat} {dA : Nat → ClassId} {D : va_G} {p : Program} {l : Launch} {e : Env} {s : State} {m : MethodId} {args : Array Value} {below : List Frame} {meth : Method} {c : Code} {r : Int32} {μ' : Mm} (C : Cx CLS SHX ad dA D p s m args meth c c_Sh_settle 4 R_Sh (some .int)) (N : Nat)   (k26 : Int32 → Int32 → Mm → Option (Int32 × Mm)) (hk26 : ∀ (v1 : Int32) (v2 : Int32) (μ : Mm) (lv : Nat → Option Value), lv 0 = some (.ref (ad 79)) → lv 1 = some (.int v1) → lv 2 = some (.int v2) → k26 v1 v2 μ = some (r, μ') → Go CLS SHX ad dA D p l e (rmD 5) s m args below meth c 4 (some (.int r)) μ' 26 lv [] μ) : ∀ (v1 : Int32) (v2 : Int32) (μ : Mm) (lv : Nat → Option Value), lv 0 = some (.ref (ad 79)) → lv 1 = some (.int v1) → lv 2 = some (.int v2) → f_Sh_settle_B84 N k26 v1 v2 μ = some (r, μ') → Go CLS SHX ad dA D p l e (rmD 5) s m args below meth c 4 (some (.int r)) μ' 84 lv [] μ := by
  intro v1 v2 μ lv hl0 hl1 hl2 hf
  unfold f_Sh_settle_B84 at hf
  refine g_iinc (v := 1) C d_Sh_settle_84 hl2 (by decide) (by decide) ?_
  refine g_goto (tgt := 26) C d_Sh_settle_87 (by decide) ?_
  exact hk26 _ _ _ _ ((upG hl0 rfl)) ((upG hl1 rfl)) upS hf
set_option maxHeartbeats 4000000 in
theorem t_Sh_settle_L58 {ad : Nat → Nat} {dA : Nat → ClassId} {D : va_G} {p : Program} {l : Launch} {e : Env} {s : State} {m : MethodId} {args : Array Value} {below : List Frame} {meth : Method} {c : Code} {r : Int32} {μ' : Mm} (C : Cx CLS SHX ad dA D p s m args meth c c_Sh_settle 4 R_Sh (some .int)) (N : Nat)   (k26 : Int32 → Int32 → Mm → Option (Int32 × Mm)) (hk26 : ∀ (v1 : Int32) (v2 : Int32) (μ : Mm) (lv : Nat → Option Value), lv 0 = some (.ref (ad 79)) → lv 1 = some (.int v1) → lv 2 = some (.int v2) → k26 v1 v2 μ = some (r, μ') → Go CLS SHX ad dA D p l e (rmD 5) s m args below meth c 4 (some (.int r)) μ' 26 lv [] μ) : ∀ (n : Nat) (v1 : Int32) (v2 : Int32) (v3 : Int32) (μ : Mm) (lv : Nat → Option Value), lv 0 = some (.ref (ad 79)) → lv 1 = some (.int v1) → lv 2 = some (.int v2) → lv 3 = some (.int v3) → f_Sh_settle_L58 N k26 n v1 v2 v3 μ = some (r, μ') → Go CLS SHX ad dA D p l e (rmD 5) s m args below meth c 4 (some (.int r)) μ' 58 lv [] μ := by
  intro n
  induction n with
  | zero => intro v1 v2 v3 μ lv hl0 hl1 hl2 hl3 hf; cases (show none = some _ from hf)
  | succ n ih =>
    intro v1 v2 v3 μ lv hl0 hl1 hl2 hl3 hf
    unfold f_Sh_settle_L58 at hf
    refine g_iload_n C d_Sh_settle_58 rfl hl3 ?_
    refine g_if_lt (tgt := 84) C d_Sh_settle_59 (by decide) hf (fun c9 hf => ?_) (fun c9 hf => ?_)
    · exact t_Sh_settle_B84 C N _ hk26 _ _ _ _ hl0 hl1 hl2 hf
    · refine g_aload_n C d_Sh_settle_62 rfl hl0 ?_
      refine g_getR (b := 83) (k := 5) C k_Sh (by decide) fl_Sh_21 rfl rfl d_Sh_settle_63 ?_
      refine g_iload_n C d_Sh_settle_66 rfl hl2 ?_
      refine g_iload_n C d_Sh_settle_67 rfl hl3 ?_
      refine g_csI C mv_Sh_place ml_Sh_47 d_Sh_settle_68 hf (fun r μ1 h => t_Sh_place C.2.2.2.2.2.2.2.2.1 h) rfl rfl (by decide) (Nat.le_of_ble_eq_true rfl) (fun r11 μ10 hf => ?_)
      refine g_aload_n C d_Sh_settle_71 rfl hl0 ?_
      refine g_iload_n C d_Sh_settle_72 rfl hl2 ?_
      refine g_iload_n C d_Sh_settle_73 rfl hl3 ?_
      refine g_cvI C k_Sh rfl mv_Sh_leastOf ml_Sh_51 d_Sh_settle_74 hf (fun r μ1 h => t_Sh_leastOf C.2.2.2.2.2.2.2.2.1 h) rfl rfl (by decide) (Nat.le_of_ble_eq_true rfl) (fun r13 μ12 hf => ?_)
      refine g_iast C rfl d_Sh_settle_77 hf (fun hf => ?_)
      refine g_iinc (v := -1) C d_Sh_settle_78 hl3 (by decide) (by decide) ?_
      refine g_goto (tgt := 58) C d_Sh_settle_81 (by decide) ?_
      exact ih _ _ _ _ _ ((upG hl0 rfl)) ((upG hl1 rfl)) ((upG hl2 rfl)) upS hf
set_option maxHeartbeats 4000000 in
theorem t_Sh_settle_L26 {ad : Nat → Nat} {dA : Nat → ClassId} {D : va_G} {p : Program} {l : Launch} {e : Env} {s : State} {m : MethodId} {args : Array Value} {below : List Frame} {meth : Method} {c : Code} {r : Int32} {μ' : Mm} (C : Cx CLS SHX ad dA D p s m args meth c c_Sh_settle 4 R_Sh (some .int)) (N : Nat)   : ∀ (n : Nat) (v1 : Int32) (v2 : Int32) (μ : Mm) (lv : Nat → Option Value), lv 0 = some (.ref (ad 79)) → lv 1 = some (.int v1) → lv 2 = some (.int v2) → f_Sh_settle_L26 N n v1 v2 μ = some (r, μ') → Go CLS SHX ad dA D p l e (rmD 5) s m args below meth c 4 (some (.int r)) μ' 26 lv [] μ := by
  intro n
  induction n with
  | zero => intro v1 v2 μ lv hl0 hl1 hl2 hf; cases (show none = some _ from hf)
  | succ n ih =>
    intro v1 v2 μ lv hl0 hl1 hl2 hf
    unfold f_Sh_settle_L26 at hf
    refine g_iload_n C d_Sh_settle_26 rfl hl2 ?_
    refine g_iload_n C d_Sh_settle_27 rfl hl1 ?_
    refine g_icmp_gt (tgt := 90) C d_Sh_settle_28 (by decide) hf (fun c4 hf => ?_) (fun c4 hf => ?_)
    · exact t_Sh_settle_B90 C N _ _ _ hl0 hl1 hf
    · refine g_aload_n C d_Sh_settle_31 rfl hl0 ?_
      refine g_getR (b := 83) (k := 5) C k_Sh (by decide) fl_Sh_21 rfl rfl d_Sh_settle_32 ?_
      refine g_iload_n C d_Sh_settle_35 rfl hl2 ?_
      refine g_aload_n C d_Sh_settle_36 rfl hl0 ?_
      refine g_getR (b := 6) (k := 2) C k_Sh (by decide) fl_Sh_28 rfl rfl d_Sh_settle_37 ?_
      refine g_getI (k := 1) C k_Gr (by decide) fl_Sh_42 rfl rfl d_Sh_settle_40 ?_
      refine g_csI C mv_Sh_place ml_Sh_47 d_Sh_settle_43 hf (fun r μ1 h => t_Sh_place C.2.2.2.2.2.2.2.2.1 h) rfl rfl (by decide) (Nat.le_of_ble_eq_true rfl) (fun r6 μ5 hf => ?_)
      refine g_iconst (v := 0) C d_Sh_settle_46 (by decide) ?_
      refine g_iast C rfl d_Sh_settle_47 hf (fun hf => ?_)
      refine g_aload_n C d_Sh_settle_48 rfl hl0 ?_
      refine g_getR (b := 6) (k := 2) C k_Sh (by decide) fl_Sh_28 rfl rfl d_Sh_settle_49 ?_
      refine g_getI (k := 1) C k_Gr (by decide) fl_Sh_42 rfl rfl d_Sh_settle_52 ?_
      refine g_iconst (v := 1) C d_Sh_settle_55 (by decide) ?_
      refine g_isub C d_Sh_settle_56 ?_
      refine g_istore_n C d_Sh_settle_57 rfl (by decide) ?_
      exact t_Sh_settle_L58 C N _ ih N _ _ _ _ _ ((upG hl0 rfl)) ((upG hl1 rfl)) ((upG hl2 rfl)) upS hf
set_option maxHeartbeats 4000000 in
theorem t_Sh_settle {l : Launch} {ad : Nat → Nat} {dA : Nat → ClassId} {D : va_G} (hi : Inj SHX ad) {N : Nat}   {μ μ' : Mm} {r : Int32} (hf : f_Sh_settle N  μ = some (r, μ')) : Ct CLS l SHX ad dA D y_Sh_settle c_Sh_settle 4 (some .int) 5 [.ref (ad 79)] μ (some (.int r)) μ' := by
  unfold f_Sh_settle at hf
  refine ct_of (by decide) hi (Nat.le_of_ble_eq_true rfl) ?_
  intro p e s m args below meth c C
  refine g_aload_n C d_Sh_settle_0 rfl rfl ?_
  refine g_cvV C k_Sh rfl mv_Sh_gatherSharers ml_Sh_39 d_Sh_settle_1 hf (fun μ1 h => t_Sh_gatherSharers C.2.2.2.2.2.2.2.2.1 h) rfl rfl (by decide) (Nat.le_of_ble_eq_true rfl) (fun μ1 hf => ?_)
  refine g_aload_n C d_Sh_settle_4 rfl rfl ?_
  refine g_getI (k := 6) C k_Sh (by decide) fl_Sh_24 rfl rfl d_Sh_settle_5 ?_
  refine g_iconst (v := 1) C d_Sh_settle_8 (by decide) ?_
  refine g_icmp_ge (tgt := 15) C d_Sh_settle_9 (by decide) hf (fun c2 hf => ?_) (fun c2 hf => ?_)
  · refine g_iconst (v := 1) C d_Sh_settle_15 (by decide) ?_
    refine g_aload_n C d_Sh_settle_16 rfl rfl ?_
    refine g_getI (k := 6) C k_Sh (by decide) fl_Sh_24 rfl rfl d_Sh_settle_17 ?_
    refine g_ishl C d_Sh_settle_20 ?_
    refine g_iconst (v := 1) C d_Sh_settle_21 (by decide) ?_
    refine g_isub C d_Sh_settle_22 ?_
    refine g_istore_n C d_Sh_settle_23 rfl (by decide) ?_
    refine g_iconst (v := 0) C d_Sh_settle_24 (by decide) ?_
    refine g_istore_n C d_Sh_settle_25 rfl (by decide) ?_
    exact t_Sh_settle_L26 C N N _ _ _ _ ((upG (upG rfl rfl) rfl)) ((upG upS rfl)) upS hf
  · refine g_bipush (v := -4) C d_Sh_settle_12 (by decide) ?_
    exact g_iret C d_Sh_settle_14 hf
set_option maxHeartbeats 4000000 in
theorem t_Sf_lacks {l : Launch} {ad : Nat → Nat} {dA : Nat → ClassId} {D : va_G} (hi : Inj SHX ad) {N : Nat} {a1 : Int32}  {μ μ' : Mm} {r : Int32} (hf : f_Sf_lacks N a1 μ = some (r, μ')) : Ct CLS l SHX ad dA D y_Sf_lacks c_Sf_lacks 2 (some .boolean) 0 [.ref (ad 3), .int a1] μ (some (.int r)) μ' := by
  unfold f_Sf_lacks at hf
  refine ct_of (by decide) hi (Nat.le_of_ble_eq_true rfl) ?_
  intro p e s m args below meth c C
  refine g_aload_n C d_Sf_lacks_0 rfl rfl ?_
  refine g_getR (b := 5) (k := 1) C k_Sf (by decide) fl_Sf_15 rfl rfl d_Sf_lacks_1 ?_
  refine g_iload_n C d_Sf_lacks_4 rfl rfl ?_
  refine g_iald C rfl d_Sf_lacks_5 hf (fun hf => ?_)
  refine g_iconst (v := -1) C d_Sf_lacks_6 (by decide) ?_
  refine g_icmp_ne (tgt := 14) C d_Sf_lacks_7 (by decide) hf (fun c1 hf => ?_) (fun c1 hf => ?_)
  · refine g_iconst (v := 1) C d_Sf_lacks_10 (by decide) ?_
    refine g_goto (tgt := 15) C d_Sf_lacks_11 (by decide) ?_
    exact g_zretc C d_Sf_lacks_15 rfl hf
  · refine g_iconst (v := 0) C d_Sf_lacks_14 (by decide) ?_
    exact g_zretc C d_Sf_lacks_15 rfl hf
set_option maxHeartbeats 4000000 in
theorem t_Sf_sizeOf {l : Launch} {ad : Nat → Nat} {dA : Nat → ClassId} {D : va_G} (hi : Inj SHX ad) {N : Nat} {a1 : Int32}  {μ μ' : Mm} {r : Int32} (hf : f_Sf_sizeOf N a1 μ = some (r, μ')) : Ct CLS l SHX ad dA D y_Sf_sizeOf c_Sf_sizeOf 2 (some .int) 0 [.ref (ad 3), .int a1] μ (some (.int r)) μ' := by
  unfold f_Sf_sizeOf at hf
  refine ct_of (by decide) hi (Nat.le_of_ble_eq_true rfl) ?_
  intro p e s m args below meth c C
  refine g_aload_n C d_Sf_sizeOf_0 rfl rfl ?_
  refine g_getR (b := 5) (k := 1) C k_Sf (by decide) fl_Sf_15 rfl rfl d_Sf_sizeOf_1 ?_
  refine g_iload_n C d_Sf_sizeOf_4 rfl rfl ?_
  refine g_iald C rfl d_Sf_sizeOf_5 hf (fun hf => ?_)
  exact g_iret C d_Sf_sizeOf_6 hf
set_option maxHeartbeats 4000000 in
theorem t_Sf_byteAt {l : Launch} {ad : Nat → Nat} {dA : Nat → ClassId} {D : va_G} (hi : Inj SHX ad) {N : Nat} {a1 : Int32} {a2 : Int32}  {μ μ' : Mm} {r : Int32} (hf : f_Sf_byteAt N a1 a2 μ = some (r, μ')) : Ct CLS l SHX ad dA D y_Sf_byteAt c_Sf_byteAt 3 (some .int) 0 [.ref (ad 3), .int a1, .int a2] μ (some (.int r)) μ' := by
  unfold f_Sf_byteAt at hf
  refine ct_of (by decide) hi (Nat.le_of_ble_eq_true rfl) ?_
  intro p e s m args below meth c C
  refine g_aload_n C d_Sf_byteAt_0 rfl rfl ?_
  refine g_getR (b := 4) (k := 0) C k_Sf (by decide) fl_Sf_9 rfl rfl d_Sf_byteAt_1 ?_
  refine g_iload_n C d_Sf_byteAt_4 rfl rfl ?_
  refine g_bipush (v := 40) C d_Sf_byteAt_5 (by decide) ?_
  refine g_imul C d_Sf_byteAt_7 ?_
  refine g_iload_n C d_Sf_byteAt_8 rfl rfl ?_
  refine g_iadd C d_Sf_byteAt_9 ?_
  refine g_bald C rfl d_Sf_byteAt_10 hf (fun hf => ?_)
  exact g_iret C d_Sf_byteAt_11 hf
set_option maxHeartbeats 4000000 in
theorem t_Sf_write {l : Launch} {ad : Nat → Nat} {dA : Nat → ClassId} {D : va_G} (hi : Inj SHX ad) {N : Nat} {a1 : Int32} {a2 : Int32} {a3 : Int32}  {μ μ' : Mm} (hf : f_Sf_write N a1 a2 a3 μ = some μ') : Ct CLS l SHX ad dA D y_Sf_write c_Sf_write 4 (none) 0 [.ref (ad 3), .int a1, .int a2, .int a3] μ none μ' := by
  unfold f_Sf_write at hf
  refine ct_of (by decide) hi (Nat.le_of_ble_eq_true rfl) ?_
  intro p e s m args below meth c C
  refine g_aload_n C d_Sf_write_0 rfl rfl ?_
  refine g_getR (b := 4) (k := 0) C k_Sf (by decide) fl_Sf_9 rfl rfl d_Sf_write_1 ?_
  refine g_iload_n C d_Sf_write_4 rfl rfl ?_
  refine g_bipush (v := 40) C d_Sf_write_5 (by decide) ?_
  refine g_imul C d_Sf_write_7 ?_
  refine g_iload_n C d_Sf_write_8 rfl rfl ?_
  refine g_iadd C d_Sf_write_9 ?_
  refine g_iload_n C d_Sf_write_10 rfl rfl ?_
  refine g_i2b C d_Sf_write_11 ?_
  refine g_bast C rfl d_Sf_write_12 hf (fun hf => ?_)
  exact g_vret C d_Sf_write_13 hf
set_option maxHeartbeats 4000000 in
theorem t_Sf_put_L9 {ad : Nat → Nat} {dA : Nat → ClassId} {D : va_G} {p : Program} {l : Launch} {e : Env} {s : State} {m : MethodId} {args : Array Value} {below : List Frame} {meth : Method} {c : Code} {μ' : Mm} (C : Cx CLS SHX ad dA D p s m args meth c c_Sf_put 4 R_Sf (none)) (N : Nat)   : ∀ (n : Nat) (v1 : Int32) (v2 : Int32) (v3 : Int32) (μ : Mm) (lv : Nat → Option Value), lv 0 = some (.ref (ad 3)) → lv 1 = some (.int v1) → lv 2 = some (.int v2) → lv 3 = some (.int v3) → f_Sf_put_L9 N n v1 v2 v3 μ = some μ' → Go CLS SHX ad dA D p l e (rmD 1) s m args below meth c 4 none μ' 9 lv [] μ := by
  intro n
  induction n with
  | zero => intro v1 v2 v3 μ lv hl0 hl1 hl2 hl3 hf; cases (show none = some _ from hf)
  | succ n ih =>
    intro v1 v2 v3 μ lv hl0 hl1 hl2 hl3 hf
    unfold f_Sf_put_L9 at hf
    refine g_iload_n C d_Sf_put_9 rfl hl3 ?_
    refine g_iload_n C d_Sf_put_10 rfl hl2 ?_
    refine g_icmp_ge (tgt := 27) C d_Sf_put_11 (by decide) hf (fun c2 hf => ?_) (fun c2 hf => ?_)
    · exact g_vret C d_Sf_put_27 hf
    · refine g_aload_n C d_Sf_put_14 rfl hl0 ?_
      refine g_iload_n C d_Sf_put_15 rfl hl1 ?_
      refine g_iload_n C d_Sf_put_16 rfl hl3 ?_
      refine g_iconst (v := 0) C d_Sf_put_17 (by decide) ?_
      refine g_cvV C k_Sf rfl mv_Sf_write ml_Sf_19 d_Sf_put_18 hf (fun μ1 h => t_Sf_write C.2.2.2.2.2.2.2.2.1 h) rfl rfl (by decide) (Nat.le_of_ble_eq_true rfl) (fun μ3 hf => ?_)
      refine g_iinc (v := 1) C d_Sf_put_21 hl3 (by decide) (by decide) ?_
      refine g_goto (tgt := 9) C d_Sf_put_24 (by decide) ?_
      exact ih _ _ _ _ _ ((upG hl0 rfl)) ((upG hl1 rfl)) ((upG hl2 rfl)) upS hf
set_option maxHeartbeats 4000000 in
theorem t_Sf_put {l : Launch} {ad : Nat → Nat} {dA : Nat → ClassId} {D : va_G} (hi : Inj SHX ad) {N : Nat} {a1 : Int32} {a2 : Int32}  {μ μ' : Mm} (hf : f_Sf_put N a1 a2 μ = some μ') : Ct CLS l SHX ad dA D y_Sf_put c_Sf_put 4 (none) 1 [.ref (ad 3), .int a1, .int a2] μ none μ' := by
  unfold f_Sf_put at hf
  refine ct_of (by decide) hi (Nat.le_of_ble_eq_true rfl) ?_
  intro p e s m args below meth c C
  refine g_aload_n C d_Sf_put_0 rfl rfl ?_
  refine g_getR (b := 5) (k := 1) C k_Sf (by decide) fl_Sf_15 rfl rfl d_Sf_put_1 ?_
  refine g_iload_n C d_Sf_put_4 rfl rfl ?_
  refine g_iload_n C d_Sf_put_5 rfl rfl ?_
  refine g_iast C rfl d_Sf_put_6 hf (fun hf => ?_)
  refine g_iconst (v := 0) C d_Sf_put_7 (by decide) ?_
  refine g_istore_n C d_Sf_put_8 rfl (by decide) ?_
  exact t_Sf_put_L9 C N N _ _ _ _ _ ((upG rfl rfl)) ((upG rfl rfl)) ((upG rfl rfl)) upS hf
set_option maxHeartbeats 4000000 in
theorem t_Sf_remove {l : Launch} {ad : Nat → Nat} {dA : Nat → ClassId} {D : va_G} (hi : Inj SHX ad) {N : Nat} {a1 : Int32}  {μ μ' : Mm} (hf : f_Sf_remove N a1 μ = some μ') : Ct CLS l SHX ad dA D y_Sf_remove c_Sf_remove 2 (none) 0 [.ref (ad 3), .int a1] μ none μ' := by
  unfold f_Sf_remove at hf
  refine ct_of (by decide) hi (Nat.le_of_ble_eq_true rfl) ?_
  intro p e s m args below meth c C
  refine g_aload_n C d_Sf_remove_0 rfl rfl ?_
  refine g_getR (b := 5) (k := 1) C k_Sf (by decide) fl_Sf_15 rfl rfl d_Sf_remove_1 ?_
  refine g_iload_n C d_Sf_remove_4 rfl rfl ?_
  refine g_iconst (v := -1) C d_Sf_remove_5 (by decide) ?_
  refine g_iast C rfl d_Sf_remove_6 hf (fun hf => ?_)
  exact g_vret C d_Sf_remove_7 hf
set_option maxHeartbeats 4000000 in
theorem t_Sf_holds {l : Launch} {ad : Nat → Nat} {dA : Nat → ClassId} {D : va_G} (hi : Inj SHX ad) {N : Nat} {a1 : Int32} {a2 : Int32} {a3 : Int32}  {μ μ' : Mm} {r : Int32} (hf : f_Sf_holds N a1 a2 a3 μ = some (r, μ')) : Ct CLS l SHX ad dA D y_Sf_holds c_Sf_holds 4 (some .boolean) 0 [.ref (ad 3), .int a1, .int a2, .int a3] μ (some (.int r)) μ' := by
  unfold f_Sf_holds at hf
  refine ct_of (by decide) hi (Nat.le_of_ble_eq_true rfl) ?_
  intro p e s m args below meth c C
  refine g_iload_n C d_Sf_holds_0 rfl rfl ?_
  refine g_if_lt (tgt := 34) C d_Sf_holds_1 (by decide) hf (fun c1 hf => ?_) (fun c1 hf => ?_)
  · refine g_iconst (v := 0) C d_Sf_holds_34 (by decide) ?_
    exact g_zretc C d_Sf_holds_35 rfl hf
  · refine g_iload_n C d_Sf_holds_4 rfl rfl ?_
    refine g_if_lt (tgt := 34) C d_Sf_holds_5 (by decide) hf (fun c2 hf => ?_) (fun c2 hf => ?_)
    · refine g_iconst (v := 0) C d_Sf_holds_34 (by decide) ?_
      exact g_zretc C d_Sf_holds_35 rfl hf
    · refine g_iload_n C d_Sf_holds_8 rfl rfl ?_
      refine g_aload_n C d_Sf_holds_9 rfl rfl ?_
      refine g_getR (b := 5) (k := 1) C k_Sf (by decide) fl_Sf_15 rfl rfl d_Sf_holds_10 ?_
      refine g_iload_n C d_Sf_holds_13 rfl rfl ?_
      refine g_iald C rfl d_Sf_holds_14 hf (fun hf => ?_)
      refine g_icmp_gt (tgt := 34) C d_Sf_holds_15 (by decide) hf (fun c3 hf => ?_) (fun c3 hf => ?_)
      · refine g_iconst (v := 0) C d_Sf_holds_34 (by decide) ?_
        exact g_zretc C d_Sf_holds_35 rfl hf
      · refine g_iload_n C d_Sf_holds_18 rfl rfl ?_
        refine g_aload_n C d_Sf_holds_19 rfl rfl ?_
        refine g_getR (b := 5) (k := 1) C k_Sf (by decide) fl_Sf_15 rfl rfl d_Sf_holds_20 ?_
        refine g_iload_n C d_Sf_holds_23 rfl rfl ?_
        refine g_iald C rfl d_Sf_holds_24 hf (fun hf => ?_)
        refine g_iload_n C d_Sf_holds_25 rfl rfl ?_
        refine g_isub C d_Sf_holds_26 ?_
        refine g_icmp_gt (tgt := 34) C d_Sf_holds_27 (by decide) hf (fun c4 hf => ?_) (fun c4 hf => ?_)
        · refine g_iconst (v := 0) C d_Sf_holds_34 (by decide) ?_
          exact g_zretc C d_Sf_holds_35 rfl hf
        · refine g_iconst (v := 1) C d_Sf_holds_30 (by decide) ?_
          refine g_goto (tgt := 35) C d_Sf_holds_31 (by decide) ?_
          exact g_zretc C d_Sf_holds_35 rfl hf
set_option maxHeartbeats 4000000 in
theorem t_Sf_move {l : Launch} {ad : Nat → Nat} {dA : Nat → ClassId} {D : va_G} (hi : Inj SHX ad) {N : Nat} {a1 : Int32} {a2 : Int32} {a3 : Int32} {a4 : Int32} {a5 : Int32}  {μ μ' : Mm} (hf : f_Sf_move N a1 a2 a3 a4 a5 μ = some μ') : Ct CLS l SHX ad dA D y_Sf_move c_Sf_move 6 (none) 1 [.ref (ad 3), .int a1, .int a2, .int a3, .int a4, .int a5] μ none μ' := by
  unfold f_Sf_move at hf
  refine ct_of (by decide) hi (Nat.le_of_ble_eq_true rfl) ?_
  intro p e s m args below meth c C
  refine g_aload_n C d_Sf_move_0 rfl rfl ?_
  refine g_getR (b := 4) (k := 0) C k_Sf (by decide) fl_Sf_9 rfl rfl d_Sf_move_1 ?_
  refine g_iload_n C d_Sf_move_4 rfl rfl ?_
  refine g_bipush (v := 40) C d_Sf_move_5 (by decide) ?_
  refine g_imul C d_Sf_move_7 ?_
  refine g_iload_n C d_Sf_move_8 rfl rfl ?_
  refine g_iadd C d_Sf_move_9 ?_
  refine g_aload_n C d_Sf_move_10 rfl rfl ?_
  refine g_getR (b := 4) (k := 0) C k_Sf (by decide) fl_Sf_9 rfl rfl d_Sf_move_11 ?_
  refine g_iload_n C d_Sf_move_14 rfl rfl ?_
  refine g_bipush (v := 40) C d_Sf_move_15 (by decide) ?_
  refine g_imul C d_Sf_move_17 ?_
  refine g_iload C d_Sf_move_18 rfl ?_
  refine g_iadd C d_Sf_move_20 ?_
  refine g_iload C d_Sf_move_21 rfl ?_
  refine g_copy C rfl ac_l_Sf_23 ac_n ac_s ini_Js (by decide) (by decide) d_Sf_move_23 hf (fun hf => ?_)
  exact g_vret C d_Sf_move_26 hf
set_option maxHeartbeats 4000000 in
theorem t_Sf_sumOf_L4 {ad : Nat → Nat} {dA : Nat → ClassId} {D : va_G} {p : Program} {l : Launch} {e : Env} {s : State} {m : MethodId} {args : Array Value} {below : List Frame} {meth : Method} {c : Code} {r : Int32} {μ' : Mm} (C : Cx CLS SHX ad dA D p s m args meth c c_Sf_sumOf 4 R_Sf (some .int)) (N : Nat)   : ∀ (n : Nat) (v1 : Int32) (v2 : Int32) (v3 : Int32) (μ : Mm) (lv : Nat → Option Value), lv 0 = some (.ref (ad 3)) → lv 1 = some (.int v1) → lv 2 = some (.int v2) → lv 3 = some (.int v3) → f_Sf_sumOf_L4 N n v1 v2 v3 μ = some (r, μ') → Go CLS SHX ad dA D p l e (rmD 1) s m args below meth c 4 (some (.int r)) μ' 4 lv [] μ := by
  intro n
  induction n with
  | zero => intro v1 v2 v3 μ lv hl0 hl1 hl2 hl3 hf; cases (show none = some _ from hf)
  | succ n ih =>
    intro v1 v2 v3 μ lv hl0 hl1 hl2 hl3 hf
    unfold f_Sf_sumOf_L4 at hf
    refine g_iload_n C d_Sf_sumOf_4 rfl hl3 ?_
    refine g_aload_n C d_Sf_sumOf_5 rfl hl0 ?_
    refine g_getR (b := 5) (k := 1) C k_Sf (by decide) fl_Sf_15 rfl rfl d_Sf_sumOf_6 ?_
    refine g_iload_n C d_Sf_sumOf_9 rfl hl1 ?_
    refine g_iald C rfl d_Sf_sumOf_10 hf (fun hf => ?_)
    refine g_icmp_ge (tgt := 29) C d_Sf_sumOf_11 (by decide) hf (fun c1 hf => ?_) (fun c1 hf => ?_)
    · refine g_iload_n C d_Sf_sumOf_29 rfl hl2 ?_
      exact g_iret C d_Sf_sumOf_30 hf
    · refine g_iload_n C d_Sf_sumOf_14 rfl hl2 ?_
      refine g_aload_n C d_Sf_sumOf_15 rfl hl0 ?_
      refine g_iload_n C d_Sf_sumOf_16 rfl hl1 ?_
      refine g_iload_n C d_Sf_sumOf_17 rfl hl3 ?_
      refine g_cvI C k_Sf rfl mv_Sf_byteAt ml_Sf_29 d_Sf_sumOf_18 hf (fun r μ1 h => t_Sf_byteAt C.2.2.2.2.2.2.2.2.1 h) rfl rfl (by decide) (Nat.le_of_ble_eq_true rfl) (fun r3 μ2 hf => ?_)
      refine g_iadd C d_Sf_sumOf_21 ?_
      refine g_istore_n C d_Sf_sumOf_22 rfl (by decide) ?_
      refine g_iinc (v := 1) C d_Sf_sumOf_23 (upG hl3 rfl) (by decide) (by decide) ?_
      refine g_goto (tgt := 4) C d_Sf_sumOf_26 (by decide) ?_
      exact ih _ _ _ _ _ ((upG (upG hl0 rfl) rfl)) ((upG (upG hl1 rfl) rfl)) ((upG upS rfl)) upS hf
set_option maxHeartbeats 4000000 in
theorem t_Sf_sumOf {l : Launch} {ad : Nat → Nat} {dA : Nat → ClassId} {D : va_G} (hi : Inj SHX ad) {N : Nat} {a1 : Int32}  {μ μ' : Mm} {r : Int32} (hf : f_Sf_sumOf N a1 μ = some (r, μ')) : Ct CLS l SHX ad dA D y_Sf_sumOf c_Sf_sumOf 4 (some .int) 1 [.ref (ad 3), .int a1] μ (some (.int r)) μ' := by
  unfold f_Sf_sumOf at hf
  refine ct_of (by decide) hi (Nat.le_of_ble_eq_true rfl) ?_
  intro p e s m args below meth c C
  refine g_iconst (v := 0) C d_Sf_sumOf_0 (by decide) ?_
  refine g_istore_n C d_Sf_sumOf_1 rfl (by decide) ?_
  refine g_iconst (v := 0) C d_Sf_sumOf_2 (by decide) ?_
  refine g_istore_n C d_Sf_sumOf_3 rfl (by decide) ?_
  exact t_Sf_sumOf_L4 C N N _ _ _ _ _ ((upG (upG rfl rfl) rfl)) ((upG (upG rfl rfl) rfl)) ((upG upS rfl)) upS hf
set_option maxHeartbeats 4000000 in
theorem t_Sf_allWithin_L3 {ad : Nat → Nat} {dA : Nat → ClassId} {D : va_G} {p : Program} {l : Launch} {e : Env} {s : State} {m : MethodId} {args : Array Value} {below : List Frame} {meth : Method} {c : Code} {r : Int32} {μ' : Mm} (C : Cx CLS SHX ad dA D p s m args meth c c_Sf_allWithin 5 R_Sf (some .boolean)) (N : Nat)   : ∀ (n : Nat) (v1 : Int32) (v2 : Int32) (v3 : Int32) (v4 : Int32) (μ : Mm) (lv : Nat → Option Value), lv 0 = some (.ref (ad 3)) → lv 1 = some (.int v1) → lv 2 = some (.int v2) → lv 3 = some (.int v3) → lv 4 = some (.int v4) → f_Sf_allWithin_L3 N n v1 v2 v3 v4 μ = some (r, μ') → Go CLS SHX ad dA D p l e (rmD 1) s m args below meth c 5 (some (.int r)) μ' 3 lv [] μ := by
  intro n
  induction n with
  | zero => intro v1 v2 v3 v4 μ lv hl0 hl1 hl2 hl3 hl4 hf; cases (show none = some _ from hf)
  | succ n ih =>
    intro v1 v2 v3 v4 μ lv hl0 hl1 hl2 hl3 hl4 hf
    unfold f_Sf_allWithin_L3 at hf
    refine g_iload C d_Sf_allWithin_3 hl4 ?_
    refine g_aload_n C d_Sf_allWithin_5 rfl hl0 ?_
    refine g_getR (b := 5) (k := 1) C k_Sf (by decide) fl_Sf_15 rfl rfl d_Sf_allWithin_6 ?_
    refine g_iload_n C d_Sf_allWithin_9 rfl hl1 ?_
    refine g_iald C rfl d_Sf_allWithin_10 hf (fun hf => ?_)
    refine g_icmp_ge (tgt := 44) C d_Sf_allWithin_11 (by decide) hf (fun c1 hf => ?_) (fun c1 hf => ?_)
    · refine g_iconst (v := 1) C d_Sf_allWithin_44 (by decide) ?_
      exact g_zretc C d_Sf_allWithin_45 rfl hf
    · refine g_aload_n C d_Sf_allWithin_14 rfl hl0 ?_
      refine g_iload_n C d_Sf_allWithin_15 rfl hl1 ?_
      refine g_iload C d_Sf_allWithin_16 hl4 ?_
      refine g_cvI C k_Sf rfl mv_Sf_byteAt ml_Sf_29 d_Sf_allWithin_18 hf (fun r μ1 h => t_Sf_byteAt C.2.2.2.2.2.2.2.2.1 h) rfl rfl (by decide) (Nat.le_of_ble_eq_true rfl) (fun r3 μ2 hf => ?_)
      refine g_iload_n C d_Sf_allWithin_21 rfl hl2 ?_
      refine g_icmp_lt (tgt := 36) C d_Sf_allWithin_22 (by decide) hf (fun c4 hf => ?_) (fun c4 hf => ?_)
      · refine g_iconst (v := 0) C d_Sf_allWithin_36 (by decide) ?_
        exact g_zretc C d_Sf_allWithin_37 rfl hf
      · refine g_aload_n C d_Sf_allWithin_25 rfl hl0 ?_
        refine g_iload_n C d_Sf_allWithin_26 rfl hl1 ?_
        refine g_iload C d_Sf_allWithin_27 hl4 ?_
        refine g_cvI C k_Sf rfl mv_Sf_byteAt ml_Sf_29 d_Sf_allWithin_29 hf (fun r μ1 h => t_Sf_byteAt C.2.2.2.2.2.2.2.2.1 h) rfl rfl (by decide) (Nat.le_of_ble_eq_true rfl) (fun r6 μ5 hf => ?_)
        refine g_iload_n C d_Sf_allWithin_32 rfl hl3 ?_
        refine g_icmp_le (tgt := 38) C d_Sf_allWithin_33 (by decide) hf (fun c7 hf => ?_) (fun c7 hf => ?_)
        · refine g_iinc (v := 1) C d_Sf_allWithin_38 hl4 (by decide) (by decide) ?_
          refine g_goto (tgt := 3) C d_Sf_allWithin_41 (by decide) ?_
          exact ih _ _ _ _ _ _ ((upG hl0 rfl)) ((upG hl1 rfl)) ((upG hl2 rfl)) ((upG hl3 rfl)) upS hf
        · refine g_iconst (v := 0) C d_Sf_allWithin_36 (by decide) ?_
          exact g_zretc C d_Sf_allWithin_37 rfl hf
set_option maxHeartbeats 4000000 in
theorem t_Sf_allWithin {l : Launch} {ad : Nat → Nat} {dA : Nat → ClassId} {D : va_G} (hi : Inj SHX ad) {N : Nat} {a1 : Int32} {a2 : Int32} {a3 : Int32}  {μ μ' : Mm} {r : Int32} (hf : f_Sf_allWithin N a1 a2 a3 μ = some (r, μ')) : Ct CLS l SHX ad dA D y_Sf_allWithin c_Sf_allWithin 5 (some .boolean) 1 [.ref (ad 3), .int a1, .int a2, .int a3] μ (some (.int r)) μ' := by
  unfold f_Sf_allWithin at hf
  refine ct_of (by decide) hi (Nat.le_of_ble_eq_true rfl) ?_
  intro p e s m args below meth c C
  refine g_iconst (v := 0) C d_Sf_allWithin_0 (by decide) ?_
  refine g_istore C d_Sf_allWithin_1 (by decide) ?_
  exact t_Sf_allWithin_L3 C N N _ _ _ _ _ _ ((upG rfl rfl)) ((upG rfl rfl)) ((upG rfl rfl)) ((upG rfl rfl)) upS hf
set_option maxHeartbeats 4000000 in
theorem t_Sf_hasTwins_B31 {ad : Nat → Nat} {dA : Nat → ClassId} {D : va_G} {p : Program} {l : Launch} {e : Env} {s : State} {m : MethodId} {args : Array Value} {below : List Frame} {meth : Method} {c : Code} {r : Int32} {μ' : Mm} (C : Cx CLS SHX ad dA D p s m args meth c c_Sf_hasTwins 4 R_Sf (some .boolean)) (N : Nat)   (k2 : Int32 → Int32 → Mm → Option (Int32 × Mm)) (hk2 : ∀ (v1 : Int32) (v2 : Int32) (μ : Mm) (lv : Nat → Option Value), lv 0 = some (.ref (ad 3)) → lv 1 = some (.int v1) → lv 2 = some (.int v2) → k2 v1 v2 μ = some (r, μ') → Go CLS SHX ad dA D p l e (rmD 1) s m args below meth c 4 (some (.int r)) μ' 2 lv [] μ) : ∀ (v1 : Int32) (v2 : Int32) (s0 : Int32) (μ : Mm) (lv : Nat → Option Value), lv 0 = some (.ref (ad 3)) → lv 1 = some (.int v1) → lv 2 = some (.int v2) → f_Sf_hasTwins_B31 N k2 v1 v2 s0 μ = some (r, μ') → Go CLS SHX ad dA D p l e (rmD 1) s m args below meth c 4 (some (.int r)) μ' 31 lv [.int s0] μ := by
  intro v1 v2 s0 μ lv hl0 hl1 hl2 hf
  unfold f_Sf_hasTwins_B31 at hf
  refine g_istore_n C d_Sf_hasTwins_31 rfl (by decide) ?_
  refine g_aload_n C d_Sf_hasTwins_32 rfl (upG hl0 rfl) ?_
  refine g_iload_n C d_Sf_hasTwins_33 rfl (upG hl1 rfl) ?_
  refine g_iload_n C d_Sf_hasTwins_34 rfl (upG hl2 rfl) ?_
  refine g_cvI C k_Sf rfl mv_Sf_byteAt ml_Sf_29 d_Sf_hasTwins_35 hf (fun r μ1 h => t_Sf_byteAt C.2.2.2.2.2.2.2.2.1 h) rfl rfl (by decide) (Nat.le_of_ble_eq_true rfl) (fun r4 μ3 hf => ?_)
  refine g_aload_n C d_Sf_hasTwins_38 rfl (upG hl0 rfl) ?_
  refine g_iload_n C d_Sf_hasTwins_39 rfl (upG hl1 rfl) ?_
  refine g_iload_n C d_Sf_hasTwins_40 rfl upS ?_
  refine g_cvI C k_Sf rfl mv_Sf_byteAt ml_Sf_29 d_Sf_hasTwins_41 hf (fun r μ1 h => t_Sf_byteAt C.2.2.2.2.2.2.2.2.1 h) rfl rfl (by decide) (Nat.le_of_ble_eq_true rfl) (fun r6 μ5 hf => ?_)
  refine g_icmp_ne (tgt := 49) C d_Sf_hasTwins_44 (by decide) hf (fun c7 hf => ?_) (fun c7 hf => ?_)
  · refine g_iconst (v := 1) C d_Sf_hasTwins_47 (by decide) ?_
    exact g_zretc C d_Sf_hasTwins_48 rfl hf
  · refine g_iinc (v := 1) C d_Sf_hasTwins_49 (upG hl2 rfl) (by decide) (by decide) ?_
    refine g_goto (tgt := 2) C d_Sf_hasTwins_52 (by decide) ?_
    exact hk2 _ _ _ _ ((upG (upG hl0 rfl) rfl)) ((upG (upG hl1 rfl) rfl)) upS hf
set_option maxHeartbeats 4000000 in
theorem t_Sf_hasTwins_L2 {ad : Nat → Nat} {dA : Nat → ClassId} {D : va_G} {p : Program} {l : Launch} {e : Env} {s : State} {m : MethodId} {args : Array Value} {below : List Frame} {meth : Method} {c : Code} {r : Int32} {μ' : Mm} (C : Cx CLS SHX ad dA D p s m args meth c c_Sf_hasTwins 4 R_Sf (some .boolean)) (N : Nat)   : ∀ (n : Nat) (v1 : Int32) (v2 : Int32) (μ : Mm) (lv : Nat → Option Value), lv 0 = some (.ref (ad 3)) → lv 1 = some (.int v1) → lv 2 = some (.int v2) → f_Sf_hasTwins_L2 N n v1 v2 μ = some (r, μ') → Go CLS SHX ad dA D p l e (rmD 1) s m args below meth c 4 (some (.int r)) μ' 2 lv [] μ := by
  intro n
  induction n with
  | zero => intro v1 v2 μ lv hl0 hl1 hl2 hf; cases (show none = some _ from hf)
  | succ n ih =>
    intro v1 v2 μ lv hl0 hl1 hl2 hf
    unfold f_Sf_hasTwins_L2 at hf
    refine g_iload_n C d_Sf_hasTwins_2 rfl hl2 ?_
    refine g_aload_n C d_Sf_hasTwins_3 rfl hl0 ?_
    refine g_getR (b := 5) (k := 1) C k_Sf (by decide) fl_Sf_15 rfl rfl d_Sf_hasTwins_4 ?_
    refine g_iload_n C d_Sf_hasTwins_7 rfl hl1 ?_
    refine g_iald C rfl d_Sf_hasTwins_8 hf (fun hf => ?_)
    refine g_icmp_ge (tgt := 55) C d_Sf_hasTwins_9 (by decide) hf (fun c1 hf => ?_) (fun c1 hf => ?_)
    · refine g_iconst (v := 0) C d_Sf_hasTwins_55 (by decide) ?_
      exact g_zretc C d_Sf_hasTwins_56 rfl hf
    · refine g_iload_n C d_Sf_hasTwins_12 rfl hl2 ?_
      refine g_iconst (v := 1) C d_Sf_hasTwins_13 (by decide) ?_
      refine g_iadd C d_Sf_hasTwins_14 ?_
      refine g_aload_n C d_Sf_hasTwins_15 rfl hl0 ?_
      refine g_getR (b := 5) (k := 1) C k_Sf (by decide) fl_Sf_15 rfl rfl d_Sf_hasTwins_16 ?_
      refine g_iload_n C d_Sf_hasTwins_19 rfl hl1 ?_
      refine g_iald C rfl d_Sf_hasTwins_20 hf (fun hf => ?_)
      refine g_icmp_ge (tgt := 30) C d_Sf_hasTwins_21 (by decide) hf (fun c2 hf => ?_) (fun c2 hf => ?_)
      · refine g_iconst (v := 0) C d_Sf_hasTwins_30 (by decide) ?_
        exact t_Sf_hasTwins_B31 C N _ ih _ _ _ _ _ hl0 hl1 hl2 hf
      · refine g_iload_n C d_Sf_hasTwins_24 rfl hl2 ?_
        refine g_iconst (v := 1) C d_Sf_hasTwins_25 (by decide) ?_
        refine g_iadd C d_Sf_hasTwins_26 ?_
        refine g_goto (tgt := 31) C d_Sf_hasTwins_27 (by decide) ?_
        exact t_Sf_hasTwins_B31 C N _ ih _ _ _ _ _ hl0 hl1 hl2 hf
set_option maxHeartbeats 4000000 in
theorem t_Sf_hasTwins {l : Launch} {ad : Nat → Nat} {dA : Nat → ClassId} {D : va_G} (hi : Inj SHX ad) {N : Nat} {a1 : Int32}  {μ μ' : Mm} {r : Int32} (hf : f_Sf_hasTwins N a1 μ = some (r, μ')) : Ct CLS l SHX ad dA D y_Sf_hasTwins c_Sf_hasTwins 4 (some .boolean) 1 [.ref (ad 3), .int a1] μ (some (.int r)) μ' := by
  unfold f_Sf_hasTwins at hf
  refine ct_of (by decide) hi (Nat.le_of_ble_eq_true rfl) ?_
  intro p e s m args below meth c C
  refine g_iconst (v := 0) C d_Sf_hasTwins_0 (by decide) ?_
  refine g_istore_n C d_Sf_hasTwins_1 rfl (by decide) ?_
  exact t_Sf_hasTwins_L2 C N N _ _ _ _ ((upG rfl rfl)) ((upG rfl rfl)) upS hf
set_option maxHeartbeats 4000000 in
theorem t_Sf_present_B24 {ad : Nat → Nat} {dA : Nat → ClassId} {D : va_G} {p : Program} {l : Launch} {e : Env} {s : State} {m : MethodId} {args : Array Value} {below : List Frame} {meth : Method} {c : Code} {r : Int32} {μ' : Mm} (C : Cx CLS SHX ad dA D p s m args meth c c_Sf_present 3 R_Sf (some .int)) (N : Nat)   (k4 : Int32 → Int32 → Mm → Option (Int32 × Mm)) (hk4 : ∀ (v1 : Int32) (v2 : Int32) (μ : Mm) (lv : Nat → Option Value), lv 0 = some (.ref (ad 3)) → lv 1 = some (.int v1) → lv 2 = some (.int v2) → k4 v1 v2 μ = some (r, μ') → Go CLS SHX ad dA D p l e (rmD 1) s m args below meth c 3 (some (.int r)) μ' 4 lv [] μ) : ∀ (v2 : Int32) (s0 : Int32) (s1 : Int32) (μ : Mm) (lv : Nat → Option Value), lv 0 = some (.ref (ad 3)) → lv 2 = some (.int v2) → f_Sf_present_B24 N k4 v2 s0 s1 μ = some (r, μ') → Go CLS SHX ad dA D p l e (rmD 1) s m args below meth c 3 (some (.int r)) μ' 24 lv [.int s1, .int s0] μ := by
  intro v2 s0 s1 μ lv hl0 hl2 hf
  unfold f_Sf_present_B24 at hf
  refine g_iadd C d_Sf_present_24 ?_
  refine g_istore_n C d_Sf_present_25 rfl (by decide) ?_
  refine g_iinc (v := 1) C d_Sf_present_26 (upG hl2 rfl) (by decide) (by decide) ?_
  refine g_goto (tgt := 4) C d_Sf_present_29 (by decide) ?_
  exact hk4 _ _ _ _ ((upG (upG hl0 rfl) rfl)) ((upG upS rfl)) upS hf
set_option maxHeartbeats 4000000 in
theorem t_Sf_present_L4 {ad : Nat → Nat} {dA : Nat → ClassId} {D : va_G} {p : Program} {l : Launch} {e : Env} {s : State} {m : MethodId} {args : Array Value} {below : List Frame} {meth : Method} {c : Code} {r : Int32} {μ' : Mm} (C : Cx CLS SHX ad dA D p s m args meth c c_Sf_present 3 R_Sf (some .int)) (N : Nat)   : ∀ (n : Nat) (v1 : Int32) (v2 : Int32) (μ : Mm) (lv : Nat → Option Value), lv 0 = some (.ref (ad 3)) → lv 1 = some (.int v1) → lv 2 = some (.int v2) → f_Sf_present_L4 N n v1 v2 μ = some (r, μ') → Go CLS SHX ad dA D p l e (rmD 1) s m args below meth c 3 (some (.int r)) μ' 4 lv [] μ := by
  intro n
  induction n with
  | zero => intro v1 v2 μ lv hl0 hl1 hl2 hf; cases (show none = some _ from hf)
  | succ n ih =>
    intro v1 v2 μ lv hl0 hl1 hl2 hf
    unfold f_Sf_present_L4 at hf
    refine g_iload_n C d_Sf_present_4 rfl hl2 ?_
    refine g_bipush (v := 8) C d_Sf_present_5 (by decide) ?_
    refine g_icmp_ge (tgt := 32) C d_Sf_present_7 (by decide) hf (fun c1 hf => ?_) (fun c1 hf => ?_)
    · refine g_iload_n C d_Sf_present_32 rfl hl1 ?_
      exact g_iret C d_Sf_present_33 hf
    · refine g_iload_n C d_Sf_present_10 rfl hl1 ?_
      refine g_aload_n C d_Sf_present_11 rfl hl0 ?_
      refine g_iload_n C d_Sf_present_12 rfl hl2 ?_
      refine g_cvI C k_Sf rfl mv_Sf_lacks ml_Sf_33 d_Sf_present_13 hf (fun r μ1 h => t_Sf_lacks C.2.2.2.2.2.2.2.2.1 h) rfl rfl (by decide) (Nat.le_of_ble_eq_true rfl) (fun r3 μ2 hf => ?_)
      refine g_if_eq (tgt := 23) C d_Sf_present_16 (by decide) hf (fun c4 hf => ?_) (fun c4 hf => ?_)
      · refine g_iconst (v := 1) C d_Sf_present_23 (by decide) ?_
        exact t_Sf_present_B24 C N _ ih _ _ _ _ _ hl0 hl2 hf
      · refine g_iconst (v := 0) C d_Sf_present_19 (by decide) ?_
        refine g_goto (tgt := 24) C d_Sf_present_20 (by decide) ?_
        exact t_Sf_present_B24 C N _ ih _ _ _ _ _ hl0 hl2 hf
set_option maxHeartbeats 4000000 in
theorem t_Sf_present {l : Launch} {ad : Nat → Nat} {dA : Nat → ClassId} {D : va_G} (hi : Inj SHX ad) {N : Nat}   {μ μ' : Mm} {r : Int32} (hf : f_Sf_present N  μ = some (r, μ')) : Ct CLS l SHX ad dA D y_Sf_present c_Sf_present 3 (some .int) 1 [.ref (ad 3)] μ (some (.int r)) μ' := by
  unfold f_Sf_present at hf
  refine ct_of (by decide) hi (Nat.le_of_ble_eq_true rfl) ?_
  intro p e s m args below meth c C
  refine g_iconst (v := 0) C d_Sf_present_0 (by decide) ?_
  refine g_istore_n C d_Sf_present_1 rfl (by decide) ?_
  refine g_iconst (v := 0) C d_Sf_present_2 (by decide) ?_
  refine g_istore_n C d_Sf_present_3 rfl (by decide) ?_
  exact t_Sf_present_L4 C N N _ _ _ _ ((upG (upG rfl rfl) rfl)) ((upG upS rfl)) upS hf
set_option maxHeartbeats 4000000 in
theorem t_Sf_mixInto_B64 {ad : Nat → Nat} {dA : Nat → ClassId} {D : va_G} {p : Program} {l : Launch} {e : Env} {s : State} {m : MethodId} {args : Array Value} {below : List Frame} {meth : Method} {c : Code} {r : Int64} {μ' : Mm} (C : Cx CLS SHX ad dA D p s m args meth c c_Sf_mixInto 7 R_Sf (some .long)) (N : Nat)   (k5 : Int64 → Int32 → Mm → Option (Int64 × Mm)) (hk5 : ∀ (v3 : Int64) (v5 : Int32) (μ : Mm) (lv : Nat → Option Value), lv 0 = some (.ref (ad 3)) → lv 3 = some (.long v3) → lv 5 = some (.int v5) → k5 v3 v5 μ = some (r, μ') → Go CLS SHX ad dA D p l e (rmD 1) s m args below meth c 7 (some (.long r)) μ' 5 lv [] μ) : ∀ (v3 : Int64) (v5 : Int32) (μ : Mm) (lv : Nat → Option Value), lv 0 = some (.ref (ad 3)) → lv 3 = some (.long v3) → lv 5 = some (.int v5) → f_Sf_mixInto_B64 N k5 v3 v5 μ = some (r, μ') → Go CLS SHX ad dA D p l e (rmD 1) s m args below meth c 7 (some (.long r)) μ' 64 lv [] μ := by
  intro v3 v5 μ lv hl0 hl3 hl5 hf
  unfold f_Sf_mixInto_B64 at hf
  refine g_iinc (v := 1) C d_Sf_mixInto_64 hl5 (by decide) (by decide) ?_
  refine g_goto (tgt := 5) C d_Sf_mixInto_67 (by decide) ?_
  exact hk5 _ _ _ _ ((upG hl0 rfl)) ((upG hl3 rfl)) upS hf
set_option maxHeartbeats 4000000 in
theorem t_Sf_mixInto_L30 {ad : Nat → Nat} {dA : Nat → ClassId} {D : va_G} {p : Program} {l : Launch} {e : Env} {s : State} {m : MethodId} {args : Array Value} {below : List Frame} {meth : Method} {c : Code} {r : Int64} {μ' : Mm} (C : Cx CLS SHX ad dA D p s m args meth c c_Sf_mixInto 7 R_Sf (some .long)) (N : Nat)   (k5 : Int64 → Int32 → Mm → Option (Int64 × Mm)) (hk5 : ∀ (v3 : Int64) (v5 : Int32) (μ : Mm) (lv : Nat → Option Value), lv 0 = some (.ref (ad 3)) → lv 3 = some (.long v3) → lv 5 = some (.int v5) → k5 v3 v5 μ = some (r, μ') → Go CLS SHX ad dA D p l e (rmD 1) s m args below meth c 7 (some (.long r)) μ' 5 lv [] μ) : ∀ (n : Nat) (v3 : Int64) (v5 : Int32) (v6 : Int32) (μ : Mm) (lv : Nat → Option Value), lv 0 = some (.ref (ad 3)) → lv 3 = some (.long v3) → lv 5 = some (.int v5) → lv 6 = some (.int v6) → f_Sf_mixInto_L30 N k5 n v3 v5 v6 μ = some (r, μ') → Go CLS SHX ad dA D p l e (rmD 1) s m args below meth c 7 (some (.long r)) μ' 30 lv [] μ := by
  intro n
  induction n with
  | zero => intro v3 v5 v6 μ lv hl0 hl3 hl5 hl6 hf; cases (show none = some _ from hf)
  | succ n ih =>
    intro v3 v5 v6 μ lv hl0 hl3 hl5 hl6 hf
    unfold f_Sf_mixInto_L30 at hf
    refine g_iload C d_Sf_mixInto_30 hl6 ?_
    refine g_aload_n C d_Sf_mixInto_32 rfl hl0 ?_
    refine g_getR (b := 5) (k := 1) C k_Sf (by decide) fl_Sf_15 rfl rfl d_Sf_mixInto_33 ?_
    refine g_iload C d_Sf_mixInto_36 hl5 ?_
    refine g_iald C rfl d_Sf_mixInto_38 hf (fun hf => ?_)
    refine g_icmp_ge (tgt := 64) C d_Sf_mixInto_39 (by decide) hf (fun c3 hf => ?_) (fun c3 hf => ?_)
    · exact t_Sf_mixInto_B64 C N _ hk5 _ _ _ _ hl0 hl3 hl5 hf
    · refine g_ldc2 C cl_Sf_37 d_Sf_mixInto_42 ?_
      refine g_lload_n C d_Sf_mixInto_45 rfl hl3 ?_
      refine g_lmul C d_Sf_mixInto_46 ?_
      refine g_aload_n C d_Sf_mixInto_47 rfl hl0 ?_
      refine g_iload C d_Sf_mixInto_48 hl5 ?_
      refine g_iload C d_Sf_mixInto_50 hl6 ?_
      refine g_cvI C k_Sf rfl mv_Sf_byteAt ml_Sf_29 d_Sf_mixInto_52 hf (fun r μ1 h => t_Sf_byteAt C.2.2.2.2.2.2.2.2.1 h) rfl rfl (by decide) (Nat.le_of_ble_eq_true rfl) (fun r5 μ4 hf => ?_)
      refine g_i2l C d_Sf_mixInto_55 ?_
      refine g_ladd C d_Sf_mixInto_56 ?_
      refine g_lstore_n C d_Sf_mixInto_57 rfl (by decide) ?_
      refine g_iinc (v := 1) C d_Sf_mixInto_58 (upG hl6 rfl) (by decide) (by decide) ?_
      refine g_goto (tgt := 30) C d_Sf_mixInto_61 (by decide) ?_
      exact ih _ _ _ _ _ ((upG (upG hl0 rfl) rfl)) ((upG upS rfl)) ((upG (upG hl5 rfl) rfl)) upS hf
set_option maxHeartbeats 4000000 in
theorem t_Sf_mixInto_L5 {ad : Nat → Nat} {dA : Nat → ClassId} {D : va_G} {p : Program} {l : Launch} {e : Env} {s : State} {m : MethodId} {args : Array Value} {below : List Frame} {meth : Method} {c : Code} {r : Int64} {μ' : Mm} (C : Cx CLS SHX ad dA D p s m args meth c c_Sf_mixInto 7 R_Sf (some .long)) (N : Nat)   : ∀ (n : Nat) (v3 : Int64) (v5 : Int32) (μ : Mm) (lv : Nat → Option Value), lv 0 = some (.ref (ad 3)) → lv 3 = some (.long v3) → lv 5 = some (.int v5) → f_Sf_mixInto_L5 N n v3 v5 μ = some (r, μ') → Go CLS SHX ad dA D p l e (rmD 1) s m args below meth c 7 (some (.long r)) μ' 5 lv [] μ := by
  intro n
  induction n with
  | zero => intro v3 v5 μ lv hl0 hl3 hl5 hf; cases (show none = some _ from hf)
  | succ n ih =>
    intro v3 v5 μ lv hl0 hl3 hl5 hf
    unfold f_Sf_mixInto_L5 at hf
    refine g_iload C d_Sf_mixInto_5 hl5 ?_
    refine g_bipush (v := 8) C d_Sf_mixInto_7 (by decide) ?_
    refine g_icmp_ge (tgt := 70) C d_Sf_mixInto_9 (by decide) hf (fun c1 hf => ?_) (fun c1 hf => ?_)
    · refine g_lload_n C d_Sf_mixInto_70 rfl hl3 ?_
      exact g_lret C d_Sf_mixInto_71 hf
    · refine g_ldc2 C cl_Sf_37 d_Sf_mixInto_12 ?_
      refine g_lload_n C d_Sf_mixInto_15 rfl hl3 ?_
      refine g_lmul C d_Sf_mixInto_16 ?_
      refine g_aload_n C d_Sf_mixInto_17 rfl hl0 ?_
      refine g_getR (b := 5) (k := 1) C k_Sf (by decide) fl_Sf_15 rfl rfl d_Sf_mixInto_18 ?_
      refine g_iload C d_Sf_mixInto_21 hl5 ?_
      refine g_iald C rfl d_Sf_mixInto_23 hf (fun hf => ?_)
      refine g_i2l C d_Sf_mixInto_24 ?_
      refine g_ladd C d_Sf_mixInto_25 ?_
      refine g_lstore_n C d_Sf_mixInto_26 rfl (by decide) ?_
      refine g_iconst (v := 0) C d_Sf_mixInto_27 (by decide) ?_
      refine g_istore C d_Sf_mixInto_28 (by decide) ?_
      exact t_Sf_mixInto_L30 C N _ ih N _ _ _ _ _ ((upG (upG hl0 rfl) rfl)) ((upG upS rfl)) ((upG (upG hl5 rfl) rfl)) upS hf
set_option maxHeartbeats 4000000 in
theorem t_Sf_mixInto {l : Launch} {ad : Nat → Nat} {dA : Nat → ClassId} {D : va_G} (hi : Inj SHX ad) {N : Nat} {a1 : Int64}  {μ μ' : Mm} {r : Int64} (hf : f_Sf_mixInto N a1 μ = some (r, μ')) : Ct CLS l SHX ad dA D y_Sf_mixInto c_Sf_mixInto 7 (some .long) 1 [.ref (ad 3), .long a1] μ (some (.long r)) μ' := by
  unfold f_Sf_mixInto at hf
  refine ct_of (by decide) hi (Nat.le_of_ble_eq_true rfl) ?_
  intro p e s m args below meth c C
  refine g_lload_n C d_Sf_mixInto_0 rfl rfl ?_
  refine g_lstore_n C d_Sf_mixInto_1 rfl (by decide) ?_
  refine g_iconst (v := 0) C d_Sf_mixInto_2 (by decide) ?_
  refine g_istore C d_Sf_mixInto_3 (by decide) ?_
  exact t_Sf_mixInto_L5 C N N _ _ _ _ ((upG (upG rfl rfl) rfl)) ((upG upS rfl)) upS hf
set_option maxHeartbeats 4000000 in
theorem t_Ta_found {l : Launch} {ad : Nat → Nat} {dA : Nat → ClassId} {D : va_G} (hi : Inj SHX ad) {N : Nat} {a1 : Int32}  {μ μ' : Mm} {r : Int32} (hf : f_Ta_found N a1 μ = some (r, μ')) : Ct CLS l SHX ad dA D y_Ta_found c_Ta_found 2 (some .int) 0 [.ref (ad 1), .int a1] μ (some (.int r)) μ' := by
  unfold f_Ta_found at hf
  refine ct_of (by decide) hi (Nat.le_of_ble_eq_true rfl) ?_
  intro p e s m args below meth c C
  refine g_aload_n C d_Ta_found_0 rfl rfl ?_
  refine g_iload_n C d_Ta_found_1 rfl rfl ?_
  refine g_putI (k := 1) C k_Ta (by decide) fl_Ta_15 rfl rfl rfl rfl d_Ta_found_2 ?_
  refine g_aload_n C d_Ta_found_5 rfl rfl ?_
  refine g_getR (b := 2) (k := 0) C k_Ta (by decide) fl_Ta_9 rfl rfl d_Ta_found_6 ?_
  refine g_iload_n C d_Ta_found_9 rfl rfl ?_
  refine g_dup2 C d_Ta_found_10 rfl rfl ?_
  refine g_iald C rfl d_Ta_found_11 hf (fun hf => ?_)
  refine g_iconst (v := 1) C d_Ta_found_12 (by decide) ?_
  refine g_iadd C d_Ta_found_13 ?_
  refine g_iast C rfl d_Ta_found_14 hf (fun hf => ?_)
  refine g_bipush (v := -3) C d_Ta_found_15 (by decide) ?_
  exact g_iret C d_Ta_found_17 hf
set_option maxHeartbeats 4000000 in
theorem t_Ta_tellFraction {l : Launch} {ad : Nat → Nat} {dA : Nat → ClassId} {D : va_G} (hi : Inj SHX ad) {N : Nat} {a1 : Int64} {a2 : Int64}  {μ μ' : Mm} (hf : f_Ta_tellFraction N a1 a2 μ = some μ') : Ct CLS l SHX ad dA D y_Ta_tellFraction c_Ta_tellFraction 7 (none) 1 [.ref (ad 1), .long a1, .long a2] μ none μ' := by
  unfold f_Ta_tellFraction at hf
  refine ct_of (by decide) hi (Nat.le_of_ble_eq_true rfl) ?_
  intro p e s m args below meth c C
  refine g_lload_n C d_Ta_tellFraction_0 rfl rfl ?_
  refine g_lload_n C d_Ta_tellFraction_1 rfl rfl ?_
  refine g_cnL C mv_W_gcd mn_Ta_29 d_Ta_tellFraction_2 hf (fun r μ1 h => t_W_gcd C.2.2.2.2.2.2.2.2.1 h) rfl rfl (by decide) (Nat.le_of_ble_eq_true rfl) (fun r2 μ1 hf => ?_)
  refine g_lstore C d_Ta_tellFraction_5 (by decide) ?_
  refine g_lload C d_Ta_tellFraction_7 upS ?_
  refine g_lconst (v := 0) C d_Ta_tellFraction_9 (by decide) ?_
  refine g_lcmp C d_Ta_tellFraction_10 ?_
  refine g_if_le (tgt := 30) C d_Ta_tellFraction_11 (by decide) hf (fun c3 hf => ?_) (fun c3 hf => ?_)
  · exact g_vret C d_Ta_tellFraction_30 hf
  · refine g_aload_n C d_Ta_tellFraction_14 rfl (upG rfl rfl) ?_
    refine g_lload_n C d_Ta_tellFraction_15 rfl (upG rfl rfl) ?_
    refine g_lload C d_Ta_tellFraction_16 upS ?_
    refine g_ldiv C d_Ta_tellFraction_18 hf (fun hf => ?_)
    refine g_putL (k := 3) C k_Ta (by decide) fl_Ta_22 rfl rfl rfl rfl d_Ta_tellFraction_19 ?_
    refine g_aload_n C d_Ta_tellFraction_22 rfl (upG rfl rfl) ?_
    refine g_lload_n C d_Ta_tellFraction_23 rfl (upG rfl rfl) ?_
    refine g_lload C d_Ta_tellFraction_24 upS ?_
    refine g_ldiv C d_Ta_tellFraction_26 hf (fun hf => ?_)
    refine g_putL (k := 4) C k_Ta (by decide) fl_Ta_26 rfl rfl rfl rfl d_Ta_tellFraction_27 ?_
    exact g_vret C d_Ta_tellFraction_30 hf
set_option maxHeartbeats 4000000 in
theorem t_To_stopAt_B21 {ad : Nat → Nat} {dA : Nat → ClassId} {D : va_G} {p : Program} {l : Launch} {e : Env} {s : State} {m : MethodId} {args : Array Value} {below : List Frame} {meth : Method} {c : Code} {r : Int32} {μ' : Mm} (C : Cx CLS SHX ad dA D p s m args meth c c_To_stopAt 2 R_To (some .int)) (N : Nat)   : ∀  (μ : Mm) (lv : Nat → Option Value), f_To_stopAt_B21 N μ = some (r, μ') → Go CLS SHX ad dA D p l e (rmD 0) s m args below meth c 2 (some (.int r)) μ' 21 lv [] μ := by
  intro μ lv hf
  unfold f_To_stopAt_B21 at hf
  refine g_bipush (v := -9) C d_To_stopAt_21 (by decide) ?_
  refine g_goto (tgt := 32) C d_To_stopAt_23 (by decide) ?_
  exact g_iret C d_To_stopAt_32 hf
set_option maxHeartbeats 4000000 in
theorem t_To_stopAt {l : Launch} {ad : Nat → Nat} {dA : Nat → ClassId} {D : va_G} (hi : Inj SHX ad) {N : Nat} {a1 : Int32}  {μ μ' : Mm} {r : Int32} (hf : f_To_stopAt N a1 μ = some (r, μ')) : Ct CLS l SHX ad dA D y_To_stopAt c_To_stopAt 2 (some .int) 0 [.ref (ad 75), .int a1] μ (some (.int r)) μ' := by
  unfold f_To_stopAt at hf
  refine ct_of (by decide) hi (Nat.le_of_ble_eq_true rfl) ?_
  intro p e s m args below meth c C
  refine g_iload_n C d_To_stopAt_0 rfl rfl ?_
  refine g_if_lt (tgt := 21) C d_To_stopAt_1 (by decide) hf (fun c1 hf => ?_) (fun c1 hf => ?_)
  · exact t_To_stopAt_B21 C N _ _ hf
  · refine g_iload_n C d_To_stopAt_4 rfl rfl ?_
    refine g_aload_n C d_To_stopAt_5 rfl rfl ?_
    refine g_getI (k := 5) C k_To (by decide) fl_To_25 rfl rfl d_To_stopAt_6 ?_
    refine g_icmp_ge (tgt := 21) C d_To_stopAt_9 (by decide) hf (fun c2 hf => ?_) (fun c2 hf => ?_)
    · exact t_To_stopAt_B21 C N _ _ hf
    · refine g_aload_n C d_To_stopAt_12 rfl rfl ?_
      refine g_getI (k := 0) C k_To (by decide) fl_To_9 rfl rfl d_To_stopAt_13 ?_
      refine g_bipush (v := -9) C d_To_stopAt_16 (by decide) ?_
      refine g_icmp_ne (tgt := 26) C d_To_stopAt_18 (by decide) hf (fun c3 hf => ?_) (fun c3 hf => ?_)
      · exact t_To_stopAt_B21 C N _ _ hf
      · refine g_aload_n C d_To_stopAt_26 rfl rfl ?_
        refine g_getR (b := 77) (k := 3) C k_To (by decide) fl_To_19 rfl rfl d_To_stopAt_27 ?_
        refine g_iload_n C d_To_stopAt_30 rfl rfl ?_
        refine g_iald C rfl d_To_stopAt_31 hf (fun hf => ?_)
        exact g_iret C d_To_stopAt_32 hf
set_option maxHeartbeats 4000000 in
theorem t_To_way {l : Launch} {ad : Nat → Nat} {dA : Nat → ClassId} {D : va_G} (hi : Inj SHX ad) {N : Nat} {a1 : Int32} {a2 : Int32}  {μ μ' : Mm} {r : Int32} (hf : f_To_way N a1 a2 μ = some (r, μ')) : Ct CLS l SHX ad dA D y_To_way c_To_way 3 (some .int) 1 [.ref (ad 75), .int a1, .int a2] μ (some (.int r)) μ' := by
  unfold f_To_way at hf
  refine ct_of (by decide) hi (Nat.le_of_ble_eq_true rfl) ?_
  intro p e s m args below meth c C
  refine g_aload_n C d_To_way_0 rfl rfl ?_
  refine g_getR (b := 6) (k := 1) C k_To (by decide) fl_To_31 rfl rfl d_To_way_1 ?_
  refine g_aload_n C d_To_way_4 rfl rfl ?_
  refine g_getR (b := 76) (k := 2) C k_To (by decide) fl_To_15 rfl rfl d_To_way_5 ?_
  refine g_iload_n C d_To_way_8 rfl rfl ?_
  refine g_iald C rfl d_To_way_9 hf (fun hf => ?_)
  refine g_aload_n C d_To_way_10 rfl rfl ?_
  refine g_getR (b := 76) (k := 2) C k_To (by decide) fl_To_15 rfl rfl d_To_way_11 ?_
  refine g_iload_n C d_To_way_14 rfl rfl ?_
  refine g_iald C rfl d_To_way_15 hf (fun hf => ?_)
  refine g_cvI C k_Gr rfl mv_Gr_farOf ml_To_67 d_To_way_16 hf (fun r μ1 h => t_Gr_farOf C.2.2.2.2.2.2.2.2.1 h) rfl rfl (by decide) (Nat.le_of_ble_eq_true rfl) (fun r2 μ1 hf => ?_)
  exact g_iret C d_To_way_19 hf
set_option maxHeartbeats 4000000 in
theorem t_To_wayOver {l : Launch} {ad : Nat → Nat} {dA : Nat → ClassId} {D : va_G} (hi : Inj SHX ad) {N : Nat} {a1 : Int32} {a2 : Int32} {a3 : Int32}  {μ μ' : Mm} {r : Int32} (hf : f_To_wayOver N a1 a2 a3 μ = some (r, μ')) : Ct CLS l SHX ad dA D y_To_wayOver c_To_wayOver 4 (some .int) 2 [.ref (ad 75), .int a1, .int a2, .int a3] μ (some (.int r)) μ' := by
  unfold f_To_wayOver at hf
  refine ct_of (by decide) hi (Nat.le_of_ble_eq_true rfl) ?_
  intro p e s m args below meth c C
  refine g_aload_n C d_To_wayOver_0 rfl rfl ?_
  refine g_iload_n C d_To_wayOver_1 rfl rfl ?_
  refine g_iload_n C d_To_wayOver_2 rfl rfl ?_
  refine g_iconst (v := 1) C d_To_wayOver_3 (by decide) ?_
  refine g_iadd C d_To_wayOver_4 ?_
  refine g_cvI C k_To rfl mv_To_way ml_To_63 d_To_wayOver_5 hf (fun r μ1 h => t_To_way C.2.2.2.2.2.2.2.2.1 h) rfl rfl (by decide) (Nat.le_of_ble_eq_true rfl) (fun r2 μ1 hf => ?_)
  refine g_aload_n C d_To_wayOver_8 rfl rfl ?_
  refine g_getR (b := 78) (k := 4) C k_To (by decide) fl_To_22 rfl rfl d_To_wayOver_9 ?_
  refine g_iload_n C d_To_wayOver_12 rfl rfl ?_
  refine g_iconst (v := 1) C d_To_wayOver_13 (by decide) ?_
  refine g_iload_n C d_To_wayOver_14 rfl rfl ?_
  refine g_ishl C d_To_wayOver_15 ?_
  refine g_ior C d_To_wayOver_16 ?_
  refine g_bipush (v := 9) C d_To_wayOver_17 (by decide) ?_
  refine g_imul C d_To_wayOver_19 ?_
  refine g_iload_n C d_To_wayOver_20 rfl rfl ?_
  refine g_iadd C d_To_wayOver_21 ?_
  refine g_iald C rfl d_To_wayOver_22 hf (fun hf => ?_)
  refine g_iadd C d_To_wayOver_23 ?_
  exact g_iret C d_To_wayOver_24 hf
set_option maxHeartbeats 4000000 in
theorem t_To_bestBeyond_B39 {ad : Nat → Nat} {dA : Nat → ClassId} {D : va_G} {p : Program} {l : Launch} {e : Env} {s : State} {m : MethodId} {args : Array Value} {below : List Frame} {meth : Method} {c : Code} {r : Int32} {μ' : Mm} (C : Cx CLS SHX ad dA D p s m args meth c c_To_bestBeyond 5 R_To (some .int)) (N : Nat)   (k6 : Int32 → Int32 → Int32 → Int32 → Mm → Option (Int32 × Mm)) (hk6 : ∀ (v1 : Int32) (v2 : Int32) (v3 : Int32) (v4 : Int32) (μ : Mm) (lv : Nat → Option Value), lv 0 = some (.ref (ad 75)) → lv 1 = some (.int v1) → lv 2 = some (.int v2) → lv 3 = some (.int v3) → lv 4 = some (.int v4) → k6 v1 v2 v3 v4 μ = some (r, μ') → Go CLS SHX ad dA D p l e (rmD 3) s m args below meth c 5 (some (.int r)) μ' 6 lv [] μ) : ∀ (v1 : Int32) (v2 : Int32) (v3 : Int32) (v4 : Int32) (μ : Mm) (lv : Nat → Option Value), lv 0 = some (.ref (ad 75)) → lv 1 = some (.int v1) → lv 2 = some (.int v2) → lv 3 = some (.int v3) → lv 4 = some (.int v4) → f_To_bestBeyond_B39 N k6 v1 v2 v3 v4 μ = some (r, μ') → Go CLS SHX ad dA D p l e (rmD 3) s m args below meth c 5 (some (.int r)) μ' 39 lv [] μ := by
  intro v1 v2 v3 v4 μ lv hl0 hl1 hl2 hl3 hl4 hf
  unfold f_To_bestBeyond_B39 at hf
  refine g_iinc (v := 1) C d_To_bestBeyond_39 hl4 (by decide) (by decide) ?_
  refine g_goto (tgt := 6) C d_To_bestBeyond_42 (by decide) ?_
  exact hk6 _ _ _ _ _ _ ((upG hl0 rfl)) ((upG hl1 rfl)) ((upG hl2 rfl)) ((upG hl3 rfl)) upS hf
set_option maxHeartbeats 4000000 in
theorem t_To_bestBeyond_L6 {ad : Nat → Nat} {dA : Nat → ClassId} {D : va_G} {p : Program} {l : Launch} {e : Env} {s : State} {m : MethodId} {args : Array Value} {below : List Frame} {meth : Method} {c : Code} {r : Int32} {μ' : Mm} (C : Cx CLS SHX ad dA D p s m args meth c c_To_bestBeyond 5 R_To (some .int)) (N : Nat)   : ∀ (n : Nat) (v1 : Int32) (v2 : Int32) (v3 : Int32) (v4 : Int32) (μ : Mm) (lv : Nat → Option Value), lv 0 = some (.ref (ad 75)) → lv 1 = some (.int v1) → lv 2 = some (.int v2) → lv 3 = some (.int v3) → lv 4 = some (.int v4) → f_To_bestBeyond_L6 N n v1 v2 v3 v4 μ = some (r, μ') → Go CLS SHX ad dA D p l e (rmD 3) s m args below meth c 5 (some (.int r)) μ' 6 lv [] μ := by
  intro n
  induction n with
  | zero => intro v1 v2 v3 v4 μ lv hl0 hl1 hl2 hl3 hl4 hf; cases (show none = some _ from hf)
  | succ n ih =>
    intro v1 v2 v3 v4 μ lv hl0 hl1 hl2 hl3 hl4 hf
    unfold f_To_bestBeyond_L6 at hf
    refine g_iload C d_To_bestBeyond_6 hl4 ?_
    refine g_aload_n C d_To_bestBeyond_8 rfl hl0 ?_
    refine g_getI (k := 5) C k_To (by decide) fl_To_25 rfl rfl d_To_bestBeyond_9 ?_
    refine g_iconst (v := 1) C d_To_bestBeyond_12 (by decide) ?_
    refine g_isub C d_To_bestBeyond_13 ?_
    refine g_icmp_ge (tgt := 45) C d_To_bestBeyond_14 (by decide) hf (fun c1 hf => ?_) (fun c1 hf => ?_)
    · refine g_iload_n C d_To_bestBeyond_45 rfl hl3 ?_
      exact g_iret C d_To_bestBeyond_46 hf
    · refine g_iload_n C d_To_bestBeyond_17 rfl hl1 ?_
      refine g_iload C d_To_bestBeyond_18 hl4 ?_
      refine g_ishr C d_To_bestBeyond_20 ?_
      refine g_iconst (v := 1) C d_To_bestBeyond_21 (by decide) ?_
      refine g_iand C d_To_bestBeyond_22 ?_
      refine g_if_ne (tgt := 39) C d_To_bestBeyond_23 (by decide) hf (fun c2 hf => ?_) (fun c2 hf => ?_)
      · refine g_iload_n C d_To_bestBeyond_26 rfl hl3 ?_
        refine g_aload_n C d_To_bestBeyond_27 rfl hl0 ?_
        refine g_iload_n C d_To_bestBeyond_28 rfl hl1 ?_
        refine g_iload_n C d_To_bestBeyond_29 rfl hl2 ?_
        refine g_iload C d_To_bestBeyond_30 hl4 ?_
        refine g_cvI C k_To rfl mv_To_wayOver ml_To_74 d_To_bestBeyond_32 hf (fun r μ1 h => t_To_wayOver C.2.2.2.2.2.2.2.2.1 h) rfl rfl (by decide) (Nat.le_of_ble_eq_true rfl) (fun r4 μ3 hf => ?_)
        refine g_csI C mv_Jm_min_7cf53 ml_To_78 d_To_bestBeyond_35 hf (fun r μ1 h => t_Jm_min_7cf53 C.2.2.2.2.2.2.2.2.1 h) rfl rfl (by decide) (Nat.le_of_ble_eq_true rfl) (fun r6 μ5 hf => ?_)
        refine g_istore_n C d_To_bestBeyond_38 rfl (by decide) ?_
        exact t_To_bestBeyond_B39 C N _ ih _ _ _ _ _ _ ((upG hl0 rfl)) ((upG hl1 rfl)) ((upG hl2 rfl)) upS ((upG hl4 rfl)) hf
      · exact t_To_bestBeyond_B39 C N _ ih _ _ _ _ _ _ hl0 hl1 hl2 hl3 hl4 hf
set_option maxHeartbeats 4000000 in
theorem t_To_bestBeyond {l : Launch} {ad : Nat → Nat} {dA : Nat → ClassId} {D : va_G} (hi : Inj SHX ad) {N : Nat} {a1 : Int32} {a2 : Int32}  {μ μ' : Mm} {r : Int32} (hf : f_To_bestBeyond N a1 a2 μ = some (r, μ')) : Ct CLS l SHX ad dA D y_To_bestBeyond c_To_bestBeyond 5 (some .int) 3 [.ref (ad 75), .int a1, .int a2] μ (some (.int r)) μ' := by
  unfold f_To_bestBeyond at hf
  refine ct_of (by decide) hi (Nat.le_of_ble_eq_true rfl) ?_
  intro p e s m args below meth c C
  refine g_ldc C ck_To_73 d_To_bestBeyond_0 ?_
  refine g_istore_n C d_To_bestBeyond_2 rfl (by decide) ?_
  refine g_iconst (v := 0) C d_To_bestBeyond_3 (by decide) ?_
  refine g_istore C d_To_bestBeyond_4 (by decide) ?_
  exact t_To_bestBeyond_L6 C N N _ _ _ _ _ _ ((upG (upG rfl rfl) rfl)) ((upG (upG rfl rfl) rfl)) ((upG (upG rfl rfl) rfl)) ((upG upS rfl)) upS hf
set_option maxHeartbeats 4000000 in
theorem t_To_nextStop_B54 {ad : Nat → Nat} {dA : Nat → ClassId} {D : va_G} {p : Program} {l : Launch} {e : Env} {s : State} {m : MethodId} {args : Array Value} {below : List Frame} {meth : Method} {c : Code} {r : Int32} {μ' : Mm} (C : Cx CLS SHX ad dA D p s m args meth c c_To_nextStop 6 R_To (some .int)) (N : Nat)   (k9 : Int32 → Int32 → Int32 → Int32 → Int32 → Mm → Option (Int32 × Mm)) (hk9 : ∀ (v1 : Int32) (v2 : Int32) (v3 : Int32) (v4 : Int32) (v5 : Int32) (μ : Mm) (lv : Nat → Option Value), lv 0 = some (.ref (ad 75)) → lv 1 = some (.int v1) → lv 2 = some (.int v2) → lv 3 = some (.int v3) → lv 4 = some (.int v4) → lv 5 = some (.int v5) → k9 v1 v2 v3 v4 v5 μ = some (r, μ') → Go CLS SHX ad dA D p l e (rmD 3) s m args below meth c 6 (some (.int r)) μ' 9 lv [] μ) : ∀ (v1 : Int32) (v2 : Int32) (v3 : Int32) (v4 : Int32) (v5 : Int32) (μ : Mm) (lv : Nat → Option Value), lv 0 = some (.ref (ad 75)) → lv 1 = some (.int v1) → lv 2 = some (.int v2) → lv 3 = some (.int v3) → lv 4 = some (.int v4) → lv 5 = some (.int v5) → f_To_nextStop_B54 N k9 v1 v2 v3 v4 v5 μ = some (r, μ') → Go CLS SHX ad dA D p l e (rmD 3) s m args below meth c 6 (some (.int r)) μ' 54 lv [] μ := by
  intro v1 v2 v3 v4 v5 μ lv hl0 hl1 hl2 hl3 hl4 hl5 hf
  unfold f_To_nextStop_B54 at hf
  refine g_iinc (v := 1) C d_To_nextStop_54 hl5 (by decide) (by decide) ?_
  refine g_goto (tgt := 9) C d_To_nextStop_57 (by decide) ?_
  exact hk9 _ _ _ _ _ _ _ ((upG hl0 rfl)) ((upG hl1 rfl)) ((upG hl2 rfl)) ((upG hl3 rfl)) ((upG hl4 rfl)) upS hf
set_option maxHeartbeats 4000000 in
theorem t_To_nextStop_L9 {ad : Nat → Nat} {dA : Nat → ClassId} {D : va_G} {p : Program} {l : Launch} {e : Env} {s : State} {m : MethodId} {args : Array Value} {below : List Frame} {meth : Method} {c : Code} {r : Int32} {μ' : Mm} (C : Cx CLS SHX ad dA D p s m args meth c c_To_nextStop 6 R_To (some .int)) (N : Nat)   : ∀ (n : Nat) (v1 : Int32) (v2 : Int32) (v3 : Int32) (v4 : Int32) (v5 : Int32) (μ : Mm) (lv : Nat → Option Value), lv 0 = some (.ref (ad 75)) → lv 1 = some (.int v1) → lv 2 = some (.int v2) → lv 3 = some (.int v3) → lv 4 = some (.int v4) → lv 5 = some (.int v5) → f_To_nextStop_L9 N n v1 v2 v3 v4 v5 μ = some (r, μ') → Go CLS SHX ad dA D p l e (rmD 3) s m args below meth c 6 (some (.int r)) μ' 9 lv [] μ := by
  intro n
  induction n with
  | zero => intro v1 v2 v3 v4 v5 μ lv hl0 hl1 hl2 hl3 hl4 hl5 hf; cases (show none = some _ from hf)
  | succ n ih =>
    intro v1 v2 v3 v4 v5 μ lv hl0 hl1 hl2 hl3 hl4 hl5 hf
    unfold f_To_nextStop_L9 at hf
    refine g_iload C d_To_nextStop_9 hl5 ?_
    refine g_aload_n C d_To_nextStop_11 rfl hl0 ?_
    refine g_getI (k := 5) C k_To (by decide) fl_To_25 rfl rfl d_To_nextStop_12 ?_
    refine g_iconst (v := 1) C d_To_nextStop_15 (by decide) ?_
    refine g_isub C d_To_nextStop_16 ?_
    refine g_icmp_ge (tgt := 60) C d_To_nextStop_17 (by decide) hf (fun c1 hf => ?_) (fun c1 hf => ?_)
    · refine g_iload C d_To_nextStop_60 hl4 ?_
      exact g_iret C d_To_nextStop_62 hf
    · refine g_iload_n C d_To_nextStop_20 rfl hl1 ?_
      refine g_iload C d_To_nextStop_21 hl5 ?_
      refine g_ishr C d_To_nextStop_23 ?_
      refine g_iconst (v := 1) C d_To_nextStop_24 (by decide) ?_
      refine g_iand C d_To_nextStop_25 ?_
      refine g_if_ne (tgt := 54) C d_To_nextStop_26 (by decide) hf (fun c2 hf => ?_) (fun c2 hf => ?_)
      · refine g_aload_n C d_To_nextStop_29 rfl hl0 ?_
        refine g_iload_n C d_To_nextStop_30 rfl hl1 ?_
        refine g_iload_n C d_To_nextStop_31 rfl hl2 ?_
        refine g_iload C d_To_nextStop_32 hl5 ?_
        refine g_cvI C k_To rfl mv_To_wayOver ml_To_74 d_To_nextStop_34 hf (fun r μ1 h => t_To_wayOver C.2.2.2.2.2.2.2.2.1 h) rfl rfl (by decide) (Nat.le_of_ble_eq_true rfl) (fun r4 μ3 hf => ?_)
        refine g_iload_n C d_To_nextStop_37 rfl hl3 ?_
        refine g_icmp_ge (tgt := 54) C d_To_nextStop_38 (by decide) hf (fun c5 hf => ?_) (fun c5 hf => ?_)
        · exact t_To_nextStop_B54 C N _ ih _ _ _ _ _ _ _ hl0 hl1 hl2 hl3 hl4 hl5 hf
        · refine g_aload_n C d_To_nextStop_41 rfl hl0 ?_
          refine g_iload_n C d_To_nextStop_42 rfl hl1 ?_
          refine g_iload_n C d_To_nextStop_43 rfl hl2 ?_
          refine g_iload C d_To_nextStop_44 hl5 ?_
          refine g_cvI C k_To rfl mv_To_wayOver ml_To_74 d_To_nextStop_46 hf (fun r μ1 h => t_To_wayOver C.2.2.2.2.2.2.2.2.1 h) rfl rfl (by decide) (Nat.le_of_ble_eq_true rfl) (fun r7 μ6 hf => ?_)
          refine g_istore_n C d_To_nextStop_49 rfl (by decide) ?_
          refine g_iload C d_To_nextStop_50 (upG hl5 rfl) ?_
          refine g_istore C d_To_nextStop_52 (by decide) ?_
          exact t_To_nextStop_B54 C N _ ih _ _ _ _ _ _ _ ((upG (upG hl0 rfl) rfl)) ((upG (upG hl1 rfl) rfl)) ((upG (upG hl2 rfl) rfl)) ((upG upS rfl)) upS ((upG (upG hl5 rfl) rfl)) hf
      · exact t_To_nextStop_B54 C N _ ih _ _ _ _ _ _ _ hl0 hl1 hl2 hl3 hl4 hl5 hf
set_option maxHeartbeats 4000000 in
theorem t_To_nextStop {l : Launch} {ad : Nat → Nat} {dA : Nat → ClassId} {D : va_G} (hi : Inj SHX ad) {N : Nat} {a1 : Int32} {a2 : Int32}  {μ μ' : Mm} {r : Int32} (hf : f_To_nextStop N a1 a2 μ = some (r, μ')) : Ct CLS l SHX ad dA D y_To_nextStop c_To_nextStop 6 (some .int) 3 [.ref (ad 75), .int a1, .int a2] μ (some (.int r)) μ' := by
  unfold f_To_nextStop at hf
  refine ct_of (by decide) hi (Nat.le_of_ble_eq_true rfl) ?_
  intro p e s m args below meth c C
  refine g_ldc C ck_To_73 d_To_nextStop_0 ?_
  refine g_istore_n C d_To_nextStop_2 rfl (by decide) ?_
  refine g_iconst (v := 0) C d_To_nextStop_3 (by decide) ?_
  refine g_istore C d_To_nextStop_4 (by decide) ?_
  refine g_iconst (v := 0) C d_To_nextStop_6 (by decide) ?_
  refine g_istore C d_To_nextStop_7 (by decide) ?_
  exact t_To_nextStop_L9 C N N _ _ _ _ _ _ _ ((upG (upG (upG rfl rfl) rfl) rfl)) ((upG (upG (upG rfl rfl) rfl) rfl)) ((upG (upG (upG rfl rfl) rfl) rfl)) ((upG (upG upS rfl) rfl)) ((upG upS rfl)) upS hf
set_option maxHeartbeats 4000000 in
theorem t_To_follow_L28 {ad : Nat → Nat} {dA : Nat → ClassId} {D : va_G} {p : Program} {l : Launch} {e : Env} {s : State} {m : MethodId} {args : Array Value} {below : List Frame} {meth : Method} {c : Code} {μ' : Mm} (C : Cx CLS SHX ad dA D p s m args meth c c_To_follow 5 R_To (none)) (N : Nat)   : ∀ (n : Nat) (v1 : Int32) (v2 : Int32) (v3 : Int32) (μ : Mm) (lv : Nat → Option Value), lv 0 = some (.ref (ad 75)) → lv 1 = some (.int v1) → lv 2 = some (.int v2) → lv 3 = some (.int v3) → f_To_follow_L28 N n v1 v2 v3 μ = some μ' → Go CLS SHX ad dA D p l e (rmD 4) s m args below meth c 5 none μ' 28 lv [] μ := by
  intro n
  induction n with
  | zero => intro v1 v2 v3 μ lv hl0 hl1 hl2 hl3 hf; cases (show none = some _ from hf)
  | succ n ih =>
    intro v1 v2 v3 μ lv hl0 hl1 hl2 hl3 hf
    unfold f_To_follow_L28 at hf
    refine g_iload_n C d_To_follow_28 rfl hl3 ?_
    refine g_aload_n C d_To_follow_29 rfl hl0 ?_
    refine g_getI (k := 5) C k_To (by decide) fl_To_25 rfl rfl d_To_follow_30 ?_
    refine g_icmp_ge (tgt := 74) C d_To_follow_33 (by decide) hf (fun c6 hf => ?_) (fun c6 hf => ?_)
    · exact g_vret C d_To_follow_74 hf
    · refine g_aload_n C d_To_follow_36 rfl hl0 ?_
      refine g_iload_n C d_To_follow_37 rfl hl1 ?_
      refine g_iload_n C d_To_follow_38 rfl hl2 ?_
      refine g_cvI C k_To rfl mv_To_nextStop ml_To_83 d_To_follow_39 hf (fun r μ1 h => t_To_nextStop C.2.2.2.2.2.2.2.2.1 h) rfl rfl (by decide) (Nat.le_of_ble_eq_true rfl) (fun r8 μ7 hf => ?_)
      refine g_istore C d_To_follow_42 (by decide) ?_
      refine g_iload_n C d_To_follow_44 rfl (upG hl1 rfl) ?_
      refine g_iconst (v := 1) C d_To_follow_45 (by decide) ?_
      refine g_iload C d_To_follow_46 upS ?_
      refine g_ishl C d_To_follow_48 ?_
      refine g_ior C d_To_follow_49 ?_
      refine g_istore_n C d_To_follow_50 rfl (by decide) ?_
      refine g_iload C d_To_follow_51 (upG upS rfl) ?_
      refine g_iconst (v := 1) C d_To_follow_53 (by decide) ?_
      refine g_iadd C d_To_follow_54 ?_
      refine g_istore_n C d_To_follow_55 rfl (by decide) ?_
      refine g_aload_n C d_To_follow_56 rfl (upG (upG (upG hl0 rfl) rfl) rfl) ?_
      refine g_getR (b := 77) (k := 3) C k_To (by decide) fl_To_19 rfl rfl d_To_follow_57 ?_
      refine g_iload_n C d_To_follow_60 rfl (upG (upG (upG hl3 rfl) rfl) rfl) ?_
      refine g_aload_n C d_To_follow_61 rfl (upG (upG (upG hl0 rfl) rfl) rfl) ?_
      refine g_getR (b := 76) (k := 2) C k_To (by decide) fl_To_15 rfl rfl d_To_follow_62 ?_
      refine g_iload_n C d_To_follow_65 rfl upS ?_
      refine g_iald C rfl d_To_follow_66 hf (fun hf => ?_)
      refine g_iast C rfl d_To_follow_67 hf (fun hf => ?_)
      refine g_iinc (v := 1) C d_To_follow_68 (upG (upG (upG hl3 rfl) rfl) rfl) (by decide) (by decide) ?_
      refine g_goto (tgt := 28) C d_To_follow_71 (by decide) ?_
      exact ih _ _ _ _ _ ((upG (upG (upG (upG hl0 rfl) rfl) rfl) rfl)) ((upG (upG upS rfl) rfl)) ((upG upS rfl)) upS hf
set_option maxHeartbeats 4000000 in
theorem t_To_follow {l : Launch} {ad : Nat → Nat} {dA : Nat → ClassId} {D : va_G} (hi : Inj SHX ad) {N : Nat}   {μ μ' : Mm} (hf : f_To_follow N  μ = some μ') : Ct CLS l SHX ad dA D y_To_follow c_To_follow 5 (none) 4 [.ref (ad 75)] μ none μ' := by
  unfold f_To_follow at hf
  refine ct_of (by decide) hi (Nat.le_of_ble_eq_true rfl) ?_
  intro p e s m args below meth c C
  refine g_aload_n C d_To_follow_0 rfl rfl ?_
  refine g_aload_n C d_To_follow_1 rfl rfl ?_
  refine g_iconst (v := 0) C d_To_follow_2 (by decide) ?_
  refine g_iconst (v := 0) C d_To_follow_3 (by decide) ?_
  refine g_cvI C k_To rfl mv_To_bestBeyond ml_To_70 d_To_follow_4 hf (fun r μ1 h => t_To_bestBeyond C.2.2.2.2.2.2.2.2.1 h) rfl rfl (by decide) (Nat.le_of_ble_eq_true rfl) (fun r2 μ1 hf => ?_)
  refine g_putI (k := 0) C k_To (by decide) fl_To_9 rfl rfl rfl rfl d_To_follow_7 ?_
  refine g_aload_n C d_To_follow_10 rfl rfl ?_
  refine g_getR (b := 77) (k := 3) C k_To (by decide) fl_To_19 rfl rfl d_To_follow_11 ?_
  refine g_iconst (v := 0) C d_To_follow_14 (by decide) ?_
  refine g_aload_n C d_To_follow_15 rfl rfl ?_
  refine g_getR (b := 76) (k := 2) C k_To (by decide) fl_To_15 rfl rfl d_To_follow_16 ?_
  refine g_iconst (v := 0) C d_To_follow_19 (by decide) ?_
  refine g_iald C rfl d_To_follow_20 hf (fun hf => ?_)
  refine g_iast C rfl d_To_follow_21 hf (fun hf => ?_)
  refine g_iconst (v := 0) C d_To_follow_22 (by decide) ?_
  refine g_istore_n C d_To_follow_23 rfl (by decide) ?_
  refine g_iconst (v := 0) C d_To_follow_24 (by decide) ?_
  refine g_istore_n C d_To_follow_25 rfl (by decide) ?_
  refine g_iconst (v := 1) C d_To_follow_26 (by decide) ?_
  refine g_istore_n C d_To_follow_27 rfl (by decide) ?_
  exact t_To_follow_L28 C N N _ _ _ _ _ ((upG (upG (upG rfl rfl) rfl) rfl)) ((upG (upG upS rfl) rfl)) ((upG upS rfl)) upS hf
set_option maxHeartbeats 4000000 in
theorem t_To_gatherStops_B58 {ad : Nat → Nat} {dA : Nat → ClassId} {D : va_G} {p : Program} {l : Launch} {e : Env} {s : State} {m : MethodId} {args : Array Value} {below : List Frame} {meth : Method} {c : Code} {μ' : Mm} (C : Cx CLS SHX ad dA D p s m args meth c c_To_gatherStops 2 R_To (none)) (N : Nat)   (k7 : Int32 → Mm → Option Mm) (hk7 : ∀ (v1 : Int32) (μ : Mm) (lv : Nat → Option Value), lv 0 = some (.ref (ad 75)) → lv 1 = some (.int v1) → k7 v1 μ = some μ' → Go CLS SHX ad dA D p l e (rmD 1) s m args below meth c 2 none μ' 7 lv [] μ) : ∀ (v1 : Int32) (μ : Mm) (lv : Nat → Option Value), lv 0 = some (.ref (ad 75)) → lv 1 = some (.int v1) → f_To_gatherStops_B58 N k7 v1 μ = some μ' → Go CLS SHX ad dA D p l e (rmD 1) s m args below meth c 2 none μ' 58 lv [] μ := by
  intro v1 μ lv hl0 hl1 hf
  unfold f_To_gatherStops_B58 at hf
  refine g_iinc (v := 1) C d_To_gatherStops_58 hl1 (by decide) (by decide) ?_
  refine g_goto (tgt := 7) C d_To_gatherStops_61 (by decide) ?_
  exact hk7 _ _ _ ((upG hl0 rfl)) upS hf
set_option maxHeartbeats 4000000 in
theorem t_To_gatherStops_L7 {ad : Nat → Nat} {dA : Nat → ClassId} {D : va_G} {p : Program} {l : Launch} {e : Env} {s : State} {m : MethodId} {args : Array Value} {below : List Frame} {meth : Method} {c : Code} {μ' : Mm} (C : Cx CLS SHX ad dA D p s m args meth c c_To_gatherStops 2 R_To (none)) (N : Nat)   : ∀ (n : Nat) (v1 : Int32) (μ : Mm) (lv : Nat → Option Value), lv 0 = some (.ref (ad 75)) → lv 1 = some (.int v1) → f_To_gatherStops_L7 N n v1 μ = some μ' → Go CLS SHX ad dA D p l e (rmD 1) s m args below meth c 2 none μ' 7 lv [] μ := by
  intro n
  induction n with
  | zero => intro v1 μ lv hl0 hl1 hf; cases (show none = some _ from hf)
  | succ n ih =>
    intro v1 μ lv hl0 hl1 hf
    unfold f_To_gatherStops_L7 at hf
    refine g_iload_n C d_To_gatherStops_7 rfl hl1 ?_
    refine g_aload_n C d_To_gatherStops_8 rfl hl0 ?_
    refine g_getR (b := 6) (k := 1) C k_To (by decide) fl_To_31 rfl rfl d_To_gatherStops_9 ?_
    refine g_getI (k := 1) C k_Gr (by decide) fl_To_56 rfl rfl d_To_gatherStops_12 ?_
    refine g_icmp_ge (tgt := 64) C d_To_gatherStops_15 (by decide) hf (fun c2 hf => ?_) (fun c2 hf => ?_)
    · exact g_vret C d_To_gatherStops_64 hf
    · refine g_aload_n C d_To_gatherStops_18 rfl hl0 ?_
      refine g_getR (b := 6) (k := 1) C k_To (by decide) fl_To_31 rfl rfl d_To_gatherStops_19 ?_
      refine g_iload_n C d_To_gatherStops_22 rfl hl1 ?_
      refine g_cvI C k_Gr rfl mv_Gr_worthOf ml_To_59 d_To_gatherStops_23 hf (fun r μ1 h => t_Gr_worthOf C.2.2.2.2.2.2.2.2.1 h) rfl rfl (by decide) (Nat.le_of_ble_eq_true rfl) (fun r4 μ3 hf => ?_)
      refine g_if_le (tgt := 58) C d_To_gatherStops_26 (by decide) hf (fun c5 hf => ?_) (fun c5 hf => ?_)
      · exact t_To_gatherStops_B58 C N _ ih _ _ _ hl0 hl1 hf
      · refine g_aload_n C d_To_gatherStops_29 rfl hl0 ?_
        refine g_getI (k := 5) C k_To (by decide) fl_To_25 rfl rfl d_To_gatherStops_30 ?_
        refine g_bipush (v := 10) C d_To_gatherStops_33 (by decide) ?_
        refine g_icmp_ge (tgt := 58) C d_To_gatherStops_35 (by decide) hf (fun c6 hf => ?_) (fun c6 hf => ?_)
        · exact t_To_gatherStops_B58 C N _ ih _ _ _ hl0 hl1 hf
        · refine g_aload_n C d_To_gatherStops_38 rfl hl0 ?_
          refine g_getR (b := 76) (k := 2) C k_To (by decide) fl_To_15 rfl rfl d_To_gatherStops_39 ?_
          refine g_aload_n C d_To_gatherStops_42 rfl hl0 ?_
          refine g_getI (k := 5) C k_To (by decide) fl_To_25 rfl rfl d_To_gatherStops_43 ?_
          refine g_iload_n C d_To_gatherStops_46 rfl hl1 ?_
          refine g_iast C rfl d_To_gatherStops_47 hf (fun hf => ?_)
          refine g_aload_n C d_To_gatherStops_48 rfl hl0 ?_
          refine g_dup C d_To_gatherStops_49 rfl ?_
          refine g_getI (k := 5) C k_To (by decide) fl_To_25 rfl rfl d_To_gatherStops_50 ?_
          refine g_iconst (v := 1) C d_To_gatherStops_53 (by decide) ?_
          refine g_iadd C d_To_gatherStops_54 ?_
          refine g_putI (k := 5) C k_To (by decide) fl_To_25 rfl rfl rfl rfl d_To_gatherStops_55 ?_
          exact t_To_gatherStops_B58 C N _ ih _ _ _ hl0 hl1 hf
set_option maxHeartbeats 4000000 in
theorem t_To_gatherStops {l : Launch} {ad : Nat → Nat} {dA : Nat → ClassId} {D : va_G} (hi : Inj SHX ad) {N : Nat}   {μ μ' : Mm} (hf : f_To_gatherStops N  μ = some μ') : Ct CLS l SHX ad dA D y_To_gatherStops c_To_gatherStops 2 (none) 1 [.ref (ad 75)] μ none μ' := by
  unfold f_To_gatherStops at hf
  refine ct_of (by decide) hi (Nat.le_of_ble_eq_true rfl) ?_
  intro p e s m args below meth c C
  refine g_aload_n C d_To_gatherStops_0 rfl rfl ?_
  refine g_iconst (v := 0) C d_To_gatherStops_1 (by decide) ?_
  refine g_putI (k := 5) C k_To (by decide) fl_To_25 rfl rfl rfl rfl d_To_gatherStops_2 ?_
  refine g_iconst (v := 0) C d_To_gatherStops_5 (by decide) ?_
  refine g_istore_n C d_To_gatherStops_6 rfl (by decide) ?_
  exact t_To_gatherStops_L7 C N N _ _ _ ((upG rfl rfl)) upS hf
set_option maxHeartbeats 4000000 in
theorem t_To_isParted_L2 {ad : Nat → Nat} {dA : Nat → ClassId} {D : va_G} {p : Program} {l : Launch} {e : Env} {s : State} {m : MethodId} {args : Array Value} {below : List Frame} {meth : Method} {c : Code} {r : Int32} {μ' : Mm} (C : Cx CLS SHX ad dA D p s m args meth c c_To_isParted 2 R_To (some .boolean)) (N : Nat)   : ∀ (n : Nat) (v1 : Int32) (μ : Mm) (lv : Nat → Option Value), lv 0 = some (.ref (ad 75)) → lv 1 = some (.int v1) → f_To_isParted_L2 N n v1 μ = some (r, μ') → Go CLS SHX ad dA D p l e (rmD 2) s m args below meth c 2 (some (.int r)) μ' 2 lv [] μ := by
  intro n
  induction n with
  | zero => intro v1 μ lv hl0 hl1 hf; cases (show none = some _ from hf)
  | succ n ih =>
    intro v1 μ lv hl0 hl1 hf
    unfold f_To_isParted_L2 at hf
    refine g_iload_n C d_To_isParted_2 rfl hl1 ?_
    refine g_aload_n C d_To_isParted_3 rfl hl0 ?_
    refine g_getI (k := 5) C k_To (by decide) fl_To_25 rfl rfl d_To_isParted_4 ?_
    refine g_icmp_ge (tgt := 27) C d_To_isParted_7 (by decide) hf (fun c1 hf => ?_) (fun c1 hf => ?_)
    · refine g_iconst (v := 0) C d_To_isParted_27 (by decide) ?_
      exact g_zretc C d_To_isParted_28 rfl hf
    · refine g_aload_n C d_To_isParted_10 rfl hl0 ?_
      refine g_iconst (v := 0) C d_To_isParted_11 (by decide) ?_
      refine g_iload_n C d_To_isParted_12 rfl hl1 ?_
      refine g_cvI C k_To rfl mv_To_way ml_To_63 d_To_isParted_13 hf (fun r μ1 h => t_To_way C.2.2.2.2.2.2.2.2.1 h) rfl rfl (by decide) (Nat.le_of_ble_eq_true rfl) (fun r3 μ2 hf => ?_)
      refine g_if_ge (tgt := 21) C d_To_isParted_16 (by decide) hf (fun c4 hf => ?_) (fun c4 hf => ?_)
      · refine g_iinc (v := 1) C d_To_isParted_21 hl1 (by decide) (by decide) ?_
        refine g_goto (tgt := 2) C d_To_isParted_24 (by decide) ?_
        exact ih _ _ _ ((upG hl0 rfl)) upS hf
      · refine g_iconst (v := 1) C d_To_isParted_19 (by decide) ?_
        exact g_zretc C d_To_isParted_20 rfl hf
set_option maxHeartbeats 4000000 in
theorem t_To_isParted {l : Launch} {ad : Nat → Nat} {dA : Nat → ClassId} {D : va_G} (hi : Inj SHX ad) {N : Nat}   {μ μ' : Mm} {r : Int32} (hf : f_To_isParted N  μ = some (r, μ')) : Ct CLS l SHX ad dA D y_To_isParted c_To_isParted 2 (some .boolean) 2 [.ref (ad 75)] μ (some (.int r)) μ' := by
  unfold f_To_isParted at hf
  refine ct_of (by decide) hi (Nat.le_of_ble_eq_true rfl) ?_
  intro p e s m args below meth c C
  refine g_iconst (v := 1) C d_To_isParted_0 (by decide) ?_
  refine g_istore_n C d_To_isParted_1 rfl (by decide) ?_
  exact t_To_isParted_L2 C N N _ _ _ ((upG rfl rfl)) upS hf
set_option maxHeartbeats 4000000 in
theorem t_To_workHomeward_B78 {ad : Nat → Nat} {dA : Nat → ClassId} {D : va_G} {p : Program} {l : Launch} {e : Env} {s : State} {m : MethodId} {args : Array Value} {below : List Frame} {meth : Method} {c : Code} {μ' : Mm} (C : Cx CLS SHX ad dA D p s m args meth c c_To_workHomeward 4 R_To (none)) (N : Nat)   (k13 : Int32 → Int32 → Mm → Option Mm) (hk13 : ∀ (v1 : Int32) (v2 : Int32) (μ : Mm) (lv : Nat → Option Value), lv 0 = some (.ref (ad 75)) → lv 1 = some (.int v1) → lv 2 = some (.int v2) → k13 v1 v2 μ = some μ' → Go CLS SHX ad dA D p l e (rmD 4) s m args below meth c 4 none μ' 13 lv [] μ) : ∀ (v1 : Int32) (v2 : Int32) (μ : Mm) (lv : Nat → Option Value), lv 0 = some (.ref (ad 75)) → lv 1 = some (.int v1) → lv 2 = some (.int v2) → f_To_workHomeward_B78 N k13 v1 v2 μ = some μ' → Go CLS SHX ad dA D p l e (rmD 4) s m args below meth c 4 none μ' 78 lv [] μ := by
  intro v1 v2 μ lv hl0 hl1 hl2 hf
  unfold f_To_workHomeward_B78 at hf
  refine g_iinc (v := -1) C d_To_workHomeward_78 hl2 (by decide) (by decide) ?_
  refine g_goto (tgt := 13) C d_To_workHomeward_81 (by decide) ?_
  exact hk13 _ _ _ _ ((upG hl0 rfl)) ((upG hl1 rfl)) upS hf
set_option maxHeartbeats 4000000 in
theorem t_To_workHomeward_B72 {ad : Nat → Nat} {dA : Nat → ClassId} {D : va_G} {p : Program} {l : Launch} {e : Env} {s : State} {m : MethodId} {args : Array Value} {below : List Frame} {meth : Method} {c : Code} {μ' : Mm} (C : Cx CLS SHX ad dA D p s m args meth c c_To_workHomeward 4 R_To (none)) (N : Nat)   (k13 : Int32 → Int32 → Mm → Option Mm) (hk13 : ∀ (v1 : Int32) (v2 : Int32) (μ : Mm) (lv : Nat → Option Value), lv 0 = some (.ref (ad 75)) → lv 1 = some (.int v1) → lv 2 = some (.int v2) → k13 v1 v2 μ = some μ' → Go CLS SHX ad dA D p l e (rmD 4) s m args below meth c 4 none μ' 13 lv [] μ) (k19 : Int32 → Int32 → Int32 → Mm → Option Mm) (hk19 : ∀ (v1 : Int32) (v2 : Int32) (v3 : Int32) (μ : Mm) (lv : Nat → Option Value), lv 0 = some (.ref (ad 75)) → lv 1 = some (.int v1) → lv 2 = some (.int v2) → lv 3 = some (.int v3) → k19 v1 v2 v3 μ = some μ' → Go CLS SHX ad dA D p l e (rmD 4) s m args below meth c 4 none μ' 19 lv [] μ) : ∀ (v1 : Int32) (v2 : Int32) (v3 : Int32) (μ : Mm) (lv : Nat → Option Value), lv 0 = some (.ref (ad 75)) → lv 1 = some (.int v1) → lv 2 = some (.int v2) → lv 3 = some (.int v3) → f_To_workHomeward_B72 N k13 k19 v1 v2 v3 μ = some μ' → Go CLS SHX ad dA D p l e (rmD 4) s m args below meth c 4 none μ' 72 lv [] μ := by
  intro v1 v2 v3 μ lv hl0 hl1 hl2 hl3 hf
  unfold f_To_workHomeward_B72 at hf
  refine g_iinc (v := 1) C d_To_workHomeward_72 hl3 (by decide) (by decide) ?_
  refine g_goto (tgt := 19) C d_To_workHomeward_75 (by decide) ?_
  exact hk19 _ _ _ _ _ ((upG hl0 rfl)) ((upG hl1 rfl)) ((upG hl2 rfl)) upS hf
set_option maxHeartbeats 4000000 in
theorem t_To_workHomeward_B71 {ad : Nat → Nat} {dA : Nat → ClassId} {D : va_G} {p : Program} {l : Launch} {e : Env} {s : State} {m : MethodId} {args : Array Value} {below : List Frame} {meth : Method} {c : Code} {μ' : Mm} (C : Cx CLS SHX ad dA D p s m args meth c c_To_workHomeward 4 R_To (none)) (N : Nat)   (k13 : Int32 → Int32 → Mm → Option Mm) (hk13 : ∀ (v1 : Int32) (v2 : Int32) (μ : Mm) (lv : Nat → Option Value), lv 0 = some (.ref (ad 75)) → lv 1 = some (.int v1) → lv 2 = some (.int v2) → k13 v1 v2 μ = some μ' → Go CLS SHX ad dA D p l e (rmD 4) s m args below meth c 4 none μ' 13 lv [] μ) (k19 : Int32 → Int32 → Int32 → Mm → Option Mm) (hk19 : ∀ (v1 : Int32) (v2 : Int32) (v3 : Int32) (μ : Mm) (lv : Nat → Option Value), lv 0 = some (.ref (ad 75)) → lv 1 = some (.int v1) → lv 2 = some (.int v2) → lv 3 = some (.int v3) → k19 v1 v2 v3 μ = some μ' → Go CLS SHX ad dA D p l e (rmD 4) s m args below meth c 4 none μ' 19 lv [] μ) : ∀ (v1 : Int32) (v2 : Int32) (v3 : Int32) (s1 : Int32) (s2 : Int32) (μ : Mm) (lv : Nat → Option Value), lv 0 = some (.ref (ad 75)) → lv 1 = some (.int v1) → lv 2 = some (.int v2) → lv 3 = some (.int v3) → f_To_workHomeward_B71 N k13 k19 v1 v2 v3 s1 s2 μ = some μ' → Go CLS SHX ad dA D p l e (rmD 4) s m args below meth c 4 none μ' 71 lv [.int s2, .int s1, .ref (ad 78)] μ := by
  intro v1 v2 v3 s1 s2 μ lv hl0 hl1 hl2 hl3 hf
  unfold f_To_workHomeward_B71 at hf
  refine g_iast C rfl d_To_workHomeward_71 hf (fun hf => ?_)
  exact t_To_workHomeward_B72 C N _ hk13 _ hk19 _ _ _ _ _ hl0 hl1 hl2 hl3 hf
set_option maxHeartbeats 4000000 in
theorem t_To_workHomeward_L19 {ad : Nat → Nat} {dA : Nat → ClassId} {D : va_G} {p : Program} {l : Launch} {e : Env} {s : State} {m : MethodId} {args : Array Value} {below : List Frame} {meth : Method} {c : Code} {μ' : Mm} (C : Cx CLS SHX ad dA D p s m args meth c c_To_workHomeward 4 R_To (none)) (N : Nat)   (k13 : Int32 → Int32 → Mm → Option Mm) (hk13 : ∀ (v1 : Int32) (v2 : Int32) (μ : Mm) (lv : Nat → Option Value), lv 0 = some (.ref (ad 75)) → lv 1 = some (.int v1) → lv 2 = some (.int v2) → k13 v1 v2 μ = some μ' → Go CLS SHX ad dA D p l e (rmD 4) s m args below meth c 4 none μ' 13 lv [] μ) : ∀ (n : Nat) (v1 : Int32) (v2 : Int32) (v3 : Int32) (μ : Mm) (lv : Nat → Option Value), lv 0 = some (.ref (ad 75)) → lv 1 = some (.int v1) → lv 2 = some (.int v2) → lv 3 = some (.int v3) → f_To_workHomeward_L19 N k13 n v1 v2 v3 μ = some μ' → Go CLS SHX ad dA D p l e (rmD 4) s m args below meth c 4 none μ' 19 lv [] μ := by
  intro n
  induction n with
  | zero => intro v1 v2 v3 μ lv hl0 hl1 hl2 hl3 hf; cases (show none = some _ from hf)
  | succ n ih =>
    intro v1 v2 v3 μ lv hl0 hl1 hl2 hl3 hf
    unfold f_To_workHomeward_L19 at hf
    refine g_iload_n C d_To_workHomeward_19 rfl hl3 ?_
    refine g_aload_n C d_To_workHomeward_20 rfl hl0 ?_
    refine g_getI (k := 5) C k_To (by decide) fl_To_25 rfl rfl d_To_workHomeward_21 ?_
    refine g_iconst (v := 1) C d_To_workHomeward_24 (by decide) ?_
    refine g_isub C d_To_workHomeward_25 ?_
    refine g_icmp_ge (tgt := 78) C d_To_workHomeward_26 (by decide) hf (fun c3 hf => ?_) (fun c3 hf => ?_)
    · exact t_To_workHomeward_B78 C N _ hk13 _ _ _ _ hl0 hl1 hl2 hf
    · refine g_iload_n C d_To_workHomeward_29 rfl hl2 ?_
      refine g_iload_n C d_To_workHomeward_30 rfl hl3 ?_
      refine g_ishr C d_To_workHomeward_31 ?_
      refine g_iconst (v := 1) C d_To_workHomeward_32 (by decide) ?_
      refine g_iand C d_To_workHomeward_33 ?_
      refine g_if_eq (tgt := 72) C d_To_workHomeward_34 (by decide) hf (fun c4 hf => ?_) (fun c4 hf => ?_)
      · exact t_To_workHomeward_B72 C N _ hk13 _ ih _ _ _ _ _ hl0 hl1 hl2 hl3 hf
      · refine g_aload_n C d_To_workHomeward_37 rfl hl0 ?_
        refine g_getR (b := 78) (k := 4) C k_To (by decide) fl_To_22 rfl rfl d_To_workHomeward_38 ?_
        refine g_iload_n C d_To_workHomeward_41 rfl hl2 ?_
        refine g_bipush (v := 9) C d_To_workHomeward_42 (by decide) ?_
        refine g_imul C d_To_workHomeward_44 ?_
        refine g_iload_n C d_To_workHomeward_45 rfl hl3 ?_
        refine g_iadd C d_To_workHomeward_46 ?_
        refine g_iload_n C d_To_workHomeward_47 rfl hl2 ?_
        refine g_iload_n C d_To_workHomeward_48 rfl hl1 ?_
        refine g_icmp_ne (tgt := 63) C d_To_workHomeward_49 (by decide) hf (fun c5 hf => ?_) (fun c5 hf => ?_)
        · refine g_aload_n C d_To_workHomeward_52 rfl hl0 ?_
          refine g_iload_n C d_To_workHomeward_53 rfl hl3 ?_
          refine g_iconst (v := 1) C d_To_workHomeward_54 (by decide) ?_
          refine g_iadd C d_To_workHomeward_55 ?_
          refine g_iconst (v := 0) C d_To_workHomeward_56 (by decide) ?_
          refine g_cvI C k_To rfl mv_To_way ml_To_63 d_To_workHomeward_57 hf (fun r μ1 h => t_To_way C.2.2.2.2.2.2.2.2.1 h) rfl rfl (by decide) (Nat.le_of_ble_eq_true rfl) (fun r7 μ6 hf => ?_)
          refine g_goto (tgt := 71) C d_To_workHomeward_60 (by decide) ?_
          exact t_To_workHomeward_B71 C N _ hk13 _ ih _ _ _ _ _ _ _ hl0 hl1 hl2 hl3 hf
        · refine g_aload_n C d_To_workHomeward_63 rfl hl0 ?_
          refine g_iload_n C d_To_workHomeward_64 rfl hl2 ?_
          refine g_iload_n C d_To_workHomeward_65 rfl hl3 ?_
          refine g_iconst (v := 1) C d_To_workHomeward_66 (by decide) ?_
          refine g_iadd C d_To_workHomeward_67 ?_
          refine g_cvI C k_To rfl mv_To_bestBeyond ml_To_70 d_To_workHomeward_68 hf (fun r μ1 h => t_To_bestBeyond C.2.2.2.2.2.2.2.2.1 h) rfl rfl (by decide) (Nat.le_of_ble_eq_true rfl) (fun r9 μ8 hf => ?_)
          exact t_To_workHomeward_B71 C N _ hk13 _ ih _ _ _ _ _ _ _ hl0 hl1 hl2 hl3 hf
set_option maxHeartbeats 4000000 in
theorem t_To_workHomeward_L13 {ad : Nat → Nat} {dA : Nat → ClassId} {D : va_G} {p : Program} {l : Launch} {e : Env} {s : State} {m : MethodId} {args : Array Value} {below : List Frame} {meth : Method} {c : Code} {μ' : Mm} (C : Cx CLS SHX ad dA D p s m args meth c c_To_workHomeward 4 R_To (none)) (N : Nat)   : ∀ (n : Nat) (v1 : Int32) (v2 : Int32) (μ : Mm) (lv : Nat → Option Value), lv 0 = some (.ref (ad 75)) → lv 1 = some (.int v1) → lv 2 = some (.int v2) → f_To_workHomeward_L13 N n v1 v2 μ = some μ' → Go CLS SHX ad dA D p l e (rmD 4) s m args below meth c 4 none μ' 13 lv [] μ := by
  intro n
  induction n with
  | zero => intro v1 v2 μ lv hl0 hl1 hl2 hf; cases (show none = some _ from hf)
  | succ n ih =>
    intro v1 v2 μ lv hl0 hl1 hl2 hf
    unfold f_To_workHomeward_L13 at hf
    refine g_iload_n C d_To_workHomeward_13 rfl hl2 ?_
    refine g_if_le (tgt := 84) C d_To_workHomeward_14 (by decide) hf (fun c2 hf => ?_) (fun c2 hf => ?_)
    · exact g_vret C d_To_workHomeward_84 hf
    · refine g_iconst (v := 0) C d_To_workHomeward_17 (by decide) ?_
      refine g_istore_n C d_To_workHomeward_18 rfl (by decide) ?_
      exact t_To_workHomeward_L19 C N _ ih N _ _ _ _ _ ((upG hl0 rfl)) ((upG hl1 rfl)) ((upG hl2 rfl)) upS hf
set_option maxHeartbeats 4000000 in
theorem t_To_workHomeward {l : Launch} {ad : Nat → Nat} {dA : Nat → ClassId} {D : va_G} (hi : Inj SHX ad) {N : Nat}   {μ μ' : Mm} (hf : f_To_workHomeward N  μ = some μ') : Ct CLS l SHX ad dA D y_To_workHomeward c_To_workHomeward 4 (none) 4 [.ref (ad 75)] μ none μ' := by
  unfold f_To_workHomeward at hf
  refine ct_of (by decide) hi (Nat.le_of_ble_eq_true rfl) ?_
  intro p e s m args below meth c C
  refine g_iconst (v := 1) C d_To_workHomeward_0 (by decide) ?_
  refine g_aload_n C d_To_workHomeward_1 rfl rfl ?_
  refine g_getI (k := 5) C k_To (by decide) fl_To_25 rfl rfl d_To_workHomeward_2 ?_
  refine g_iconst (v := 1) C d_To_workHomeward_5 (by decide) ?_
  refine g_isub C d_To_workHomeward_6 ?_
  refine g_ishl C d_To_workHomeward_7 ?_
  refine g_iconst (v := 1) C d_To_workHomeward_8 (by decide) ?_
  refine g_isub C d_To_workHomeward_9 ?_
  refine g_istore_n C d_To_workHomeward_10 rfl (by decide) ?_
  refine g_iload_n C d_To_workHomeward_11 rfl upS ?_
  refine g_istore_n C d_To_workHomeward_12 rfl (by decide) ?_
  exact t_To_workHomeward_L13 C N N _ _ _ _ ((upG (upG rfl rfl) rfl)) ((upG upS rfl)) upS hf
set_option maxHeartbeats 4000000 in
theorem t_To_refresh {l : Launch} {ad : Nat → Nat} {dA : Nat → ClassId} {D : va_G} (hi : Inj SHX ad) {N : Nat}   {μ μ' : Mm} (hf : f_To_refresh N  μ = some μ') : Ct CLS l SHX ad dA D y_To_refresh c_To_refresh 1 (none) 5 [.ref (ad 75)] μ none μ' := by
  unfold f_To_refresh at hf
  refine ct_of (by decide) hi (Nat.le_of_ble_eq_true rfl) ?_
  intro p e s m args below meth c C
  refine g_aload_n C d_To_refresh_0 rfl rfl ?_
  refine g_getI (k := 6) C k_To (by decide) fl_To_28 rfl rfl d_To_refresh_1 ?_
  refine g_aload_n C d_To_refresh_4 rfl rfl ?_
  refine g_getR (b := 6) (k := 1) C k_To (by decide) fl_To_31 rfl rfl d_To_refresh_5 ?_
  refine g_getI (k := 4) C k_Gr (by decide) fl_To_35 rfl rfl d_To_refresh_8 ?_
  refine g_icmp_ne (tgt := 15) C d_To_refresh_11 (by decide) hf (fun c1 hf => ?_) (fun c1 hf => ?_)
  · exact g_vret C d_To_refresh_14 hf
  · refine g_aload_n C d_To_refresh_15 rfl rfl ?_
    refine g_aload_n C d_To_refresh_16 rfl rfl ?_
    refine g_getR (b := 6) (k := 1) C k_To (by decide) fl_To_31 rfl rfl d_To_refresh_17 ?_
    refine g_getI (k := 4) C k_Gr (by decide) fl_To_35 rfl rfl d_To_refresh_20 ?_
    refine g_putI (k := 6) C k_To (by decide) fl_To_28 rfl rfl rfl rfl d_To_refresh_23 ?_
    refine g_aload_n C d_To_refresh_26 rfl rfl ?_
    refine g_getR (b := 6) (k := 1) C k_To (by decide) fl_To_31 rfl rfl d_To_refresh_27 ?_
    refine g_cvV C k_Gr rfl mv_Gr_measure ml_To_40 d_To_refresh_30 hf (fun μ1 h => t_Gr_measure C.2.2.2.2.2.2.2.2.1 h) rfl rfl (by decide) (Nat.le_of_ble_eq_true rfl) (fun μ3 hf => ?_)
    refine g_aload_n C d_To_refresh_33 rfl rfl ?_
    refine g_cvV C k_To rfl mv_To_gatherStops ml_To_43 d_To_refresh_34 hf (fun μ1 h => t_To_gatherStops C.2.2.2.2.2.2.2.2.1 h) rfl rfl (by decide) (Nat.le_of_ble_eq_true rfl) (fun μ4 hf => ?_)
    refine g_aload_n C d_To_refresh_37 rfl rfl ?_
    refine g_getI (k := 5) C k_To (by decide) fl_To_25 rfl rfl d_To_refresh_38 ?_
    refine g_iconst (v := 2) C d_To_refresh_41 (by decide) ?_
    refine g_icmp_ge (tgt := 65) C d_To_refresh_42 (by decide) hf (fun c5 hf => ?_) (fun c5 hf => ?_)
    · refine g_aload_n C d_To_refresh_65 rfl rfl ?_
      refine g_cvI C k_To rfl mv_To_isParted ml_To_46 d_To_refresh_66 hf (fun r μ1 h => t_To_isParted C.2.2.2.2.2.2.2.2.1 h) rfl rfl (by decide) (Nat.le_of_ble_eq_true rfl) (fun r7 μ6 hf => ?_)
      refine g_if_eq (tgt := 81) C d_To_refresh_69 (by decide) hf (fun c8 hf => ?_) (fun c8 hf => ?_)
      · refine g_aload_n C d_To_refresh_81 rfl rfl ?_
        refine g_cvV C k_To rfl mv_To_workHomeward ml_To_50 d_To_refresh_82 hf (fun μ1 h => t_To_workHomeward C.2.2.2.2.2.2.2.2.1 h) rfl rfl (by decide) (Nat.le_of_ble_eq_true rfl) (fun μ9 hf => ?_)
        refine g_aload_n C d_To_refresh_85 rfl rfl ?_
        refine g_cvV C k_To rfl mv_To_follow ml_To_53 d_To_refresh_86 hf (fun μ1 h => t_To_follow C.2.2.2.2.2.2.2.2.1 h) rfl rfl (by decide) (Nat.le_of_ble_eq_true rfl) (fun μ10 hf => ?_)
        exact g_vret C d_To_refresh_89 hf
      · refine g_aload_n C d_To_refresh_72 rfl rfl ?_
        refine g_bipush (v := -9) C d_To_refresh_73 (by decide) ?_
        refine g_putI (k := 0) C k_To (by decide) fl_To_9 rfl rfl rfl rfl d_To_refresh_75 ?_
        refine g_goto (tgt := 89) C d_To_refresh_78 (by decide) ?_
        exact g_vret C d_To_refresh_89 hf
    · refine g_aload_n C d_To_refresh_45 rfl rfl ?_
      refine g_iconst (v := 0) C d_To_refresh_46 (by decide) ?_
      refine g_putI (k := 0) C k_To (by decide) fl_To_9 rfl rfl rfl rfl d_To_refresh_47 ?_
      refine g_aload_n C d_To_refresh_50 rfl rfl ?_
      refine g_getR (b := 77) (k := 3) C k_To (by decide) fl_To_19 rfl rfl d_To_refresh_51 ?_
      refine g_iconst (v := 0) C d_To_refresh_54 (by decide) ?_
      refine g_aload_n C d_To_refresh_55 rfl rfl ?_
      refine g_getR (b := 76) (k := 2) C k_To (by decide) fl_To_15 rfl rfl d_To_refresh_56 ?_
      refine g_iconst (v := 0) C d_To_refresh_59 (by decide) ?_
      refine g_iald C rfl d_To_refresh_60 hf (fun hf => ?_)
      refine g_iast C rfl d_To_refresh_61 hf (fun hf => ?_)
      refine g_goto (tgt := 89) C d_To_refresh_62 (by decide) ?_
      exact g_vret C d_To_refresh_89 hf
set_option maxHeartbeats 4000000 in
theorem t_Wk_isOf_B25 {ad : Nat → Nat} {dA : Nat → ClassId} {D : va_G} {p : Program} {l : Launch} {e : Env} {s : State} {m : MethodId} {args : Array Value} {below : List Frame} {meth : Method} {c : Code} {r : Int32} {μ' : Mm} (C : Cx CLS SHX ad dA D p s m args meth c c_Wk_isOf 2 R_Wk (some .boolean)) (N : Nat) {j : Nat} (hj : j < 8) : ∀  (μ : Mm) (lv : Nat → Option Value), f_Wk_isOf_B25 N j μ = some (r, μ') → Go CLS SHX ad dA D p l e (rmD 0) s m args below meth c 2 (some (.int r)) μ' 25 lv [] μ := by
  intro μ lv hf
  unfold f_Wk_isOf_B25 at hf
  refine g_iconst (v := 1) C d_Wk_isOf_25 (by decide) ?_
  refine g_goto (tgt := 30) C d_Wk_isOf_26 (by decide) ?_
  exact g_zretc C d_Wk_isOf_30 rfl hf
set_option maxHeartbeats 4000000 in
theorem t_Wk_isOf {l : Launch} {ad : Nat → Nat} {dA : Nat → ClassId} {D : va_G} (hi : Inj SHX ad) {N : Nat} {j : Nat} {a1 : Int32} (hj : j < 8) {μ μ' : Mm} {r : Int32} (hf : f_Wk_isOf N j a1 μ = some (r, μ')) : Ct CLS l SHX ad dA D y_Wk_isOf c_Wk_isOf 2 (some .boolean) 0 [.ref (ad (WK j)), .int a1] μ (some (.int r)) μ' := by
  unfold f_Wk_isOf at hf
  refine ct_of (by decide) hi (Nat.le_of_ble_eq_true rfl) ?_
  intro p e s m args below meth c C
  refine g_iload_n C d_Wk_isOf_0 rfl rfl ?_
  refine g_if_eq (tgt := 25) C d_Wk_isOf_1 (by decide) hf (fun c1 hf => ?_) (fun c1 hf => ?_)
  · exact t_Wk_isOf_B25 C N hj _ _ hf
  · refine g_aload_n C d_Wk_isOf_4 rfl rfl ?_
    refine g_getI (k := 0) C k_Wk (by decide) fl_Wk_9 (shW _ hj) rfl d_Wk_isOf_5 ?_
    refine g_iload_n C d_Wk_isOf_8 rfl rfl ?_
    refine g_icmp_eq (tgt := 25) C d_Wk_isOf_9 (by decide) hf (fun c2 hf => ?_) (fun c2 hf => ?_)
    · exact t_Wk_isOf_B25 C N hj _ _ hf
    · refine g_iload_n C d_Wk_isOf_12 rfl rfl ?_
      refine g_iconst (v := 1) C d_Wk_isOf_13 (by decide) ?_
      refine g_icmp_ne (tgt := 29) C d_Wk_isOf_14 (by decide) hf (fun c3 hf => ?_) (fun c3 hf => ?_)
      · refine g_aload_n C d_Wk_isOf_17 rfl rfl ?_
        refine g_getI (k := 0) C k_Wk (by decide) fl_Wk_9 (shW _ hj) rfl d_Wk_isOf_18 ?_
        refine g_iconst (v := 2) C d_Wk_isOf_21 (by decide) ?_
        refine g_icmp_ne (tgt := 29) C d_Wk_isOf_22 (by decide) hf (fun c4 hf => ?_) (fun c4 hf => ?_)
        · exact t_Wk_isOf_B25 C N hj _ _ hf
        · refine g_iconst (v := 0) C d_Wk_isOf_29 (by decide) ?_
          exact g_zretc C d_Wk_isOf_30 rfl hf
      · refine g_iconst (v := 0) C d_Wk_isOf_29 (by decide) ?_
        exact g_zretc C d_Wk_isOf_30 rfl hf
set_option maxHeartbeats 4000000 in
theorem t_Wk_placeAt_B51 {ad : Nat → Nat} {dA : Nat → ClassId} {D : va_G} {p : Program} {l : Launch} {e : Env} {s : State} {m : MethodId} {args : Array Value} {below : List Frame} {meth : Method} {c : Code} {r : Int32} {μ' : Mm} (C : Cx CLS SHX ad dA D p s m args meth c c_Wk_placeAt 6 R_Wk (some .int)) (N : Nat) {j : Nat} (hj : j < 8) : ∀ (v2 : Int32) (v3 : Int32) (v4 : Int32) (s0 : Int32) (μ : Mm) (lv : Nat → Option Value), lv 0 = some (.ref (ad (WK j))) → lv 2 = some (.int v2) → lv 3 = some (.int v3) → lv 4 = some (.int v4) → f_Wk_placeAt_B51 N j v2 v3 v4 s0 μ = some (r, μ') → Go CLS SHX ad dA D p l e (rmD 2) s m args below meth c 6 (some (.int r)) μ' 51 lv [.int s0] μ := by
  intro v2 v3 v4 s0 μ lv hl0 hl2 hl3 hl4 hf
  unfold f_Wk_placeAt_B51 at hf
  refine g_istore C d_Wk_placeAt_51 (by decide) ?_
  refine g_iload_n C d_Wk_placeAt_53 rfl (upG hl2 rfl) ?_
  refine g_cas hf (fun e0 hf => ?_) (fun e0 hf => ?_)
  · refine g_look (tgt := 80) C d_Wk_placeAt_54 (by decide) (by rw [e0]; first | done | rfl) (by decide) ?_
    refine g_aload_n C d_Wk_placeAt_80 rfl (upG hl0 rfl) ?_
    refine g_getR (b := WK _ + 1) (k := 9) C k_Wk (by decide) fl_Wk_40 (shW _ hj) rfl d_Wk_placeAt_81 ?_
    refine g_iload C d_Wk_placeAt_84 (upG hl4 rfl) ?_
    refine g_iald C (shW1 _ hj) d_Wk_placeAt_86 hf (fun hf => ?_)
    exact g_iret C d_Wk_placeAt_87 hf
  · skip
    refine g_cas hf (fun e1 hf => ?_) (fun e1 hf => ?_)
    · refine g_look (tgt := 88) C d_Wk_placeAt_54 (by decide) (by rw [e1]; first | done | rfl) (by decide) ?_
      refine g_iload C d_Wk_placeAt_88 upS ?_
      refine g_if_eq (tgt := 103) C d_Wk_placeAt_90 (by decide) hf (fun c8 hf => ?_) (fun c8 hf => ?_)
      · refine g_aload_n C d_Wk_placeAt_103 rfl (upG hl0 rfl) ?_
        refine g_getR (b := WK _ + 1) (k := 9) C k_Wk (by decide) fl_Wk_40 (shW _ hj) rfl d_Wk_placeAt_104 ?_
        refine g_aload_n C d_Wk_placeAt_107 rfl (upG hl0 rfl) ?_
        refine g_iload C d_Wk_placeAt_108 (upG hl4 rfl) ?_
        refine g_cvI C k_Wk (shW _ hj) mv_Wk_legBehind ml_Wk_71 d_Wk_placeAt_110 hf (fun r μ1 h => t_Wk_legBehind C.2.2.2.2.2.2.2.2.1 hj h) rfl rfl (by decide) (Nat.le_of_ble_eq_true rfl) (fun r10 μ9 hf => ?_)
        refine g_iald C (shW1 _ hj) d_Wk_placeAt_113 hf (fun hf => ?_)
        exact g_iret C d_Wk_placeAt_114 hf
      · refine g_aload_n C d_Wk_placeAt_93 rfl (upG hl0 rfl) ?_
        refine g_getR (b := WK _ + 1) (k := 9) C k_Wk (by decide) fl_Wk_40 (shW _ hj) rfl d_Wk_placeAt_94 ?_
        refine g_iload C d_Wk_placeAt_97 (upG hl4 rfl) ?_
        refine g_iald C (shW1 _ hj) d_Wk_placeAt_99 hf (fun hf => ?_)
        refine g_goto (tgt := 114) C d_Wk_placeAt_100 (by decide) ?_
        exact g_iret C d_Wk_placeAt_114 hf
    · skip
      have e0 := tni (k := 0) (0 : Int32) rfl e0
      have e1 := tni (k := 1) (1 : Int32) rfl e1
      refine g_look (tgt := 115) C d_Wk_placeAt_54 (by decide) (lk_out e0 e1) (by decide) ?_
      refine g_iload C d_Wk_placeAt_115 upS ?_
      refine g_if_eq (tgt := 124) C d_Wk_placeAt_117 (by decide) hf (fun c11 hf => ?_) (fun c11 hf => ?_)
      · refine g_iload_n C d_Wk_placeAt_124 rfl (upG hl3 rfl) ?_
        refine g_aload_n C d_Wk_placeAt_125 rfl (upG hl0 rfl) ?_
        refine g_getR (b := WK _ + 4) (k := 15) C k_Wk (by decide) fl_Wk_59 (shW _ hj) rfl d_Wk_placeAt_126 ?_
        refine g_iload C d_Wk_placeAt_129 (upG hl4 rfl) ?_
        refine g_iald C (shW4 _ hj) d_Wk_placeAt_131 hf (fun hf => ?_)
        refine g_isub C d_Wk_placeAt_132 ?_
        exact g_iret C d_Wk_placeAt_133 hf
      · refine g_iconst (v := 0) C d_Wk_placeAt_120 (by decide) ?_
        refine g_goto (tgt := 133) C d_Wk_placeAt_121 (by decide) ?_
        exact g_iret C d_Wk_placeAt_133 hf
set_option maxHeartbeats 4000000 in
theorem t_Wk_placeAt {l : Launch} {ad : Nat → Nat} {dA : Nat → ClassId} {D : va_G} (hi : Inj SHX ad) {N : Nat} {j : Nat} {a1 : Int32} {a2 : Int32} (hj : j < 8) {μ μ' : Mm} {r : Int32} (hf : f_Wk_placeAt N j a1 a2 μ = some (r, μ')) : Ct CLS l SHX ad dA D y_Wk_placeAt c_Wk_placeAt 6 (some .int) 2 [.ref (ad (WK j)), .int a1, .int a2] μ (some (.int r)) μ' := by
  unfold f_Wk_placeAt at hf
  refine ct_of (by decide) hi (Nat.le_of_ble_eq_true rfl) ?_
  intro p e s m args below meth c C
  refine g_aload_n C d_Wk_placeAt_0 rfl rfl ?_
  refine g_getI (k := 0) C k_Wk (by decide) fl_Wk_9 (shW _ hj) rfl d_Wk_placeAt_1 ?_
  refine g_iconst (v := 3) C d_Wk_placeAt_4 (by decide) ?_
  refine g_icmp_ne (tgt := 22) C d_Wk_placeAt_5 (by decide) hf (fun c1 hf => ?_) (fun c1 hf => ?_)
  · refine g_iload_n C d_Wk_placeAt_8 rfl rfl ?_
    refine g_iconst (v := 2) C d_Wk_placeAt_9 (by decide) ?_
    refine g_icmp_ne (tgt := 17) C d_Wk_placeAt_10 (by decide) hf (fun c2 hf => ?_) (fun c2 hf => ?_)
    · refine g_iconst (v := 0) C d_Wk_placeAt_13 (by decide) ?_
      refine g_goto (tgt := 21) C d_Wk_placeAt_14 (by decide) ?_
      exact g_iret C d_Wk_placeAt_21 hf
    · refine g_aload_n C d_Wk_placeAt_17 rfl rfl ?_
      refine g_getI (k := 3) C k_Wk (by decide) fl_Wk_21 (shW _ hj) rfl d_Wk_placeAt_18 ?_
      exact g_iret C d_Wk_placeAt_21 hf
  · refine g_aload_n C d_Wk_placeAt_22 rfl rfl ?_
    refine g_iload_n C d_Wk_placeAt_23 rfl rfl ?_
    refine g_cvI C k_Wk (shW _ hj) mv_Wk_phaseAt ml_Wk_111 d_Wk_placeAt_24 hf (fun r μ1 h => t_Wk_phaseAt C.2.2.2.2.2.2.2.2.1 hj h) rfl rfl (by decide) (Nat.le_of_ble_eq_true rfl) (fun r4 μ3 hf => ?_)
    refine g_istore_n C d_Wk_placeAt_27 rfl (by decide) ?_
    refine g_aload_n C d_Wk_placeAt_28 rfl (upG rfl rfl) ?_
    refine g_iload_n C d_Wk_placeAt_29 rfl upS ?_
    refine g_cvI C k_Wk (shW _ hj) mv_Wk_legAt ml_Wk_114 d_Wk_placeAt_30 hf (fun r μ1 h => t_Wk_legAt C.2.2.2.2.2.2.2.2.1 hj h) rfl rfl (by decide) (Nat.le_of_ble_eq_true rfl) (fun r6 μ5 hf => ?_)
    refine g_istore C d_Wk_placeAt_33 (by decide) ?_
    refine g_iload_n C d_Wk_placeAt_35 rfl (upG upS rfl) ?_
    refine g_aload_n C d_Wk_placeAt_36 rfl (upG (upG rfl rfl) rfl) ?_
    refine g_getR (b := WK _ + 4) (k := 15) C k_Wk (by decide) fl_Wk_59 (shW _ hj) rfl d_Wk_placeAt_37 ?_
    refine g_iload C d_Wk_placeAt_40 upS ?_
    refine g_iald C (shW4 _ hj) d_Wk_placeAt_42 hf (fun hf => ?_)
    refine g_icmp_gt (tgt := 50) C d_Wk_placeAt_43 (by decide) hf (fun c7 hf => ?_) (fun c7 hf => ?_)
    · refine g_iconst (v := 0) C d_Wk_placeAt_50 (by decide) ?_
      exact t_Wk_placeAt_B51 C N hj _ _ _ _ _ _ ((upG (upG rfl rfl) rfl)) ((upG (upG rfl rfl) rfl)) ((upG upS rfl)) upS hf
    · refine g_iconst (v := 1) C d_Wk_placeAt_46 (by decide) ?_
      refine g_goto (tgt := 51) C d_Wk_placeAt_47 (by decide) ?_
      exact t_Wk_placeAt_B51 C N hj _ _ _ _ _ _ ((upG (upG rfl rfl) rfl)) ((upG (upG rfl rfl) rfl)) ((upG upS rfl)) upS hf
set_option maxHeartbeats 4000000 in
theorem t_Wa_alwaysSeen_B52 {ad : Nat → Nat} {dA : Nat → ClassId} {D : va_G} {p : Program} {l : Launch} {e : Env} {s : State} {m : MethodId} {args : Array Value} {below : List Frame} {meth : Method} {c : Code} {r : Int32} {μ' : Mm} (C : Cx CLS SHX ad dA D p s m args meth c c_Wa_alwaysSeen 5 R_Wa (some .int)) (N : Nat)   (k4 : Int32 → Int32 → Int32 → Mm → Option (Int32 × Mm)) (hk4 : ∀ (v1 : Int32) (v2 : Int32) (v3 : Int32) (μ : Mm) (lv : Nat → Option Value), lv 0 = some (.ref (ad 61)) → lv 1 = some (.int v1) → lv 2 = some (.int v2) → lv 3 = some (.int v3) → k4 v1 v2 v3 μ = some (r, μ') → Go CLS SHX ad dA D p l e (rmD 1) s m args below meth c 5 (some (.int r)) μ' 4 lv [] μ) : ∀ (v1 : Int32) (v3 : Int32) (s0 : Int32) (s1 : Int32) (μ : Mm) (lv : Nat → Option Value), lv 0 = some (.ref (ad 61)) → lv 1 = some (.int v1) → lv 3 = some (.int v3) → f_Wa_alwaysSeen_B52 N k4 v1 v3 s0 s1 μ = some (r, μ') → Go CLS SHX ad dA D p l e (rmD 1) s m args below meth c 5 (some (.int r)) μ' 52 lv [.int s1, .int s0] μ := by
  intro v1 v3 s0 s1 μ lv hl0 hl1 hl3 hf
  unfold f_Wa_alwaysSeen_B52 at hf
  refine g_ior C d_Wa_alwaysSeen_52 ?_
  refine g_istore_n C d_Wa_alwaysSeen_53 rfl (by decide) ?_
  refine g_iinc (v := 1) C d_Wa_alwaysSeen_54 (upG hl3 rfl) (by decide) (by decide) ?_
  refine g_goto (tgt := 4) C d_Wa_alwaysSeen_57 (by decide) ?_
  exact hk4 _ _ _ _ _ ((upG (upG hl0 rfl) rfl)) ((upG (upG hl1 rfl) rfl)) ((upG upS rfl)) upS hf
set_option maxHeartbeats 4000000 in
theorem t_Wa_alwaysSeen_B51 {ad : Nat → Nat} {dA : Nat → ClassId} {D : va_G} {p : Program} {l : Launch} {e : Env} {s : State} {m : MethodId} {args : Array Value} {below : List Frame} {meth : Method} {c : Code} {r : Int32} {μ' : Mm} (C : Cx CLS SHX ad dA D p s m args meth c c_Wa_alwaysSeen 5 R_Wa (some .int)) (N : Nat)   (k4 : Int32 → Int32 → Int32 → Mm → Option (Int32 × Mm)) (hk4 : ∀ (v1 : Int32) (v2 : Int32) (v3 : Int32) (μ : Mm) (lv : Nat → Option Value), lv 0 = some (.ref (ad 61)) → lv 1 = some (.int v1) → lv 2 = some (.int v2) → lv 3 = some (.int v3) → k4 v1 v2 v3 μ = some (r, μ') → Go CLS SHX ad dA D p l e (rmD 1) s m args below meth c 5 (some (.int r)) μ' 4 lv [] μ) : ∀ (v1 : Int32) (v3 : Int32) (s0 : Int32) (μ : Mm) (lv : Nat → Option Value), lv 0 = some (.ref (ad 61)) → lv 1 = some (.int v1) → lv 3 = some (.int v3) → f_Wa_alwaysSeen_B51 N k4 v1 v3 s0 μ = some (r, μ') → Go CLS SHX ad dA D p l e (rmD 1) s m args below meth c 5 (some (.int r)) μ' 51 lv [.int s0] μ := by
  intro v1 v3 s0 μ lv hl0 hl1 hl3 hf
  unfold f_Wa_alwaysSeen_B51 at hf
  refine g_iconst (v := 0) C d_Wa_alwaysSeen_51 (by decide) ?_
  exact t_Wa_alwaysSeen_B52 C N _ hk4 _ _ _ _ _ _ hl0 hl1 hl3 hf
set_option maxHeartbeats 4000000 in
theorem t_Wa_alwaysSeen_L4 {ad : Nat → Nat} {dA : Nat → ClassId} {D : va_G} {p : Program} {l : Launch} {e : Env} {s : State} {m : MethodId} {args : Array Value} {below : List Frame} {meth : Method} {c : Code} {r : Int32} {μ' : Mm} (C : Cx CLS SHX ad dA D p s m args meth c c_Wa_alwaysSeen 5 R_Wa (some .int)) (N : Nat)   : ∀ (n : Nat) (v1 : Int32) (v2 : Int32) (v3 : Int32) (μ : Mm) (lv : Nat → Option Value), lv 0 = some (.ref (ad 61)) → lv 1 = some (.int v1) → lv 2 = some (.int v2) → lv 3 = some (.int v3) → f_Wa_alwaysSeen_L4 N n v1 v2 v3 μ = some (r, μ') → Go CLS SHX ad dA D p l e (rmD 1) s m args below meth c 5 (some (.int r)) μ' 4 lv [] μ := by
  intro n
  induction n with
  | zero => intro v1 v2 v3 μ lv hl0 hl1 hl2 hl3 hf; cases (show none = some _ from hf)
  | succ n ih =>
    intro v1 v2 v3 μ lv hl0 hl1 hl2 hl3 hf
    unfold f_Wa_alwaysSeen_L4 at hf
    refine g_iload_n C d_Wa_alwaysSeen_4 rfl hl3 ?_
    refine g_aload_n C d_Wa_alwaysSeen_5 rfl hl0 ?_
    refine g_getR (b := 11) (k := 1) C k_Wa (by decide) fl_Wa_58 rfl rfl d_Wa_alwaysSeen_6 ?_
    refine g_getI (k := 1) C k_Cr (by decide) fl_Wa_93 rfl rfl d_Wa_alwaysSeen_9 ?_
    refine g_icmp_ge (tgt := 60) C d_Wa_alwaysSeen_12 (by decide) hf (fun c1 hf => ?_) (fun c1 hf => ?_)
    · refine g_iload_n C d_Wa_alwaysSeen_60 rfl hl2 ?_
      exact g_iret C d_Wa_alwaysSeen_61 hf
    · refine g_aload_n C d_Wa_alwaysSeen_15 rfl hl0 ?_
      refine g_getR (b := 11) (k := 1) C k_Wa (by decide) fl_Wa_58 rfl rfl d_Wa_alwaysSeen_16 ?_
      refine g_iload_n C d_Wa_alwaysSeen_19 rfl hl3 ?_
      refine g_cvW C k_Cr rfl mv_Cr_get ml_Wa_96 d_Wa_alwaysSeen_20 hf (fun r μ1 h => t_Cr_get C.2.2.2.2.2.2.2.2.1 h) rfl rfl (by decide) (Nat.le_of_ble_eq_true rfl) (fun r3 μ2 hf => ?_)
      obtain ⟨hw4, hf⟩ := chk8 hf
      refine g_astore C d_Wa_alwaysSeen_23 (by decide) ?_
      refine g_iload_n C d_Wa_alwaysSeen_25 rfl (upG hl2 rfl) ?_
      refine g_iload_n C d_Wa_alwaysSeen_26 rfl (upG hl1 rfl) ?_
      refine g_iload_n C d_Wa_alwaysSeen_27 rfl (upG hl3 rfl) ?_
      refine g_ishr C d_Wa_alwaysSeen_28 ?_
      refine g_iconst (v := 1) C d_Wa_alwaysSeen_29 (by decide) ?_
      refine g_iand C d_Wa_alwaysSeen_30 ?_
      refine g_if_eq (tgt := 51) C d_Wa_alwaysSeen_31 (by decide) hf (fun c5 hf => ?_) (fun c5 hf => ?_)
      · exact t_Wa_alwaysSeen_B51 C N _ ih _ _ _ _ _ ((upG hl0 rfl)) ((upG hl1 rfl)) ((upG hl3 rfl)) hf
      · refine g_aload C d_Wa_alwaysSeen_34 upS ?_
        refine g_getI (k := 0) C k_Wk (by decide) fl_Wa_100 (shW _ hw4) rfl d_Wa_alwaysSeen_36 ?_
        refine g_iconst (v := 3) C d_Wa_alwaysSeen_39 (by decide) ?_
        refine g_icmp_ne (tgt := 51) C d_Wa_alwaysSeen_40 (by decide) hf (fun c6 hf => ?_) (fun c6 hf => ?_)
        · refine g_aload C d_Wa_alwaysSeen_43 upS ?_
          refine g_getI (k := 13) C k_Wk (by decide) fl_Wa_105 (shW _ hw4) rfl d_Wa_alwaysSeen_45 ?_
          refine g_goto (tgt := 52) C d_Wa_alwaysSeen_48 (by decide) ?_
          exact t_Wa_alwaysSeen_B52 C N _ ih _ _ _ _ _ _ ((upG hl0 rfl)) ((upG hl1 rfl)) ((upG hl3 rfl)) hf
        · exact t_Wa_alwaysSeen_B51 C N _ ih _ _ _ _ _ ((upG hl0 rfl)) ((upG hl1 rfl)) ((upG hl3 rfl)) hf
set_option maxHeartbeats 4000000 in
theorem t_Wa_alwaysSeen {l : Launch} {ad : Nat → Nat} {dA : Nat → ClassId} {D : va_G} (hi : Inj SHX ad) {N : Nat} {a1 : Int32}  {μ μ' : Mm} {r : Int32} (hf : f_Wa_alwaysSeen N a1 μ = some (r, μ')) : Ct CLS l SHX ad dA D y_Wa_alwaysSeen c_Wa_alwaysSeen 5 (some .int) 1 [.ref (ad 61), .int a1] μ (some (.int r)) μ' := by
  unfold f_Wa_alwaysSeen at hf
  refine ct_of (by decide) hi (Nat.le_of_ble_eq_true rfl) ?_
  intro p e s m args below meth c C
  refine g_iconst (v := 0) C d_Wa_alwaysSeen_0 (by decide) ?_
  refine g_istore_n C d_Wa_alwaysSeen_1 rfl (by decide) ?_
  refine g_iconst (v := 0) C d_Wa_alwaysSeen_2 (by decide) ?_
  refine g_istore_n C d_Wa_alwaysSeen_3 rfl (by decide) ?_
  exact t_Wa_alwaysSeen_L4 C N N _ _ _ _ _ ((upG (upG rfl rfl) rfl)) ((upG (upG rfl rfl) rfl)) ((upG upS rfl)) upS hf
