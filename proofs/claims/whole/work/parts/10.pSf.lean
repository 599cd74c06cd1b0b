set_option maxHeartbeats 4000000 in
theorem t_Sf_lacks {l : Launch} {ad : Nat → Nat} {dA : Nat → ClassId} {D : va_G} (hi : Inj SHX ad) {N : Nat} {a1 : Int32}  {μ μ' : Mm} {r : Int32} (hf : f_Sf_lacks N a1 μ = some (r, μ')) : Ct CLS l SHX ad dA D y_Sf_lacks c_Sf_lacks 2 (some .boolean) 0 [.ref (ad 3), .int a1] μ (some (.int r)) μ' := by
  unfold f_Sf_lacks at hf
  refine ct_of (by decide) hi (Nat.le_of_ble_eq_true rfl) ?_
  intro p e s m args below meth c C
  refine g_aload_n C d_Sf_lacks_0 rfl rfl ?_
  refine g_getR (b := 5) (k := 1) C k_Sf (by decide) fl_Sf_15 rfl rfl d_Sf_lacks_1 ?_
  refine g_iload_n C d_Sf_lacks_4 rfl rfl ?_
  refine g_iald C rfl d_Sf_lacks_5 hf (fun hf => ?_)
  refine g_iconst (v := -1) C d_Sf_lacks_6 (by decide) ?_
  refine g_icmp_ne (tgt := 14) C d_Sf_lacks_7 (by decide) hf (fun c1 hf => ?_) (fun c1 hf => ?_)
  · refine g_iconst (v := 1) C d_Sf_lacks_10 (by decide) ?_
    refine g_goto (tgt := 15) C d_Sf_lacks_11 (by decide) ?_
    exact g_zretc C d_Sf_lacks_15 rfl hf
  · refine g_iconst (v := 0) C d_Sf_lacks_14 (by decide) ?_
    exact g_zretc C d_Sf_lacks_15 rfl hf
set_option maxHeartbeats 4000000 in
theorem t_Sf_sizeOf {l : Launch} {ad : Nat → Nat} {dA : Nat → ClassId} {D : va_G} (hi : Inj SHX ad) {N : Nat} {a1 : Int32}  {μ μ' : Mm} {r : Int32} (hf : f_Sf_sizeOf N a1 μ = some (r, μ')) : Ct CLS l SHX ad dA D y_Sf_sizeOf c_Sf_sizeOf 2 (some .int) 0 [.ref (ad 3), .int a1] μ (some (.int r)) μ' := by
  unfold f_Sf_sizeOf at hf
  refine ct_of (by decide) hi (Nat.le_of_ble_eq_true rfl) ?_
  intro p e s m args below meth c C
  refine g_aload_n C d_Sf_sizeOf_0 rfl rfl ?_
  refine g_getR (b := 5) (k := 1) C k_Sf (by decide) fl_Sf_15 rfl rfl d_Sf_sizeOf_1 ?_
  refine g_iload_n C d_Sf_sizeOf_4 rfl rfl ?_
  refine g_iald C rfl d_Sf_sizeOf_5 hf (fun hf => ?_)
  exact g_iret C d_Sf_sizeOf_6 hf
set_option maxHeartbeats 4000000 in
theorem t_Sf_byteAt {l : Launch} {ad : Nat → Nat} {dA : Nat → ClassId} {D : va_G} (hi : Inj SHX ad) {N : Nat} {a1 : Int32} {a2 : Int32}  {μ μ' : Mm} {r : Int32} (hf : f_Sf_byteAt N a1 a2 μ = some (r, μ')) : Ct CLS l SHX ad dA D y_Sf_byteAt c_Sf_byteAt 3 (some .int) 0 [.ref (ad 3), .int a1, .int a2] μ (some (.int r)) μ' := by
  unfold f_Sf_byteAt at hf
  refine ct_of (by decide) hi (Nat.le_of_ble_eq_true rfl) ?_
  intro p e s m args below meth c C
  refine g_aload_n C d_Sf_byteAt_0 rfl rfl ?_
  refine g_getR (b := 4) (k := 0) C k_Sf (by decide) fl_Sf_9 rfl rfl d_Sf_byteAt_1 ?_
  refine g_iload_n C d_Sf_byteAt_4 rfl rfl ?_
  refine g_bipush (v := 40) C d_Sf_byteAt_5 (by decide) ?_
  refine g_imul C d_Sf_byteAt_7 ?_
  refine g_iload_n C d_Sf_byteAt_8 rfl rfl ?_
  refine g_iadd C d_Sf_byteAt_9 ?_
  refine g_bald C rfl d_Sf_byteAt_10 hf (fun hf => ?_)
  exact g_iret C d_Sf_byteAt_11 hf
set_option maxHeartbeats 4000000 in
theorem t_Sf_write {l : Launch} {ad : Nat → Nat} {dA : Nat → ClassId} {D : va_G} (hi : Inj SHX ad) {N : Nat} {a1 : Int32} {a2 : Int32} {a3 : Int32}  {μ μ' : Mm} (hf : f_Sf_write N a1 a2 a3 μ = some μ') : Ct CLS l SHX ad dA D y_Sf_write c_Sf_write 4 (none) 0 [.ref (ad 3), .int a1, .int a2, .int a3] μ none μ' := by
  unfold f_Sf_write at hf
  refine ct_of (by decide) hi (Nat.le_of_ble_eq_true rfl) ?_
  intro p e s m args below meth c C
  refine g_aload_n C d_Sf_write_0 rfl rfl ?_
  refine g_getR (b := 4) (k := 0) C k_Sf (by decide) fl_Sf_9 rfl rfl d_Sf_write_1 ?_
  refine g_iload_n C d_Sf_write_4 rfl rfl ?_
  refine g_bipush (v := 40) C d_Sf_write_5 (by decide) ?_
  refine g_imul C d_Sf_write_7 ?_
  refine g_iload_n C d_Sf_write_8 rfl rfl ?_
  refine g_iadd C d_Sf_write_9 ?_
  refine g_iload_n C d_Sf_write_10 rfl rfl ?_
  refine g_i2b C d_Sf_write_11 ?_
  refine g_bast C rfl d_Sf_write_12 hf (fun hf => ?_)
  exact g_vret C d_Sf_write_13 hf
set_option maxHeartbeats 4000000 in
theorem t_Sf_put_L9 {ad : Nat → Nat} {dA : Nat → ClassId} {D : va_G} {p : Program} {l : Launch} {e : Env} {s : State} {m : MethodId} {args : Array Value} {below : List Frame} {meth : Method} {c : Code} {μ' : Mm} (C : Cx CLS SHX ad dA D p s m args meth c c_Sf_put 4 R_Sf (none)) (N : Nat)   : ∀ (n : Nat) (v1 : Int32) (v2 : Int32) (v3 : Int32) (μ : Mm) (lv : Nat → Option Value), lv 0 = some (.ref (ad 3)) → lv 1 = some (.int v1) → lv 2 = some (.int v2) → lv 3 = some (.int v3) → f_Sf_put_L9 N n v1 v2 v3 μ = some μ' → Go CLS SHX ad dA D p l e (rmD 1) s m args below meth c 4 none μ' 9 lv [] μ := by
  intro n
  induction n with
  | zero => intro v1 v2 v3 μ lv hl0 hl1 hl2 hl3 hf; cases (show none = some _ from hf)
  | succ n ih =>
    intro v1 v2 v3 μ lv hl0 hl1 hl2 hl3 hf
    unfold f_Sf_put_L9 at hf
    refine g_iload_n C d_Sf_put_9 rfl hl3 ?_
    refine g_iload_n C d_Sf_put_10 rfl hl2 ?_
    refine g_icmp_ge (tgt := 27) C d_Sf_put_11 (by decide) hf (fun c2 hf => ?_) (fun c2 hf => ?_)
    · exact g_vret C d_Sf_put_27 hf
    · refine g_aload_n C d_Sf_put_14 rfl hl0 ?_
      refine g_iload_n C d_Sf_put_15 rfl hl1 ?_
      refine g_iload_n C d_Sf_put_16 rfl hl3 ?_
      refine g_iconst (v := 0) C d_Sf_put_17 (by decide) ?_
      refine g_cvV C k_Sf rfl mv_Sf_write ml_Sf_19 d_Sf_put_18 hf (fun μ1 h => t_Sf_write C.2.2.2.2.2.2.2.2.1 h) rfl rfl (by decide) (Nat.le_of_ble_eq_true rfl) (fun μ3 hf => ?_)
      refine g_iinc (v := 1) C d_Sf_put_21 hl3 (by decide) (by decide) ?_
      refine g_goto (tgt := 9) C d_Sf_put_24 (by decide) ?_
      exact ih _ _ _ _ _ ((upG hl0 rfl)) ((upG hl1 rfl)) ((upG hl2 rfl)) upS hf
set_option maxHeartbeats 4000000 in
theorem t_Sf_put {l : Launch} {ad : Nat → Nat} {dA : Nat → ClassId} {D : va_G} (hi : Inj SHX ad) {N : Nat} {a1 : Int32} {a2 : Int32}  {μ μ' : Mm} (hf : f_Sf_put N a1 a2 μ = some μ') : Ct CLS l SHX ad dA D y_Sf_put c_Sf_put 4 (none) 1 [.ref (ad 3), .int a1, .int a2] μ none μ' := by
  unfold f_Sf_put at hf
  refine ct_of (by decide) hi (Nat.le_of_ble_eq_true rfl) ?_
  intro p e s m args below meth c C
  refine g_aload_n C d_Sf_put_0 rfl rfl ?_
  refine g_getR (b := 5) (k := 1) C k_Sf (by decide) fl_Sf_15 rfl rfl d_Sf_put_1 ?_
  refine g_iload_n C d_Sf_put_4 rfl rfl ?_
  refine g_iload_n C d_Sf_put_5 rfl rfl ?_
  refine g_iast C rfl d_Sf_put_6 hf (fun hf => ?_)
  refine g_iconst (v := 0) C d_Sf_put_7 (by decide) ?_
  refine g_istore_n C d_Sf_put_8 rfl (by decide) ?_
  exact t_Sf_put_L9 C N N _ _ _ _ _ ((upG rfl rfl)) ((upG rfl rfl)) ((upG rfl rfl)) upS hf
set_option maxHeartbeats 4000000 in
theorem t_Sf_remove {l : Launch} {ad : Nat → Nat} {dA : Nat → ClassId} {D : va_G} (hi : Inj SHX ad) {N : Nat} {a1 : Int32}  {μ μ' : Mm} (hf : f_Sf_remove N a1 μ = some μ') : Ct CLS l SHX ad dA D y_Sf_remove c_Sf_remove 2 (none) 0 [.ref (ad 3), .int a1] μ none μ' := by
  unfold f_Sf_remove at hf
  refine ct_of (by decide) hi (Nat.le_of_ble_eq_true rfl) ?_
  intro p e s m args below meth c C
  refine g_aload_n C d_Sf_remove_0 rfl rfl ?_
  refine g_getR (b := 5) (k := 1) C k_Sf (by decide) fl_Sf_15 rfl rfl d_Sf_remove_1 ?_
  refine g_iload_n C d_Sf_remove_4 rfl rfl ?_
  refine g_iconst (v := -1) C d_Sf_remove_5 (by decide) ?_
  refine g_iast C rfl d_Sf_remove_6 hf (fun hf => ?_)
  exact g_vret C d_Sf_remove_7 hf
set_option maxHeartbeats 4000000 in
theorem t_Sf_holds {l : Launch} {ad : Nat → Nat} {dA : Nat → ClassId} {D : va_G} (hi : Inj SHX ad) {N : Nat} {a1 : Int32} {a2 : Int32} {a3 : Int32}  {μ μ' : Mm} {r : Int32} (hf : f_Sf_holds N a1 a2 a3 μ = some (r, μ')) : Ct CLS l SHX ad dA D y_Sf_holds c_Sf_holds 4 (some .boolean) 0 [.ref (ad 3), .int a1, .int a2, .int a3] μ (some (.int r)) μ' := by
  unfold f_Sf_holds at hf
  refine ct_of (by decide) hi (Nat.le_of_ble_eq_true rfl) ?_
  intro p e s m args below meth c C
  refine g_iload_n C d_Sf_holds_0 rfl rfl ?_
  refine g_if_lt (tgt := 34) C d_Sf_holds_1 (by decide) hf (fun c1 hf => ?_) (fun c1 hf => ?_)
  · refine g_iconst (v := 0) C d_Sf_holds_34 (by decide) ?_
    exact g_zretc C d_Sf_holds_35 rfl hf
  · refine g_iload_n C d_Sf_holds_4 rfl rfl ?_
    refine g_if_lt (tgt := 34) C d_Sf_holds_5 (by decide) hf (fun c2 hf => ?_) (fun c2 hf => ?_)
    · refine g_iconst (v := 0) C d_Sf_holds_34 (by decide) ?_
      exact g_zretc C d_Sf_holds_35 rfl hf
    · refine g_iload_n C d_Sf_holds_8 rfl rfl ?_
      refine g_aload_n C d_Sf_holds_9 rfl rfl ?_
      refine g_getR (b := 5) (k := 1) C k_Sf (by decide) fl_Sf_15 rfl rfl d_Sf_holds_10 ?_
      refine g_iload_n C d_Sf_holds_13 rfl rfl ?_
      refine g_iald C rfl d_Sf_holds_14 hf (fun hf => ?_)
      refine g_icmp_gt (tgt := 34) C d_Sf_holds_15 (by decide) hf (fun c3 hf => ?_) (fun c3 hf => ?_)
      · refine g_iconst (v := 0) C d_Sf_holds_34 (by decide) ?_
        exact g_zretc C d_Sf_holds_35 rfl hf
      · refine g_iload_n C d_Sf_holds_18 rfl rfl ?_
        refine g_aload_n C d_Sf_holds_19 rfl rfl ?_
        refine g_getR (b := 5) (k := 1) C k_Sf (by decide) fl_Sf_15 rfl rfl d_Sf_holds_20 ?_
        refine g_iload_n C d_Sf_holds_23 rfl rfl ?_
        refine g_iald C rfl d_Sf_holds_24 hf (fun hf => ?_)
        refine g_iload_n C d_Sf_holds_25 rfl rfl ?_
        refine g_isub C d_Sf_holds_26 ?_
        refine g_icmp_gt (tgt := 34) C d_Sf_holds_27 (by decide) hf (fun c4 hf => ?_) (fun c4 hf => ?_)
        · refine g_iconst (v := 0) C d_Sf_holds_34 (by decide) ?_
          exact g_zretc C d_Sf_holds_35 rfl hf
        · refine g_iconst (v := 1) C d_Sf_holds_30 (by decide) ?_
          refine g_goto (tgt := 35) C d_Sf_holds_31 (by decide) ?_
          exact g_zretc C d_Sf_holds_35 rfl hf
set_option maxHeartbeats 4000000 in
theorem t_Sf_move {l : Launch} {ad : Nat → Nat} {dA : Nat → ClassId} {D : va_G} (hi : Inj SHX ad) {N : Nat} {a1 : Int32} {a2 : Int32} {a3 : Int32} {a4 : Int32} {a5 : Int32}  {μ μ' : Mm} (hf : f_Sf_move N a1 a2 a3 a4 a5 μ = some μ') : Ct CLS l SHX ad dA D y_Sf_move c_Sf_move 6 (none) 1 [.ref (ad 3), .int a1, .int a2, .int a3, .int a4, .int a5] μ none μ' := by
  unfold f_Sf_move at hf
  refine ct_of (by decide) hi (Nat.le_of_ble_eq_true rfl) ?_
  intro p e s m args below meth c C
  refine g_aload_n C d_Sf_move_0 rfl rfl ?_
  refine g_getR (b := 4) (k := 0) C k_Sf (by decide) fl_Sf_9 rfl rfl d_Sf_move_1 ?_
  refine g_iload_n C d_Sf_move_4 rfl rfl ?_
  refine g_bipush (v := 40) C d_Sf_move_5 (by decide) ?_
  refine g_imul C d_Sf_move_7 ?_
  refine g_iload_n C d_Sf_move_8 rfl rfl ?_
  refine g_iadd C d_Sf_move_9 ?_
  refine g_aload_n C d_Sf_move_10 rfl rfl ?_
  refine g_getR (b := 4) (k := 0) C k_Sf (by decide) fl_Sf_9 rfl rfl d_Sf_move_11 ?_
  refine g_iload_n C d_Sf_move_14 rfl rfl ?_
  refine g_bipush (v := 40) C d_Sf_move_15 (by decide) ?_
  refine g_imul C d_Sf_move_17 ?_
  refine g_iload C d_Sf_move_18 rfl ?_
  refine g_iadd C d_Sf_move_20 ?_
  refine g_iload C d_Sf_move_21 rfl ?_
  refine g_copy C rfl ac_l_Sf_23 ac_n ac_s ini_Js (by decide) (by decide) d_Sf_move_23 hf (fun hf => ?_)
  exact g_vret C d_Sf_move_26 hf
set_option maxHeartbeats 4000000 in
theorem t_Sf_sumOf_L4 {ad : Nat → Nat} {dA : Nat → ClassId} {D : va_G} {p : Program} {l : Launch} {e : Env} {s : State} {m : MethodId} {args : Array Value} {below : List Frame} {meth : Method} {c : Code} {r : Int32} {μ' : Mm} (C : Cx CLS SHX ad dA D p s m args meth c c_Sf_sumOf 4 R_Sf (some .int)) (N : Nat)   : ∀ (n : Nat) (v1 : Int32) (v2 : Int32) (v3 : Int32) (μ : Mm) (lv : Nat → Option Value), lv 0 = some (.ref (ad 3)) → lv 1 = some (.int v1) → lv 2 = some (.int v2) → lv 3 = some (.int v3) → f_Sf_sumOf_L4 N n v1 v2 v3 μ = some (r, μ') → Go CLS SHX ad dA D p l e (rmD 1) s m args below meth c 4 (some (.int r)) μ' 4 lv [] μ := by
  intro n
  induction n with
  | zero => intro v1 v2 v3 μ lv hl0 hl1 hl2 hl3 hf; cases (show none = some _ from hf)
  | succ n ih =>
    intro v1 v2 v3 μ lv hl0 hl1 hl2 hl3 hf
    unfold f_Sf_sumOf_L4 at hf
    refine g_iload_n C d_Sf_sumOf_4 rfl hl3 ?_
    refine g_aload_n C d_Sf_sumOf_5 rfl hl0 ?_
    refine g_getR (b := 5) (k := 1) C k_Sf (by decide) fl_Sf_15 rfl rfl d_Sf_sumOf_6 ?_
    refine g_iload_n C d_Sf_sumOf_9 rfl hl1 ?_
    refine g_iald C rfl d_Sf_sumOf_10 hf (fun hf => ?_)
    refine g_icmp_ge (tgt := 29) C d_Sf_sumOf_11 (by decide) hf (fun c1 hf => ?_) (fun c1 hf => ?_)
    · refine g_iload_n C d_Sf_sumOf_29 rfl hl2 ?_
      exact g_iret C d_Sf_sumOf_30 hf
    · refine g_iload_n C d_Sf_sumOf_14 rfl hl2 ?_
      refine g_aload_n C d_Sf_sumOf_15 rfl hl0 ?_
      refine g_iload_n C d_Sf_sumOf_16 rfl hl1 ?_
      refine g_iload_n C d_Sf_sumOf_17 rfl hl3 ?_
      refine g_cvI C k_Sf rfl mv_Sf_byteAt ml_Sf_29 d_Sf_sumOf_18 hf (fun r μ1 h => t_Sf_byteAt C.2.2.2.2.2.2.2.2.1 h) rfl rfl (by decide) (Nat.le_of_ble_eq_true rfl) (fun r3 μ2 hf => ?_)
      refine g_iadd C d_Sf_sumOf_21 ?_
      refine g_istore_n C d_Sf_sumOf_22 rfl (by decide) ?_
      refine g_iinc (v := 1) C d_Sf_sumOf_23 (upG hl3 rfl) (by decide) (by decide) ?_
      refine g_goto (tgt := 4) C d_Sf_sumOf_26 (by decide) ?_
      exact ih _ _ _ _ _ ((upG (upG hl0 rfl) rfl)) ((upG (upG hl1 rfl) rfl)) ((upG upS rfl)) upS hf
set_option maxHeartbeats 4000000 in
theorem t_Sf_sumOf {l : Launch} {ad : Nat → Nat} {dA : Nat → ClassId} {D : va_G} (hi : Inj SHX ad) {N : Nat} {a1 : Int32}  {μ μ' : Mm} {r : Int32} (hf : f_Sf_sumOf N a1 μ = some (r, μ')) : Ct CLS l SHX ad dA D y_Sf_sumOf c_Sf_sumOf 4 (some .int) 1 [.ref (ad 3), .int a1] μ (some (.int r)) μ' := by
  unfold f_Sf_sumOf at hf
  refine ct_of (by decide) hi (Nat.le_of_ble_eq_true rfl) ?_
  intro p e s m args below meth c C
  refine g_iconst (v := 0) C d_Sf_sumOf_0 (by decide) ?_
  refine g_istore_n C d_Sf_sumOf_1 rfl (by decide) ?_
  refine g_iconst (v := 0) C d_Sf_sumOf_2 (by decide) ?_
  refine g_istore_n C d_Sf_sumOf_3 rfl (by decide) ?_
  exact t_Sf_sumOf_L4 C N N _ _ _ _ _ ((upG (upG rfl rfl) rfl)) ((upG (upG rfl rfl) rfl)) ((upG upS rfl)) upS hf
set_option maxHeartbeats 4000000 in
theorem t_Sf_allWithin_L3 {ad : Nat → Nat} {dA : Nat → ClassId} {D : va_G} {p : Program} {l : Launch} {e : Env} {s : State} {m : MethodId} {args : Array Value} {below : List Frame} {meth : Method} {c : Code} {r : Int32} {μ' : Mm} (C : Cx CLS SHX ad dA D p s m args meth c c_Sf_allWithin 5 R_Sf (some .boolean)) (N : Nat)   : ∀ (n : Nat) (v1 : Int32) (v2 : Int32) (v3 : Int32) (v4 : Int32) (μ : Mm) (lv : Nat → Option Value), lv 0 = some (.ref (ad 3)) → lv 1 = some (.int v1) → lv 2 = some (.int v2) → lv 3 = some (.int v3) → lv 4 = some (.int v4) → f_Sf_allWithin_L3 N n v1 v2 v3 v4 μ = some (r, μ') → Go CLS SHX ad dA D p l e (rmD 1) s m args below meth c 5 (some (.int r)) μ' 3 lv [] μ := by
  intro n
  induction n with
  | zero => intro v1 v2 v3 v4 μ lv hl0 hl1 hl2 hl3 hl4 hf; cases (show none = some _ from hf)
  | succ n ih =>
    intro v1 v2 v3 v4 μ lv hl0 hl1 hl2 hl3 hl4 hf
    unfold f_Sf_allWithin_L3 at hf
    refine g_iload C d_Sf_allWithin_3 hl4 ?_
    refine g_aload_n C d_Sf_allWithin_5 rfl hl0 ?_
    refine g_getR (b := 5) (k := 1) C k_Sf (by decide) fl_Sf_15 rfl rfl d_Sf_allWithin_6 ?_
    refine g_iload_n C d_Sf_allWithin_9 rfl hl1 ?_
    refine g_iald C rfl d_Sf_allWithin_10 hf (fun hf => ?_)
    refine g_icmp_ge (tgt := 44) C d_Sf_allWithin_11 (by decide) hf (fun c1 hf => ?_) (fun c1 hf => ?_)
    · refine g_iconst (v := 1) C d_Sf_allWithin_44 (by decide) ?_
      exact g_zretc C d_Sf_allWithin_45 rfl hf
    · refine g_aload_n C d_Sf_allWithin_14 rfl hl0 ?_
      refine g_iload_n C d_Sf_allWithin_15 rfl hl1 ?_
      refine g_iload C d_Sf_allWithin_16 hl4 ?_
      refine g_cvI C k_Sf rfl mv_Sf_byteAt ml_Sf_29 d_Sf_allWithin_18 hf (fun r μ1 h => t_Sf_byteAt C.2.2.2.2.2.2.2.2.1 h) rfl rfl (by decide) (Nat.le_of_ble_eq_true rfl) (fun r3 μ2 hf => ?_)
      refine g_iload_n C d_Sf_allWithin_21 rfl hl2 ?_
      refine g_icmp_lt (tgt := 36) C d_Sf_allWithin_22 (by decide) hf (fun c4 hf => ?_) (fun c4 hf => ?_)
      · refine g_iconst (v := 0) C d_Sf_allWithin_36 (by decide) ?_
        exact g_zretc C d_Sf_allWithin_37 rfl hf
      · refine g_aload_n C d_Sf_allWithin_25 rfl hl0 ?_
        refine g_iload_n C d_Sf_allWithin_26 rfl hl1 ?_
        refine g_iload C d_Sf_allWithin_27 hl4 ?_
        refine g_cvI C k_Sf rfl mv_Sf_byteAt ml_Sf_29 d_Sf_allWithin_29 hf (fun r μ1 h => t_Sf_byteAt C.2.2.2.2.2.2.2.2.1 h) rfl rfl (by decide) (Nat.le_of_ble_eq_true rfl) (fun r6 μ5 hf => ?_)
        refine g_iload_n C d_Sf_allWithin_32 rfl hl3 ?_
        refine g_icmp_le (tgt := 38) C d_Sf_allWithin_33 (by decide) hf (fun c7 hf => ?_) (fun c7 hf => ?_)
        · refine g_iinc (v := 1) C d_Sf_allWithin_38 hl4 (by decide) (by decide) ?_
          refine g_goto (tgt := 3) C d_Sf_allWithin_41 (by decide) ?_
          exact ih _ _ _ _ _ _ ((upG hl0 rfl)) ((upG hl1 rfl)) ((upG hl2 rfl)) ((upG hl3 rfl)) upS hf
        · refine g_iconst (v := 0) C d_Sf_allWithin_36 (by decide) ?_
          exact g_zretc C d_Sf_allWithin_37 rfl hf
set_option maxHeartbeats 4000000 in
theorem t_Sf_allWithin {l : Launch} {ad : Nat → Nat} {dA : Nat → ClassId} {D : va_G} (hi : Inj SHX ad) {N : Nat} {a1 : Int32} {a2 : Int32} {a3 : Int32}  {μ μ' : Mm} {r : Int32} (hf : f_Sf_allWithin N a1 a2 a3 μ = some (r, μ')) : Ct CLS l SHX ad dA D y_Sf_allWithin c_Sf_allWithin 5 (some .boolean) 1 [.ref (ad 3), .int a1, .int a2, .int a3] μ (some (.int r)) μ' := by
  unfold f_Sf_allWithin at hf
  refine ct_of (by decide) hi (Nat.le_of_ble_eq_true rfl) ?_
  intro p e s m args below meth c C
  refine g_iconst (v := 0) C d_Sf_allWithin_0 (by decide) ?_
  refine g_istore C d_Sf_allWithin_1 (by decide) ?_
  exact t_Sf_allWithin_L3 C N N _ _ _ _ _ _ ((upG rfl rfl)) ((upG rfl rfl)) ((upG rfl rfl)) ((upG rfl rfl)) upS hf
set_option maxHeartbeats 4000000 in
theorem t_Sf_hasTwins_B31 {ad : Nat → Nat} {dA : Nat → ClassId} {D : va_G} {p : Program} {l : Launch} {e : Env} {s : State} {m : MethodId} {args : Array Value} {below : List Frame} {meth : Method} {c : Code} {r : Int32} {μ' : Mm} (C : Cx CLS SHX ad dA D p s m args meth c c_Sf_hasTwins 4 R_Sf (some .boolean)) (N : Nat)   (k2 : Int32 → Int32 → Mm → Option (Int32 × Mm)) (hk2 : ∀ (v1 : Int32) (v2 : Int32) (μ : Mm) (lv : Nat → Option Value), lv 0 = some (.ref (ad 3)) → lv 1 = some (.int v1) → lv 2 = some (.int v2) → k2 v1 v2 μ = some (r, μ') → Go CLS SHX ad dA D p l e (rmD 1) s m args below meth c 4 (some (.int r)) μ' 2 lv [] μ) : ∀ (v1 : Int32) (v2 : Int32) (s0 : Int32) (μ : Mm) (lv : Nat → Option Value), lv 0 = some (.ref (ad 3)) → lv 1 = some (.int v1) → lv 2 = some (.int v2) → f_Sf_hasTwins_B31 N k2 v1 v2 s0 μ = some (r, μ') → Go CLS SHX ad dA D p l e (rmD 1) s m args below meth c 4 (some (.int r)) μ' 31 lv [.int s0] μ := by
  intro v1 v2 s0 μ lv hl0 hl1 hl2 hf
  unfold f_Sf_hasTwins_B31 at hf
  refine g_istore_n C d_Sf_hasTwins_31 rfl (by decide) ?_
  refine g_aload_n C d_Sf_hasTwins_32 rfl (upG hl0 rfl) ?_
  refine g_iload_n C d_Sf_hasTwins_33 rfl (upG hl1 rfl) ?_
  refine g_iload_n C d_Sf_hasTwins_34 rfl (upG hl2 rfl) ?_
  refine g_cvI C k_Sf rfl mv_Sf_byteAt ml_Sf_29 d_Sf_hasTwins_35 hf (fun r μ1 h => t_Sf_byteAt C.2.2.2.2.2.2.2.2.1 h) rfl rfl (by decide) (Nat.le_of_ble_eq_true rfl) (fun r4 μ3 hf => ?_)
  refine g_aload_n C d_Sf_hasTwins_38 rfl (upG hl0 rfl) ?_
  refine g_iload_n C d_Sf_hasTwins_39 rfl (upG hl1 rfl) ?_
  refine g_iload_n C d_Sf_hasTwins_40 rfl upS ?_
  refine g_cvI C k_Sf rfl mv_Sf_byteAt ml_Sf_29 d_Sf_hasTwins_41 hf (fun r μ1 h => t_Sf_byteAt C.2.2.2.2.2.2.2.2.1 h) rfl rfl (by decide) (Nat.le_of_ble_eq_true rfl) (fun r6 μ5 hf => ?_)
  refine g_icmp_ne (tgt := 49) C d_Sf_hasTwins_44 (by decide) hf (fun c7 hf => ?_) (fun c7 hf => ?_)
  · refine g_iconst (v := 1) C d_Sf_hasTwins_47 (by decide) ?_
    exact g_zretc C d_Sf_hasTwins_48 rfl hf
  · refine g_iinc (v := 1) C d_Sf_hasTwins_49 (upG hl2 rfl) (by decide) (by decide) ?_
    refine g_goto (tgt := 2) C d_Sf_hasTwins_52 (by decide) ?_
    exact hk2 _ _ _ _ ((upG (upG hl0 rfl) rfl)) ((upG (upG hl1 rfl) rfl)) upS hf
set_option maxHeartbeats 4000000 in
theorem t_Sf_hasTwins_L2 {ad : Nat → Nat} {dA : Nat → ClassId} {D : va_G} {p : Program} {l : Launch} {e : Env} {s : State} {m : MethodId} {args : Array Value} {below : List Frame} {meth : Method} {c : Code} {r : Int32} {μ' : Mm} (C : Cx CLS SHX ad dA D p s m args meth c c_Sf_hasTwins 4 R_Sf (some .boolean)) (N : Nat)   : ∀ (n : Nat) (v1 : Int32) (v2 : Int32) (μ : Mm) (lv : Nat → Option Value), lv 0 = some (.ref (ad 3)) → lv 1 = some (.int v1) → lv 2 = some (.int v2) → f_Sf_hasTwins_L2 N n v1 v2 μ = some (r, μ') → Go CLS SHX ad dA D p l e (rmD 1) s m args below meth c 4 (some (.int r)) μ' 2 lv [] μ := by
  intro n
  induction n with
  | zero => intro v1 v2 μ lv hl0 hl1 hl2 hf; cases (show none = some _ from hf)
  | succ n ih =>
    intro v1 v2 μ lv hl0 hl1 hl2 hf
    unfold f_Sf_hasTwins_L2 at hf
    refine g_iload_n C d_Sf_hasTwins_2 rfl hl2 ?_
    refine g_aload_n C d_Sf_hasTwins_3 rfl hl0 ?_
    refine g_getR (b := 5) (k := 1) C k_Sf (by decide) fl_Sf_15 rfl rfl d_Sf_hasTwins_4 ?_
    refine g_iload_n C d_Sf_hasTwins_7 rfl hl1 ?_
    refine g_iald C rfl d_Sf_hasTwins_8 hf (fun hf => ?_)
    refine g_icmp_ge (tgt := 55) C d_Sf_hasTwins_9 (by decide) hf (fun c1 hf => ?_) (fun c1 hf => ?_)
    · refine g_iconst (v := 0) C d_Sf_hasTwins_55 (by decide) ?_
      exact g_zretc C d_Sf_hasTwins_56 rfl hf
    · refine g_iload_n C d_Sf_hasTwins_12 rfl hl2 ?_
      refine g_iconst (v := 1) C d_Sf_hasTwins_13 (by decide) ?_
      refine g_iadd C d_Sf_hasTwins_14 ?_
      refine g_aload_n C d_Sf_hasTwins_15 rfl hl0 ?_
      refine g_getR (b := 5) (k := 1) C k_Sf (by decide) fl_Sf_15 rfl rfl d_Sf_hasTwins_16 ?_
      refine g_iload_n C d_Sf_hasTwins_19 rfl hl1 ?_
      refine g_iald C rfl d_Sf_hasTwins_20 hf (fun hf => ?_)
      refine g_icmp_ge (tgt := 30) C d_Sf_hasTwins_21 (by decide) hf (fun c2 hf => ?_) (fun c2 hf => ?_)
      · refine g_iconst (v := 0) C d_Sf_hasTwins_30 (by decide) ?_
        exact t_Sf_hasTwins_B31 C N _ ih _ _ _ _ _ hl0 hl1 hl2 hf
      · refine g_iload_n C d_Sf_hasTwins_24 rfl hl2 ?_
        refine g_iconst (v := 1) C d_Sf_hasTwins_25 (by decide) ?_
        refine g_iadd C d_Sf_hasTwins_26 ?_
        refine g_goto (tgt := 31) C d_Sf_hasTwins_27 (by decide) ?_
        exact t_Sf_hasTwins_B31 C N _ ih _ _ _ _ _ hl0 hl1 hl2 hf
set_option maxHeartbeats 4000000 in
theorem t_Sf_hasTwins {l : Launch} {ad : Nat → Nat} {dA : Nat → ClassId} {D : va_G} (hi : Inj SHX ad) {N : Nat} {a1 : Int32}  {μ μ' : Mm} {r : Int32} (hf : f_Sf_hasTwins N a1 μ = some (r, μ')) : Ct CLS l SHX ad dA D y_Sf_hasTwins c_Sf_hasTwins 4 (some .boolean) 1 [.ref (ad 3), .int a1] μ (some (.int r)) μ' := by
  unfold f_Sf_hasTwins at hf
  refine ct_of (by decide) hi (Nat.le_of_ble_eq_true rfl) ?_
  intro p e s m args below meth c C
  refine g_iconst (v := 0) C d_Sf_hasTwins_0 (by decide) ?_
  refine g_istore_n C d_Sf_hasTwins_1 rfl (by decide) ?_
  exact t_Sf_hasTwins_L2 C N N _ _ _ _ ((upG rfl rfl)) ((upG rfl rfl)) upS hf
set_option maxHeartbeats 4000000 in
theorem t_Sf_present_B24 {ad : Nat → Nat} {dA : Nat → ClassId} {D : va_G} {p : Program} {l : Launch} {e : Env} {s : State} {m : MethodId} {args : Array Value} {below : List Frame} {meth : Method} {c : Code} {r : Int32} {μ' : Mm} (C : Cx CLS SHX ad dA D p s m args meth c c_Sf_present 3 R_Sf (some .int)) (N : Nat)   (k4 : Int32 → Int32 → Mm → Option (Int32 × Mm)) (hk4 : ∀ (v1 : Int32) (v2 : Int32) (μ : Mm) (lv : Nat → Option Value), lv 0 = some (.ref (ad 3)) → lv 1 = some (.int v1) → lv 2 = some (.int v2) → k4 v1 v2 μ = some (r, μ') → Go CLS SHX ad dA D p l e (rmD 1) s m args below meth c 3 (some (.int r)) μ' 4 lv [] μ) : ∀ (v2 : Int32) (s0 : Int32) (s1 : Int32) (μ : Mm) (lv : Nat → Option Value), lv 0 = some (.ref (ad 3)) → lv 2 = some (.int v2) → f_Sf_present_B24 N k4 v2 s0 s1 μ = some (r, μ') → Go CLS SHX ad dA D p l e (rmD 1) s m args below meth c 3 (some (.int r)) μ' 24 lv [.int s1, .int s0] μ := by
  intro v2 s0 s1 μ lv hl0 hl2 hf
  unfold f_Sf_present_B24 at hf
  refine g_iadd C d_Sf_present_24 ?_
  refine g_istore_n C d_Sf_present_25 rfl (by decide) ?_
  refine g_iinc (v := 1) C d_Sf_present_26 (upG hl2 rfl) (by decide) (by decide) ?_
  refine g_goto (tgt := 4) C d_Sf_present_29 (by decide) ?_
  exact hk4 _ _ _ _ ((upG (upG hl0 rfl) rfl)) ((upG upS rfl)) upS hf
set_option maxHeartbeats 4000000 in
theorem t_Sf_present_L4 {ad : Nat → Nat} {dA : Nat → ClassId} {D : va_G} {p : Program} {l : Launch} {e : Env} {s : State} {m : MethodId} {args : Array Value} {below : List Frame} {meth : Method} {c : Code} {r : Int32} {μ' : Mm} (C : Cx CLS SHX ad dA D p s m args meth c c_Sf_present 3 R_Sf (some .int)) (N : Nat)   : ∀ (n : Nat) (v1 : Int32) (v2 : Int32) (μ : Mm) (lv : Nat → Option Value), lv 0 = some (.ref (ad 3)) → lv 1 = some (.int v1) → lv 2 = some (.int v2) → f_Sf_present_L4 N n v1 v2 μ = some (r, μ') → Go CLS SHX ad dA D p l e (rmD 1) s m args below meth c 3 (some (.int r)) μ' 4 lv [] μ := by
  intro n
  induction n with
  | zero => intro v1 v2 μ lv hl0 hl1 hl2 hf; cases (show none = some _ from hf)
  | succ n ih =>
    intro v1 v2 μ lv hl0 hl1 hl2 hf
    unfold f_Sf_present_L4 at hf
    refine g_iload_n C d_Sf_present_4 rfl hl2 ?_
    refine g_bipush (v := 8) C d_Sf_present_5 (by decide) ?_
    refine g_icmp_ge (tgt := 32) C d_Sf_present_7 (by decide) hf (fun c1 hf => ?_) (fun c1 hf => ?_)
    · refine g_iload_n C d_Sf_present_32 rfl hl1 ?_
      exact g_iret C d_Sf_present_33 hf
    · refine g_iload_n C d_Sf_present_10 rfl hl1 ?_
      refine g_aload_n C d_Sf_present_11 rfl hl0 ?_
      refine g_iload_n C d_Sf_present_12 rfl hl2 ?_
      refine g_cvI C k_Sf rfl mv_Sf_lacks ml_Sf_33 d_Sf_present_13 hf (fun r μ1 h => t_Sf_lacks C.2.2.2.2.2.2.2.2.1 h) rfl rfl (by decide) (Nat.le_of_ble_eq_true rfl) (fun r3 μ2 hf => ?_)
      refine g_if_eq (tgt := 23) C d_Sf_present_16 (by decide) hf (fun c4 hf => ?_) (fun c4 hf => ?_)
      · refine g_iconst (v := 1) C d_Sf_present_23 (by decide) ?_
        exact t_Sf_present_B24 C N _ ih _ _ _ _ _ hl0 hl2 hf
      · refine g_iconst (v := 0) C d_Sf_present_19 (by decide) ?_
        refine g_goto (tgt := 24) C d_Sf_present_20 (by decide) ?_
        exact t_Sf_present_B24 C N _ ih _ _ _ _ _ hl0 hl2 hf
set_option maxHeartbeats 4000000 in
theorem t_Sf_present {l : Launch} {ad : Nat → Nat} {dA : Nat → ClassId} {D : va_G} (hi : Inj SHX ad) {N : Nat}   {μ μ' : Mm} {r : Int32} (hf : f_Sf_present N  μ = some (r, μ')) : Ct CLS l SHX ad dA D y_Sf_present c_Sf_present 3 (some .int) 1 [.ref (ad 3)] μ (some (.int r)) μ' := by
  unfold f_Sf_present at hf
  refine ct_of (by decide) hi (Nat.le_of_ble_eq_true rfl) ?_
  intro p e s m args below meth c C
  refine g_iconst (v := 0) C d_Sf_present_0 (by decide) ?_
  refine g_istore_n C d_Sf_present_1 rfl (by decide) ?_
  refine g_iconst (v := 0) C d_Sf_present_2 (by decide) ?_
  refine g_istore_n C d_Sf_present_3 rfl (by decide) ?_
  exact t_Sf_present_L4 C N N _ _ _ _ ((upG (upG rfl rfl) rfl)) ((upG upS rfl)) upS hf
set_option maxHeartbeats 4000000 in
theorem t_Sf_mixInto_B64 {ad : Nat → Nat} {dA : Nat → ClassId} {D : va_G} {p : Program} {l : Launch} {e : Env} {s : State} {m : MethodId} {args : Array Value} {below : List Frame} {meth : Method} {c : Code} {r : Int64} {μ' : Mm} (C : Cx CLS SHX ad dA D p s m args meth c c_Sf_mixInto 7 R_Sf (some .long)) (N : Nat)   (k5 : Int64 → Int32 → Mm → Option (Int64 × Mm)) (hk5 : ∀ (v3 : Int64) (v5 : Int32) (μ : Mm) (lv : Nat → Option Value), lv 0 = some (.ref (ad 3)) → lv 3 = some (.long v3) → lv 5 = some (.int v5) → k5 v3 v5 μ = some (r, μ') → Go CLS SHX ad dA D p l e (rmD 1) s m args below meth c 7 (some (.long r)) μ' 5 lv [] μ) : ∀ (v3 : Int64) (v5 : Int32) (μ : Mm) (lv : Nat → Option Value), lv 0 = some (.ref (ad 3)) → lv 3 = some (.long v3) → lv 5 = some (.int v5) → f_Sf_mixInto_B64 N k5 v3 v5 μ = some (r, μ') → Go CLS SHX ad dA D p l e (rmD 1) s m args below meth c 7 (some (.long r)) μ' 64 lv [] μ := by
  intro v3 v5 μ lv hl0 hl3 hl5 hf
  unfold f_Sf_mixInto_B64 at hf
  refine g_iinc (v := 1) C d_Sf_mixInto_64 hl5 (by decide) (by decide) ?_
  refine g_goto (tgt := 5) C d_Sf_mixInto_67 (by decide) ?_
  exact hk5 _ _ _ _ ((upG hl0 rfl)) ((upG hl3 rfl)) upS hf
set_option maxHeartbeats 4000000 in
theorem t_Sf_mixInto_L30 {ad : Nat → Nat} {dA : Nat → ClassId} {D : va_G} {p : Program} {l : Launch} {e : Env} {s : State} {m : MethodId} {args : Array Value} {below : List Frame} {meth : Method} {c : Code} {r : Int64} {μ' : Mm} (C : Cx CLS SHX ad dA D p s m args meth c c_Sf_mixInto 7 R_Sf (some .long)) (N : Nat)   (k5 : Int64 → Int32 → Mm → Option (Int64 × Mm)) (hk5 : ∀ (v3 : Int64) (v5 : Int32) (μ : Mm) (lv : Nat → Option Value), lv 0 = some (.ref (ad 3)) → lv 3 = some (.long v3) → lv 5 = some (.int v5) → k5 v3 v5 μ = some (r, μ') → Go CLS SHX ad dA D p l e (rmD 1) s m args below meth c 7 (some (.long r)) μ' 5 lv [] μ) : ∀ (n : Nat) (v3 : Int64) (v5 : Int32) (v6 : Int32) (μ : Mm) (lv : Nat → Option Value), lv 0 = some (.ref (ad 3)) → lv 3 = some (.long v3) → lv 5 = some (.int v5) → lv 6 = some (.int v6) → f_Sf_mixInto_L30 N k5 n v3 v5 v6 μ = some (r, μ') → Go CLS SHX ad dA D p l e (rmD 1) s m args below meth c 7 (some (.long r)) μ' 30 lv [] μ := by
  intro n
  induction n with
  | zero => intro v3 v5 v6 μ lv hl0 hl3 hl5 hl6 hf; cases (show none = some _ from hf)
  | succ n ih =>
    intro v3 v5 v6 μ lv hl0 hl3 hl5 hl6 hf
    unfold f_Sf_mixInto_L30 at hf
    refine g_iload C d_Sf_mixInto_30 hl6 ?_
    refine g_aload_n C d_Sf_mixInto_32 rfl hl0 ?_
    refine g_getR (b := 5) (k := 1) C k_Sf (by decide) fl_Sf_15 rfl rfl d_Sf_mixInto_33 ?_
    refine g_iload C d_Sf_mixInto_36 hl5 ?_
    refine g_iald C rfl d_Sf_mixInto_38 hf (fun hf => ?_)
    refine g_icmp_ge (tgt := 64) C d_Sf_mixInto_39 (by decide) hf (fun c3 hf => ?_) (fun c3 hf => ?_)
    · exact t_Sf_mixInto_B64 C N _ hk5 _ _ _ _ hl0 hl3 hl5 hf
    · refine g_ldc2 C cl_Sf_37 d_Sf_mixInto_42 ?_
      refine g_lload_n C d_Sf_mixInto_45 rfl hl3 ?_
      refine g_lmul C d_Sf_mixInto_46 ?_
      refine g_aload_n C d_Sf_mixInto_47 rfl hl0 ?_
      refine g_iload C d_Sf_mixInto_48 hl5 ?_
      refine g_iload C d_Sf_mixInto_50 hl6 ?_
      refine g_cvI C k_Sf rfl mv_Sf_byteAt ml_Sf_29 d_Sf_mixInto_52 hf (fun r μ1 h => t_Sf_byteAt C.2.2.2.2.2.2.2.2.1 h) rfl rfl (by decide) (Nat.le_of_ble_eq_true rfl) (fun r5 μ4 hf => ?_)
      refine g_i2l C d_Sf_mixInto_55 ?_
      refine g_ladd C d_Sf_mixInto_56 ?_
      refine g_lstore_n C d_Sf_mixInto_57 rfl (by decide) ?_
      refine g_iinc (v := 1) C d_Sf_mixInto_58 (upG hl6 rfl) (by decide) (by decide) ?_
      refine g_goto (tgt := 30) C d_Sf_mixInto_61 (by decide) ?_
      exact ih _ _ _ _ _ ((upG (upG hl0 rfl) rfl)) ((upG upS rfl)) ((upG (upG hl5 rfl) rfl)) upS hf
set_option maxHeartbeats 4000000 in
theorem t_Sf_mixInto_L5 {ad : Nat → Nat} {dA : Nat → ClassId} {D : va_G} {p : Program} {l : Launch} {e : Env} {s : State} {m : MethodId} {args : Array Value} {below : List Frame} {meth : Method} {c : Code} {r : Int64} {μ' : Mm} (C : Cx CLS SHX ad dA D p s m args meth c c_Sf_mixInto 7 R_Sf (some .long)) (N : Nat)   : ∀ (n : Nat) (v3 : Int64) (v5 : Int32) (μ : Mm) (lv : Nat → Option Value), lv 0 = some (.ref (ad 3)) → lv 3 = some (.long v3) → lv 5 = some (.int v5) → f_Sf_mixInto_L5 N n v3 v5 μ = some (r, μ') → Go CLS SHX ad dA D p l e (rmD 1) s m args below meth c 7 (some (.long r)) μ' 5 lv [] μ := by
  intro n
  induction n with
  | zero => intro v3 v5 μ lv hl0 hl3 hl5 hf; cases (show none = some _ from hf)
  | succ n ih =>
    intro v3 v5 μ lv hl0 hl3 hl5 hf
    unfold f_Sf_mixInto_L5 at hf
    refine g_iload C d_Sf_mixInto_5 hl5 ?_
    refine g_bipush (v := 8) C d_Sf_mixInto_7 (by decide) ?_
    refine g_icmp_ge (tgt := 70) C d_Sf_mixInto_9 (by decide) hf (fun c1 hf => ?_) (fun c1 hf => ?_)
    · refine g_lload_n C d_Sf_mixInto_70 rfl hl3 ?_
      exact g_lret C d_Sf_mixInto_71 hf
    · refine g_ldc2 C cl_Sf_37 d_Sf_mixInto_12 ?_
      refine g_lload_n C d_Sf_mixInto_15 rfl hl3 ?_
      refine g_lmul C d_Sf_mixInto_16 ?_
      refine g_aload_n C d_Sf_mixInto_17 rfl hl0 ?_
      refine g_getR (b := 5) (k := 1) C k_Sf (by decide) fl_Sf_15 rfl rfl d_Sf_mixInto_18 ?_
      refine g_iload C d_Sf_mixInto_21 hl5 ?_
      refine g_iald C rfl d_Sf_mixInto_23 hf (fun hf => ?_)
      refine g_i2l C d_Sf_mixInto_24 ?_
      refine g_ladd C d_Sf_mixInto_25 ?_
      refine g_lstore_n C d_Sf_mixInto_26 rfl (by decide) ?_
      refine g_iconst (v := 0) C d_Sf_mixInto_27 (by decide) ?_
      refine g_istore C d_Sf_mixInto_28 (by decide) ?_
      exact t_Sf_mixInto_L30 C N _ ih N _ _ _ _ _ ((upG (upG hl0 rfl) rfl)) ((upG upS rfl)) ((upG (upG hl5 rfl) rfl)) upS hf
set_option maxHeartbeats 4000000 in
theorem t_Sf_mixInto {l : Launch} {ad : Nat → Nat} {dA : Nat → ClassId} {D : va_G} (hi : Inj SHX ad) {N : Nat} {a1 : Int64}  {μ μ' : Mm} {r : Int64} (hf : f_Sf_mixInto N a1 μ = some (r, μ')) : Ct CLS l SHX ad dA D y_Sf_mixInto c_Sf_mixInto 7 (some .long) 1 [.ref (ad 3), .long a1] μ (some (.long r)) μ' := by
  unfold f_Sf_mixInto at hf
  refine ct_of (by decide) hi (Nat.le_of_ble_eq_true rfl) ?_
  intro p e s m args below meth c C
  refine g_lload_n C d_Sf_mixInto_0 rfl rfl ?_
  refine g_lstore_n C d_Sf_mixInto_1 rfl (by decide) ?_
  refine g_iconst (v := 0) C d_Sf_mixInto_2 (by decide) ?_
  refine g_istore C d_Sf_mixInto_3 (by decide) ?_
  exact t_Sf_mixInto_L5 C N N _ _ _ _ ((upG (upG rfl rfl) rfl)) ((upG upS rfl)) upS hf
