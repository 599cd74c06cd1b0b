set_option maxHeartbeats 4000000 in
theorem t_W_watchPost {l : Launch} {ad : Nat → Nat} {dA : Nat → ClassId} {D : va_G} (hi : Inj SHX ad) {N : Nat} {a1 : Int32} {a2 : Int32}  {μ μ' : Mm} {r : Int32} (hf : f_W_watchPost N a1 a2 μ = some (r, μ')) : Ct CLS l SHX ad dA D y_W_watchPost c_W_watchPost 3 (some .int) 5 [.ref (ad 0), .int a1, .int a2] μ (some (.int r)) μ' := by
  unfold f_W_watchPost at hf
  refine ct_of (by decide) hi (Nat.le_of_ble_eq_true rfl) ?_
  intro p e s m args below meth c C
  refine g_aload_n C d_W_watchPost_0 rfl rfl ?_
  refine g_getR (b := 6) (k := 2) C k_W (by decide) fl_W_26 rfl rfl d_W_watchPost_1 ?_
  refine g_iload_n C d_W_watchPost_4 rfl rfl ?_
  refine g_cvI C k_Gr rfl mv_Gr_has ml_W_125 d_W_watchPost_5 hf (fun r μ1 h => t_Gr_has C.2.2.2.2.2.2.2.2.1 h) rfl rfl (by decide) (Nat.le_of_ble_eq_true rfl) (fun r2 μ1 hf => ?_)
  refine g_if_ne (tgt := 13) C d_W_watchPost_8 (by decide) hf (fun c3 hf => ?_) (fun c3 hf => ?_)
  · refine g_iconst (v := -1) C d_W_watchPost_11 (by decide) ?_
    exact g_iret C d_W_watchPost_12 hf
  · refine g_aload_n C d_W_watchPost_13 rfl rfl ?_
    refine g_getR (b := 11) (k := 3) C k_W (by decide) fl_W_35 rfl rfl d_W_watchPost_14 ?_
    refine g_cvV C k_Cr rfl mv_Cr_refresh ml_W_181 d_W_watchPost_17 hf (fun μ1 h => t_Cr_refresh C.2.2.2.2.2.2.2.2.1 h) rfl rfl (by decide) (Nat.le_of_ble_eq_true rfl) (fun μ4 hf => ?_)
    refine g_aload_n C d_W_watchPost_20 rfl rfl ?_
    refine g_getR (b := 11) (k := 3) C k_W (by decide) fl_W_35 rfl rfl d_W_watchPost_21 ?_
    refine g_aload_n C d_W_watchPost_24 rfl rfl ?_
    refine g_getR (b := 11) (k := 3) C k_W (by decide) fl_W_35 rfl rfl d_W_watchPost_25 ?_
    refine g_getI (k := 2) C k_Cr (by decide) fl_W_226 rfl rfl d_W_watchPost_28 ?_
    refine g_cvI C k_Cr rfl mv_Cr_jointOf ml_W_229 d_W_watchPost_31 hf (fun r μ1 h => t_Cr_jointOf C.2.2.2.2.2.2.2.2.1 h) rfl rfl (by decide) (Nat.le_of_ble_eq_true rfl) (fun r6 μ5 hf => ?_)
    refine g_iconst (v := 1) C d_W_watchPost_34 (by decide) ?_
    refine g_icmp_ge (tgt := 41) C d_W_watchPost_35 (by decide) hf (fun c7 hf => ?_) (fun c7 hf => ?_)
    · refine g_aload_n C d_W_watchPost_41 rfl rfl ?_
      refine g_getR (b := 61) (k := 4) C k_W (by decide) fl_W_44 rfl rfl d_W_watchPost_42 ?_
      refine g_aload_n C d_W_watchPost_45 rfl rfl ?_
      refine g_getR (b := 11) (k := 3) C k_W (by decide) fl_W_35 rfl rfl d_W_watchPost_46 ?_
      refine g_getI (k := 2) C k_Cr (by decide) fl_W_226 rfl rfl d_W_watchPost_49 ?_
      refine g_iconst (v := 1) C d_W_watchPost_52 (by decide) ?_
      refine g_iload_n C d_W_watchPost_53 rfl rfl ?_
      refine g_ishl C d_W_watchPost_54 ?_
      refine g_iload_n C d_W_watchPost_55 rfl rfl ?_
      refine g_cvV C k_Wa rfl mv_Wa_look ml_W_259 d_W_watchPost_56 hf (fun μ1 h => t_Wa_look C.2.2.2.2.2.2.2.2.1 h) rfl rfl (by decide) (Nat.le_of_ble_eq_true rfl) (fun μ8 hf => ?_)
      refine g_iconst (v := 0) C d_W_watchPost_59 (by decide) ?_
      exact g_iret C d_W_watchPost_60 hf
    · refine g_bipush (v := -6) C d_W_watchPost_38 (by decide) ?_
      exact g_iret C d_W_watchPost_40 hf
set_option maxHeartbeats 4000000 in
theorem t_W_idle {l : Launch} {ad : Nat → Nat} {dA : Nat → ClassId} {D : va_G} (hi : Inj SHX ad) {N : Nat} {a1 : Int32}  {μ μ' : Mm} {r : Int32} (hf : f_W_idle N a1 μ = some (r, μ')) : Ct CLS l SHX ad dA D y_W_idle c_W_idle 3 (some .int) 6 [.ref (ad 0), .int a1] μ (some (.int r)) μ' := by
  unfold f_W_idle at hf
  refine ct_of (by decide) hi (Nat.le_of_ble_eq_true rfl) ?_
  intro p e s m args below meth c C
  refine g_aload_n C d_W_idle_0 rfl rfl ?_
  refine g_iload_n C d_W_idle_1 rfl rfl ?_
  refine g_iconst (v := 1) C d_W_idle_2 (by decide) ?_
  refine g_cvI C k_W rfl mv_W_watchPost ml_W_247 d_W_idle_3 hf (fun r μ1 h => t_W_watchPost C.2.2.2.2.2.2.2.2.1 h) rfl rfl (by decide) (Nat.le_of_ble_eq_true rfl) (fun r2 μ1 hf => ?_)
  refine g_istore_n C d_W_idle_6 rfl (by decide) ?_
  refine g_iload_n C d_W_idle_7 rfl upS ?_
  refine g_if_ge (tgt := 15) C d_W_idle_8 (by decide) hf (fun c3 hf => ?_) (fun c3 hf => ?_)
  · refine g_aload_n C d_W_idle_15 rfl (upG rfl rfl) ?_
    refine g_getR (b := 61) (k := 4) C k_W (by decide) fl_W_44 rfl rfl d_W_idle_16 ?_
    refine g_iload_n C d_W_idle_19 rfl (upG rfl rfl) ?_
    refine g_cvI C k_Wa rfl mv_Wa_idleOf ml_W_250 d_W_idle_20 hf (fun r μ1 h => t_Wa_idleOf C.2.2.2.2.2.2.2.2.1 h) rfl rfl (by decide) (Nat.le_of_ble_eq_true rfl) (fun r5 μ4 hf => ?_)
    exact g_iret C d_W_idle_23 hf
  · refine g_iload_n C d_W_idle_11 rfl upS ?_
    refine g_goto (tgt := 23) C d_W_idle_12 (by decide) ?_
    exact g_iret C d_W_idle_23 hf
set_option maxHeartbeats 4000000 in
theorem t_W_idleFrom {l : Launch} {ad : Nat → Nat} {dA : Nat → ClassId} {D : va_G} (hi : Inj SHX ad) {N : Nat} {a1 : Int32}  {μ μ' : Mm} {r : Int32} (hf : f_W_idleFrom N a1 μ = some (r, μ')) : Ct CLS l SHX ad dA D y_W_idleFrom c_W_idleFrom 3 (some .int) 6 [.ref (ad 0), .int a1] μ (some (.int r)) μ' := by
  unfold f_W_idleFrom at hf
  refine ct_of (by decide) hi (Nat.le_of_ble_eq_true rfl) ?_
  intro p e s m args below meth c C
  refine g_aload_n C d_W_idleFrom_0 rfl rfl ?_
  refine g_iload_n C d_W_idleFrom_1 rfl rfl ?_
  refine g_iconst (v := 1) C d_W_idleFrom_2 (by decide) ?_
  refine g_cvI C k_W rfl mv_W_watchPost ml_W_247 d_W_idleFrom_3 hf (fun r μ1 h => t_W_watchPost C.2.2.2.2.2.2.2.2.1 h) rfl rfl (by decide) (Nat.le_of_ble_eq_true rfl) (fun r2 μ1 hf => ?_)
  refine g_istore_n C d_W_idleFrom_6 rfl (by decide) ?_
  refine g_iload_n C d_W_idleFrom_7 rfl upS ?_
  refine g_if_ge (tgt := 15) C d_W_idleFrom_8 (by decide) hf (fun c3 hf => ?_) (fun c3 hf => ?_)
  · refine g_aload_n C d_W_idleFrom_15 rfl (upG rfl rfl) ?_
    refine g_getR (b := 61) (k := 4) C k_W (by decide) fl_W_44 rfl rfl d_W_idleFrom_16 ?_
    refine g_iload_n C d_W_idleFrom_19 rfl (upG rfl rfl) ?_
    refine g_cvI C k_Wa rfl mv_Wa_idleStartOf ml_W_253 d_W_idleFrom_20 hf (fun r μ1 h => t_Wa_idleStartOf C.2.2.2.2.2.2.2.2.1 h) rfl rfl (by decide) (Nat.le_of_ble_eq_true rfl) (fun r5 μ4 hf => ?_)
    exact g_iret C d_W_idleFrom_23 hf
  · refine g_iload_n C d_W_idleFrom_11 rfl upS ?_
    refine g_goto (tgt := 23) C d_W_idleFrom_12 (by decide) ?_
    exact g_iret C d_W_idleFrom_23 hf
set_option maxHeartbeats 4000000 in
theorem t_W_worst {l : Launch} {ad : Nat → Nat} {dA : Nat → ClassId} {D : va_G} (hi : Inj SHX ad) {N : Nat}   {μ μ' : Mm} {r : Int32} (hf : f_W_worst N  μ = some (r, μ')) : Ct CLS l SHX ad dA D y_W_worst c_W_worst 2 (some .int) 6 [.ref (ad 0)] μ (some (.int r)) μ' := by
  unfold f_W_worst at hf
  refine ct_of (by decide) hi (Nat.le_of_ble_eq_true rfl) ?_
  intro p e s m args below meth c C
  refine g_aload_n C d_W_worst_0 rfl rfl ?_
  refine g_cvI C k_W rfl mv_W_joint ml_W_232 d_W_worst_1 hf (fun r μ1 h => t_W_joint C.2.2.2.2.2.2.2.2.1 h) rfl rfl (by decide) (Nat.le_of_ble_eq_true rfl) (fun r2 μ1 hf => ?_)
  refine g_iconst (v := 1) C d_W_worst_4 (by decide) ?_
  refine g_icmp_ge (tgt := 11) C d_W_worst_5 (by decide) hf (fun c3 hf => ?_) (fun c3 hf => ?_)
  · refine g_aload_n C d_W_worst_11 rfl rfl ?_
    refine g_getR (b := 61) (k := 4) C k_W (by decide) fl_W_44 rfl rfl d_W_worst_12 ?_
    refine g_aload_n C d_W_worst_15 rfl rfl ?_
    refine g_getR (b := 11) (k := 3) C k_W (by decide) fl_W_35 rfl rfl d_W_worst_16 ?_
    refine g_getI (k := 2) C k_Cr (by decide) fl_W_226 rfl rfl d_W_worst_19 ?_
    refine g_aload_n C d_W_worst_22 rfl rfl ?_
    refine g_getR (b := 6) (k := 2) C k_W (by decide) fl_W_26 rfl rfl d_W_worst_23 ?_
    refine g_cvI C k_Gr rfl mv_Gr_worthy ml_W_256 d_W_worst_26 hf (fun r μ1 h => t_Gr_worthy C.2.2.2.2.2.2.2.2.1 h) rfl rfl (by decide) (Nat.le_of_ble_eq_true rfl) (fun r5 μ4 hf => ?_)
    refine g_iconst (v := 1) C d_W_worst_29 (by decide) ?_
    refine g_cvV C k_Wa rfl mv_Wa_look ml_W_259 d_W_worst_30 hf (fun μ1 h => t_Wa_look C.2.2.2.2.2.2.2.2.1 h) rfl rfl (by decide) (Nat.le_of_ble_eq_true rfl) (fun μ6 hf => ?_)
    refine g_aload_n C d_W_worst_33 rfl rfl ?_
    refine g_getR (b := 61) (k := 4) C k_W (by decide) fl_W_44 rfl rfl d_W_worst_34 ?_
    refine g_cvI C k_Wa rfl mv_Wa_worstPost ml_W_262 d_W_worst_37 hf (fun r μ1 h => t_Wa_worstPost C.2.2.2.2.2.2.2.2.1 h) rfl rfl (by decide) (Nat.le_of_ble_eq_true rfl) (fun r8 μ7 hf => ?_)
    refine g_istore_n C d_W_worst_40 rfl (by decide) ?_
    refine g_iload_n C d_W_worst_41 rfl upS ?_
    refine g_if_lt (tgt := 60) C d_W_worst_42 (by decide) hf (fun c9 hf => ?_) (fun c9 hf => ?_)
    · refine g_iload_n C d_W_worst_60 rfl upS ?_
      exact g_iret C d_W_worst_61 hf
    · refine g_aload_n C d_W_worst_45 rfl (upG rfl rfl) ?_
      refine g_getR (b := 1) (k := 0) C k_W (by decide) fl_W_10 rfl rfl d_W_worst_46 ?_
      refine g_aload_n C d_W_worst_49 rfl (upG rfl rfl) ?_
      refine g_getR (b := 61) (k := 4) C k_W (by decide) fl_W_44 rfl rfl d_W_worst_50 ?_
      refine g_iload_n C d_W_worst_53 rfl upS ?_
      refine g_cvI C k_Wa rfl mv_Wa_loadOf ml_W_265 d_W_worst_54 hf (fun r μ1 h => t_Wa_loadOf C.2.2.2.2.2.2.2.2.1 h) rfl rfl (by decide) (Nat.le_of_ble_eq_true rfl) (fun r11 μ10 hf => ?_)
      refine g_putI (k := 2) C k_Ta (by decide) fl_W_239 rfl rfl rfl rfl d_W_worst_57 ?_
      refine g_iload_n C d_W_worst_60 rfl upS ?_
      exact g_iret C d_W_worst_61 hf
  · refine g_bipush (v := -6) C d_W_worst_8 (by decide) ?_
    exact g_iret C d_W_worst_10 hf
set_option maxHeartbeats 4000000 in
theorem t_W_share {l : Launch} {ad : Nat → Nat} {dA : Nat → ClassId} {D : va_G} (hi : Inj SHX ad) {N : Nat} {a1 : Int32}  {μ μ' : Mm} {r : Int32} (hf : f_W_share N a1 μ = some (r, μ')) : Ct CLS l SHX ad dA D y_W_share c_W_share 3 (some .int) 6 [.ref (ad 0), .int a1] μ (some (.int r)) μ' := by
  unfold f_W_share at hf
  refine ct_of (by decide) hi (Nat.le_of_ble_eq_true rfl) ?_
  intro p e s m args below meth c C
  refine g_aload_n C d_W_share_0 rfl rfl ?_
  refine g_iload_n C d_W_share_1 rfl rfl ?_
  refine g_iconst (v := 1) C d_W_share_2 (by decide) ?_
  refine g_cvI C k_W rfl mv_W_watchPost ml_W_247 d_W_share_3 hf (fun r μ1 h => t_W_watchPost C.2.2.2.2.2.2.2.2.1 h) rfl rfl (by decide) (Nat.le_of_ble_eq_true rfl) (fun r2 μ1 hf => ?_)
  refine g_istore_n C d_W_share_6 rfl (by decide) ?_
  refine g_iload_n C d_W_share_7 rfl upS ?_
  refine g_if_ge (tgt := 13) C d_W_share_8 (by decide) hf (fun c3 hf => ?_) (fun c3 hf => ?_)
  · refine g_aload_n C d_W_share_13 rfl (upG rfl rfl) ?_
    refine g_getR (b := 1) (k := 0) C k_W (by decide) fl_W_10 rfl rfl d_W_share_14 ?_
    refine g_aload_n C d_W_share_17 rfl (upG rfl rfl) ?_
    refine g_getR (b := 61) (k := 4) C k_W (by decide) fl_W_44 rfl rfl d_W_share_18 ?_
    refine g_getI (k := 0) C k_Wa (by decide) fl_W_268 rfl rfl d_W_share_21 ?_
    refine g_aload_n C d_W_share_24 rfl (upG rfl rfl) ?_
    refine g_getR (b := 61) (k := 4) C k_W (by decide) fl_W_44 rfl rfl d_W_share_25 ?_
    refine g_iload_n C d_W_share_28 rfl (upG rfl rfl) ?_
    refine g_cvI C k_Wa rfl mv_Wa_unseenOf ml_W_270 d_W_share_29 hf (fun r μ1 h => t_Wa_unseenOf C.2.2.2.2.2.2.2.2.1 h) rfl rfl (by decide) (Nat.le_of_ble_eq_true rfl) (fun r5 μ4 hf => ?_)
    refine g_isub C d_W_share_32 ?_
    refine g_i2l C d_W_share_33 ?_
    refine g_aload_n C d_W_share_34 rfl (upG rfl rfl) ?_
    refine g_getR (b := 61) (k := 4) C k_W (by decide) fl_W_44 rfl rfl d_W_share_35 ?_
    refine g_getI (k := 0) C k_Wa (by decide) fl_W_268 rfl rfl d_W_share_38 ?_
    refine g_i2l C d_W_share_41 ?_
    refine g_cvV C k_Ta rfl mv_Ta_tellFraction ml_W_273 d_W_share_42 hf (fun μ1 h => t_Ta_tellFraction C.2.2.2.2.2.2.2.2.1 h) rfl rfl (by decide) (Nat.le_of_ble_eq_true rfl) (fun μ6 hf => ?_)
    refine g_iconst (v := 1) C d_W_share_45 (by decide) ?_
    exact g_iret C d_W_share_46 hf
  · refine g_iload_n C d_W_share_11 rfl upS ?_
    exact g_iret C d_W_share_12 hf
set_option maxHeartbeats 4000000 in
theorem t_W_isNeed {l : Launch} {ad : Nat → Nat} {dA : Nat → ClassId} {D : va_G} (hi : Inj SHX ad) {N : Nat} {a1 : Int32}  {μ μ' : Mm} {r : Int32} (hf : f_W_isNeed N a1 μ = some (r, μ')) : Ct CLS l SHX ad dA D y_W_isNeed c_W_isNeed 1 (some .boolean) 0 [.int a1] μ (some (.int r)) μ' := by
  unfold f_W_isNeed at hf
  refine ct_of (by decide) hi (Nat.le_of_ble_eq_true rfl) ?_
  intro p e s m args below meth c C
  refine g_iload_n C d_W_isNeed_0 rfl rfl ?_
  refine g_iconst (v := 1) C d_W_isNeed_1 (by decide) ?_
  refine g_icmp_lt (tgt := 16) C d_W_isNeed_2 (by decide) hf (fun c1 hf => ?_) (fun c1 hf => ?_)
  · refine g_iconst (v := 0) C d_W_isNeed_16 (by decide) ?_
    exact g_zretc C d_W_isNeed_17 rfl hf
  · refine g_iload_n C d_W_isNeed_5 rfl rfl ?_
    refine g_sipush (v := 14400) C d_W_isNeed_6 (by decide) ?_
    refine g_icmp_gt (tgt := 16) C d_W_isNeed_9 (by decide) hf (fun c2 hf => ?_) (fun c2 hf => ?_)
    · refine g_iconst (v := 0) C d_W_isNeed_16 (by decide) ?_
      exact g_zretc C d_W_isNeed_17 rfl hf
    · refine g_iconst (v := 1) C d_W_isNeed_12 (by decide) ?_
      refine g_goto (tgt := 17) C d_W_isNeed_13 (by decide) ?_
      exact g_zretc C d_W_isNeed_17 rfl hf
set_option maxHeartbeats 4000000 in
theorem t_W_chance {l : Launch} {ad : Nat → Nat} {dA : Nat → ClassId} {D : va_G} (hi : Inj SHX ad) {N : Nat} {a1 : Int32} {a2 : Int32}  {μ μ' : Mm} {r : Int32} (hf : f_W_chance N a1 a2 μ = some (r, μ')) : Ct CLS l SHX ad dA D y_W_chance c_W_chance 4 (some .int) 6 [.ref (ad 0), .int a1, .int a2] μ (some (.int r)) μ' := by
  unfold f_W_chance at hf
  refine ct_of (by decide) hi (Nat.le_of_ble_eq_true rfl) ?_
  intro p e s m args below meth c C
  refine g_iload_n C d_W_chance_0 rfl rfl ?_
  refine g_csI C mv_W_isNeed ml_W_277 d_W_chance_1 hf (fun r μ1 h => t_W_isNeed C.2.2.2.2.2.2.2.2.1 h) rfl rfl (by decide) (Nat.le_of_ble_eq_true rfl) (fun r2 μ1 hf => ?_)
  refine g_if_ne (tgt := 9) C d_W_chance_4 (by decide) hf (fun c3 hf => ?_) (fun c3 hf => ?_)
  · refine g_iconst (v := -1) C d_W_chance_7 (by decide) ?_
    exact g_iret C d_W_chance_8 hf
  · refine g_aload_n C d_W_chance_9 rfl rfl ?_
    refine g_iload_n C d_W_chance_10 rfl rfl ?_
    refine g_iload_n C d_W_chance_11 rfl rfl ?_
    refine g_cvI C k_W rfl mv_W_watchPost ml_W_247 d_W_chance_12 hf (fun r μ1 h => t_W_watchPost C.2.2.2.2.2.2.2.2.1 h) rfl rfl (by decide) (Nat.le_of_ble_eq_true rfl) (fun r5 μ4 hf => ?_)
    refine g_istore_n C d_W_chance_15 rfl (by decide) ?_
    refine g_iload_n C d_W_chance_16 rfl upS ?_
    refine g_if_ge (tgt := 22) C d_W_chance_17 (by decide) hf (fun c6 hf => ?_) (fun c6 hf => ?_)
    · refine g_aload_n C d_W_chance_22 rfl (upG rfl rfl) ?_
      refine g_getR (b := 1) (k := 0) C k_W (by decide) fl_W_10 rfl rfl d_W_chance_23 ?_
      refine g_aload_n C d_W_chance_26 rfl (upG rfl rfl) ?_
      refine g_getR (b := 61) (k := 4) C k_W (by decide) fl_W_44 rfl rfl d_W_chance_27 ?_
      refine g_iload_n C d_W_chance_30 rfl (upG rfl rfl) ?_
      refine g_cvI C k_Wa rfl mv_Wa_openingsOf ml_W_280 d_W_chance_31 hf (fun r μ1 h => t_Wa_openingsOf C.2.2.2.2.2.2.2.2.1 h) rfl rfl (by decide) (Nat.le_of_ble_eq_true rfl) (fun r8 μ7 hf => ?_)
      refine g_i2l C d_W_chance_34 ?_
      refine g_aload_n C d_W_chance_35 rfl (upG rfl rfl) ?_
      refine g_getR (b := 61) (k := 4) C k_W (by decide) fl_W_44 rfl rfl d_W_chance_36 ?_
      refine g_getI (k := 0) C k_Wa (by decide) fl_W_268 rfl rfl d_W_chance_39 ?_
      refine g_i2l C d_W_chance_42 ?_
      refine g_cvV C k_Ta rfl mv_Ta_tellFraction ml_W_273 d_W_chance_43 hf (fun μ1 h => t_Ta_tellFraction C.2.2.2.2.2.2.2.2.1 h) rfl rfl (by decide) (Nat.le_of_ble_eq_true rfl) (fun μ9 hf => ?_)
      refine g_iconst (v := 1) C d_W_chance_46 (by decide) ?_
      exact g_iret C d_W_chance_47 hf
    · refine g_iload_n C d_W_chance_20 rfl upS ?_
      exact g_iret C d_W_chance_21 hf
set_option maxHeartbeats 4000000 in
theorem t_W_thief {l : Launch} {ad : Nat → Nat} {dA : Nat → ClassId} {D : va_G} (hi : Inj SHX ad) {N : Nat} {a1 : Int32}  {μ μ' : Mm} {r : Int32} (hf : f_W_thief N a1 μ = some (r, μ')) : Ct CLS l SHX ad dA D y_W_thief c_W_thief 3 (some .int) 6 [.ref (ad 0), .int a1] μ (some (.int r)) μ' := by
  unfold f_W_thief at hf
  refine ct_of (by decide) hi (Nat.le_of_ble_eq_true rfl) ?_
  intro p e s m args below meth c C
  refine g_iload_n C d_W_thief_0 rfl rfl ?_
  refine g_csI C mv_W_isNeed ml_W_277 d_W_thief_1 hf (fun r μ1 h => t_W_isNeed C.2.2.2.2.2.2.2.2.1 h) rfl rfl (by decide) (Nat.le_of_ble_eq_true rfl) (fun r2 μ1 hf => ?_)
  refine g_if_ne (tgt := 9) C d_W_thief_4 (by decide) hf (fun c3 hf => ?_) (fun c3 hf => ?_)
  · refine g_iconst (v := -1) C d_W_thief_7 (by decide) ?_
    exact g_iret C d_W_thief_8 hf
  · refine g_aload_n C d_W_thief_9 rfl rfl ?_
    refine g_cvI C k_W rfl mv_W_joint ml_W_232 d_W_thief_10 hf (fun r μ1 h => t_W_joint C.2.2.2.2.2.2.2.2.1 h) rfl rfl (by decide) (Nat.le_of_ble_eq_true rfl) (fun r5 μ4 hf => ?_)
    refine g_iconst (v := 1) C d_W_thief_13 (by decide) ?_
    refine g_icmp_ge (tgt := 20) C d_W_thief_14 (by decide) hf (fun c6 hf => ?_) (fun c6 hf => ?_)
    · refine g_aload_n C d_W_thief_20 rfl rfl ?_
      refine g_getR (b := 61) (k := 4) C k_W (by decide) fl_W_44 rfl rfl d_W_thief_21 ?_
      refine g_aload_n C d_W_thief_24 rfl rfl ?_
      refine g_getR (b := 11) (k := 3) C k_W (by decide) fl_W_35 rfl rfl d_W_thief_25 ?_
      refine g_getI (k := 2) C k_Cr (by decide) fl_W_226 rfl rfl d_W_thief_28 ?_
      refine g_aload_n C d_W_thief_31 rfl rfl ?_
      refine g_getR (b := 6) (k := 2) C k_W (by decide) fl_W_26 rfl rfl d_W_thief_32 ?_
      refine g_cvI C k_Gr rfl mv_Gr_worthy ml_W_256 d_W_thief_35 hf (fun r μ1 h => t_Gr_worthy C.2.2.2.2.2.2.2.2.1 h) rfl rfl (by decide) (Nat.le_of_ble_eq_true rfl) (fun r8 μ7 hf => ?_)
      refine g_iload_n C d_W_thief_38 rfl rfl ?_
      refine g_cvV C k_Wa rfl mv_Wa_look ml_W_259 d_W_thief_39 hf (fun μ1 h => t_Wa_look C.2.2.2.2.2.2.2.2.1 h) rfl rfl (by decide) (Nat.le_of_ble_eq_true rfl) (fun μ9 hf => ?_)
      refine g_aload_n C d_W_thief_42 rfl rfl ?_
      refine g_getR (b := 61) (k := 4) C k_W (by decide) fl_W_44 rfl rfl d_W_thief_43 ?_
      refine g_cvI C k_Wa rfl mv_Wa_bestForThief ml_W_283 d_W_thief_46 hf (fun r μ1 h => t_Wa_bestForThief C.2.2.2.2.2.2.2.2.1 h) rfl rfl (by decide) (Nat.le_of_ble_eq_true rfl) (fun r11 μ10 hf => ?_)
      refine g_istore_n C d_W_thief_49 rfl (by decide) ?_
      refine g_iload_n C d_W_thief_50 rfl upS ?_
      refine g_if_lt (tgt := 78) C d_W_thief_51 (by decide) hf (fun c12 hf => ?_) (fun c12 hf => ?_)
      · refine g_iload_n C d_W_thief_78 rfl upS ?_
        exact g_iret C d_W_thief_79 hf
      · refine g_aload_n C d_W_thief_54 rfl (upG rfl rfl) ?_
        refine g_getR (b := 1) (k := 0) C k_W (by decide) fl_W_10 rfl rfl d_W_thief_55 ?_
        refine g_aload_n C d_W_thief_58 rfl (upG rfl rfl) ?_
        refine g_getR (b := 61) (k := 4) C k_W (by decide) fl_W_44 rfl rfl d_W_thief_59 ?_
        refine g_iload_n C d_W_thief_62 rfl upS ?_
        refine g_cvI C k_Wa rfl mv_Wa_lureOf ml_W_286 d_W_thief_63 hf (fun r μ1 h => t_Wa_lureOf C.2.2.2.2.2.2.2.2.1 h) rfl rfl (by decide) (Nat.le_of_ble_eq_true rfl) (fun r14 μ13 hf => ?_)
        refine g_i2l C d_W_thief_66 ?_
        refine g_aload_n C d_W_thief_67 rfl (upG rfl rfl) ?_
        refine g_getR (b := 61) (k := 4) C k_W (by decide) fl_W_44 rfl rfl d_W_thief_68 ?_
        refine g_getI (k := 0) C k_Wa (by decide) fl_W_268 rfl rfl d_W_thief_71 ?_
        refine g_i2l C d_W_thief_74 ?_
        refine g_cvV C k_Ta rfl mv_Ta_tellFraction ml_W_273 d_W_thief_75 hf (fun μ1 h => t_Ta_tellFraction C.2.2.2.2.2.2.2.2.1 h) rfl rfl (by decide) (Nat.le_of_ble_eq_true rfl) (fun μ15 hf => ?_)
        refine g_iload_n C d_W_thief_78 rfl upS ?_
        exact g_iret C d_W_thief_79 hf
    · refine g_bipush (v := -6) C d_W_thief_17 (by decide) ?_
      exact g_iret C d_W_thief_19 hf
set_option maxHeartbeats 4000000 in
theorem t_W_safe {l : Launch} {ad : Nat → Nat} {dA : Nat → ClassId} {D : va_G} (hi : Inj SHX ad) {N : Nat}   {μ μ' : Mm} {r : Int32} (hf : f_W_safe N  μ = some (r, μ')) : Ct CLS l SHX ad dA D y_W_safe c_W_safe 1 (some .int) 6 [.ref (ad 0)] μ (some (.int r)) μ' := by
  unfold f_W_safe at hf
  refine ct_of (by decide) hi (Nat.le_of_ble_eq_true rfl) ?_
  intro p e s m args below meth c C
  refine g_aload_n C d_W_safe_0 rfl rfl ?_
  refine g_cvI C k_W rfl mv_W_joint ml_W_232 d_W_safe_1 hf (fun r μ1 h => t_W_joint C.2.2.2.2.2.2.2.2.1 h) rfl rfl (by decide) (Nat.le_of_ble_eq_true rfl) (fun r2 μ1 hf => ?_)
  refine g_iconst (v := 1) C d_W_safe_4 (by decide) ?_
  refine g_icmp_ge (tgt := 11) C d_W_safe_5 (by decide) hf (fun c3 hf => ?_) (fun c3 hf => ?_)
  · refine g_aload_n C d_W_safe_11 rfl rfl ?_
    refine g_getR (b := 61) (k := 4) C k_W (by decide) fl_W_44 rfl rfl d_W_safe_12 ?_
    refine g_aload_n C d_W_safe_15 rfl rfl ?_
    refine g_getR (b := 11) (k := 3) C k_W (by decide) fl_W_35 rfl rfl d_W_safe_16 ?_
    refine g_getI (k := 2) C k_Cr (by decide) fl_W_226 rfl rfl d_W_safe_19 ?_
    refine g_aload_n C d_W_safe_22 rfl rfl ?_
    refine g_getR (b := 6) (k := 2) C k_W (by decide) fl_W_26 rfl rfl d_W_safe_23 ?_
    refine g_cvI C k_Gr rfl mv_Gr_worthy ml_W_256 d_W_safe_26 hf (fun r μ1 h => t_Gr_worthy C.2.2.2.2.2.2.2.2.1 h) rfl rfl (by decide) (Nat.le_of_ble_eq_true rfl) (fun r5 μ4 hf => ?_)
    refine g_iconst (v := 1) C d_W_safe_29 (by decide) ?_
    refine g_cvV C k_Wa rfl mv_Wa_look ml_W_259 d_W_safe_30 hf (fun μ1 h => t_Wa_look C.2.2.2.2.2.2.2.2.1 h) rfl rfl (by decide) (Nat.le_of_ble_eq_true rfl) (fun μ6 hf => ?_)
    refine g_aload_n C d_W_safe_33 rfl rfl ?_
    refine g_getR (b := 61) (k := 4) C k_W (by decide) fl_W_44 rfl rfl d_W_safe_34 ?_
    refine g_cvI C k_Wa rfl mv_Wa_longestIdle ml_W_289 d_W_safe_37 hf (fun r μ1 h => t_Wa_longestIdle C.2.2.2.2.2.2.2.2.1 h) rfl rfl (by decide) (Nat.le_of_ble_eq_true rfl) (fun r8 μ7 hf => ?_)
    exact g_iret C d_W_safe_40 hf
  · refine g_bipush (v := -6) C d_W_safe_8 (by decide) ?_
    exact g_iret C d_W_safe_10 hf
set_option maxHeartbeats 4000000 in
theorem t_W_isLoss {l : Launch} {ad : Nat → Nat} {dA : Nat → ClassId} {D : va_G} (hi : Inj SHX ad) {N : Nat} {a1 : Int32} {a2 : Int32} {a3 : Int32}  {μ μ' : Mm} {r : Int32} (hf : f_W_isLoss N a1 a2 a3 μ = some (r, μ')) : Ct CLS l SHX ad dA D y_W_isLoss c_W_isLoss 3 (some .boolean) 1 [.int a1, .int a2, .int a3] μ (some (.int r)) μ' := by
  unfold f_W_isLoss at hf
  refine ct_of (by decide) hi (Nat.le_of_ble_eq_true rfl) ?_
  intro p e s m args below meth c C
  refine g_iload_n C d_W_isLoss_0 rfl rfl ?_
  refine g_iload_n C d_W_isLoss_1 rfl rfl ?_
  refine g_iconst (v := -1) C d_W_isLoss_2 (by decide) ?_
  refine g_ixor C d_W_isLoss_3 ?_
  refine g_iand C d_W_isLoss_4 ?_
  refine g_if_ne (tgt := 20) C d_W_isLoss_5 (by decide) hf (fun c1 hf => ?_) (fun c1 hf => ?_)
  · refine g_iload_n C d_W_isLoss_8 rfl rfl ?_
    refine g_csI C mv_Ji_bitCount_0f7a4 ml_W_242 d_W_isLoss_9 hf (fun r μ1 h => t_Ji_bitCount_0f7a4 C.2.2.2.2.2.2.2.2.1 h) rfl rfl (by decide) (Nat.le_of_ble_eq_true rfl) (fun r3 μ2 hf => ?_)
    refine g_iload_n C d_W_isLoss_12 rfl rfl ?_
    refine g_icmp_ne (tgt := 20) C d_W_isLoss_13 (by decide) hf (fun c4 hf => ?_) (fun c4 hf => ?_)
    · refine g_iconst (v := 1) C d_W_isLoss_16 (by decide) ?_
      refine g_goto (tgt := 21) C d_W_isLoss_17 (by decide) ?_
      exact g_zretc C d_W_isLoss_21 rfl hf
    · refine g_iconst (v := 0) C d_W_isLoss_20 (by decide) ?_
      exact g_zretc C d_W_isLoss_21 rfl hf
  · refine g_iconst (v := 0) C d_W_isLoss_20 (by decide) ?_
    exact g_zretc C d_W_isLoss_21 rfl hf
set_option maxHeartbeats 4000000 in
theorem t_W_firstBlindSet_B50 {ad : Nat → Nat} {dA : Nat → ClassId} {D : va_G} {p : Program} {l : Launch} {e : Env} {s : State} {m : MethodId} {args : Array Value} {below : List Frame} {meth : Method} {c : Code} {r : Int32} {μ' : Mm} (C : Cx CLS SHX ad dA D p s m args meth c c_W_firstBlindSet 5 R_W (some .int)) (N : Nat)   (k11 : Int32 → Int32 → Int32 → Int32 → Mm → Option (Int32 × Mm)) (hk11 : ∀ (v1 : Int32) (v2 : Int32) (v3 : Int32) (v4 : Int32) (μ : Mm) (lv : Nat → Option Value), lv 0 = some (.ref (ad 0)) → lv 1 = some (.int v1) → lv 2 = some (.int v2) → lv 3 = some (.int v3) → lv 4 = some (.int v4) → k11 v1 v2 v3 v4 μ = some (r, μ') → Go CLS SHX ad dA D p l e (rmD 2) s m args below meth c 5 (some (.int r)) μ' 11 lv [] μ) : ∀ (v1 : Int32) (v2 : Int32) (v3 : Int32) (v4 : Int32) (μ : Mm) (lv : Nat → Option Value), lv 0 = some (.ref (ad 0)) → lv 1 = some (.int v1) → lv 2 = some (.int v2) → lv 3 = some (.int v3) → lv 4 = some (.int v4) → f_W_firstBlindSet_B50 N k11 v1 v2 v3 v4 μ = some (r, μ') → Go CLS SHX ad dA D p l e (rmD 2) s m args below meth c 5 (some (.int r)) μ' 50 lv [] μ := by
  intro v1 v2 v3 v4 μ lv hl0 hl1 hl2 hl3 hl4 hf
  unfold f_W_firstBlindSet_B50 at hf
  refine g_iinc (v := 1) C d_W_firstBlindSet_50 hl4 (by decide) (by decide) ?_
  refine g_goto (tgt := 11) C d_W_firstBlindSet_53 (by decide) ?_
  exact hk11 _ _ _ _ _ _ ((upG hl0 rfl)) ((upG hl1 rfl)) ((upG hl2 rfl)) ((upG hl3 rfl)) upS hf
set_option maxHeartbeats 4000000 in
theorem t_W_firstBlindSet_L11 {ad : Nat → Nat} {dA : Nat → ClassId} {D : va_G} {p : Program} {l : Launch} {e : Env} {s : State} {m : MethodId} {args : Array Value} {below : List Frame} {meth : Method} {c : Code} {r : Int32} {μ' : Mm} (C : Cx CLS SHX ad dA D p s m args meth c c_W_firstBlindSet 5 R_W (some .int)) (N : Nat)   : ∀ (n : Nat) (v1 : Int32) (v2 : Int32) (v3 : Int32) (v4 : Int32) (μ : Mm) (lv : Nat → Option Value), lv 0 = some (.ref (ad 0)) → lv 1 = some (.int v1) → lv 2 = some (.int v2) → lv 3 = some (.int v3) → lv 4 = some (.int v4) → f_W_firstBlindSet_L11 N n v1 v2 v3 v4 μ = some (r, μ') → Go CLS SHX ad dA D p l e (rmD 2) s m args below meth c 5 (some (.int r)) μ' 11 lv [] μ := by
  intro n
  induction n with
  | zero => intro v1 v2 v3 v4 μ lv hl0 hl1 hl2 hl3 hl4 hf; cases (show none = some _ from hf)
  | succ n ih =>
    intro v1 v2 v3 v4 μ lv hl0 hl1 hl2 hl3 hl4 hf
    unfold f_W_firstBlindSet_L11 at hf
    refine g_iload C d_W_firstBlindSet_11 hl4 ?_
    refine g_iload_n C d_W_firstBlindSet_13 rfl hl1 ?_
    refine g_icmp_gt (tgt := 56) C d_W_firstBlindSet_14 (by decide) hf (fun c3 hf => ?_) (fun c3 hf => ?_)
    · refine g_bipush (v := -9) C d_W_firstBlindSet_56 (by decide) ?_
      exact g_iret C d_W_firstBlindSet_58 hf
    · refine g_iload C d_W_firstBlindSet_17 hl4 ?_
      refine g_iload_n C d_W_firstBlindSet_19 rfl hl1 ?_
      refine g_iload_n C d_W_firstBlindSet_20 rfl hl2 ?_
      refine g_csI C mv_W_isLoss ml_W_390 d_W_firstBlindSet_21 hf (fun r μ1 h => t_W_isLoss C.2.2.2.2.2.2.2.2.1 h) rfl rfl (by decide) (Nat.le_of_ble_eq_true rfl) (fun r5 μ4 hf => ?_)
      refine g_if_eq (tgt := 50) C d_W_firstBlindSet_24 (by decide) hf (fun c6 hf => ?_) (fun c6 hf => ?_)
      · exact t_W_firstBlindSet_B50 C N _ ih _ _ _ _ _ _ hl0 hl1 hl2 hl3 hl4 hf
      · refine g_iload_n C d_W_firstBlindSet_27 rfl hl3 ?_
        refine g_aload_n C d_W_firstBlindSet_28 rfl hl0 ?_
        refine g_getR (b := 11) (k := 3) C k_W (by decide) fl_W_35 rfl rfl d_W_firstBlindSet_29 ?_
        refine g_iload_n C d_W_firstBlindSet_32 rfl hl1 ?_
        refine g_iload C d_W_firstBlindSet_33 hl4 ?_
        refine g_iconst (v := -1) C d_W_firstBlindSet_35 (by decide) ?_
        refine g_ixor C d_W_firstBlindSet_36 ?_
        refine g_iand C d_W_firstBlindSet_37 ?_
        refine g_cvI C k_Cr rfl mv_Cr_everSeen ml_W_393 d_W_firstBlindSet_38 hf (fun r μ1 h => t_Cr_everSeen C.2.2.2.2.2.2.2.2.1 h) rfl rfl (by decide) (Nat.le_of_ble_eq_true rfl) (fun r8 μ7 hf => ?_)
        refine g_iconst (v := -1) C d_W_firstBlindSet_41 (by decide) ?_
        refine g_ixor C d_W_firstBlindSet_42 ?_
        refine g_iand C d_W_firstBlindSet_43 ?_
        refine g_if_eq (tgt := 50) C d_W_firstBlindSet_44 (by decide) hf (fun c9 hf => ?_) (fun c9 hf => ?_)
        · exact t_W_firstBlindSet_B50 C N _ ih _ _ _ _ _ _ hl0 hl1 hl2 hl3 hl4 hf
        · refine g_iload C d_W_firstBlindSet_47 hl4 ?_
          exact g_iret C d_W_firstBlindSet_49 hf
set_option maxHeartbeats 4000000 in
theorem t_W_firstBlindSet {l : Launch} {ad : Nat → Nat} {dA : Nat → ClassId} {D : va_G} (hi : Inj SHX ad) {N : Nat} {a1 : Int32} {a2 : Int32}  {μ μ' : Mm} {r : Int32} (hf : f_W_firstBlindSet N a1 a2 μ = some (r, μ')) : Ct CLS l SHX ad dA D y_W_firstBlindSet c_W_firstBlindSet 5 (some .int) 2 [.ref (ad 0), .int a1, .int a2] μ (some (.int r)) μ' := by
  unfold f_W_firstBlindSet at hf
  refine ct_of (by decide) hi (Nat.le_of_ble_eq_true rfl) ?_
  intro p e s m args below meth c C
  refine g_aload_n C d_W_firstBlindSet_0 rfl rfl ?_
  refine g_getR (b := 6) (k := 2) C k_W (by decide) fl_W_26 rfl rfl d_W_firstBlindSet_1 ?_
  refine g_cvI C k_Gr rfl mv_Gr_worthy ml_W_256 d_W_firstBlindSet_4 hf (fun r μ1 h => t_Gr_worthy C.2.2.2.2.2.2.2.2.1 h) rfl rfl (by decide) (Nat.le_of_ble_eq_true rfl) (fun r2 μ1 hf => ?_)
  refine g_istore_n C d_W_firstBlindSet_7 rfl (by decide) ?_
  refine g_iconst (v := 0) C d_W_firstBlindSet_8 (by decide) ?_
  refine g_istore C d_W_firstBlindSet_9 (by decide) ?_
  exact t_W_firstBlindSet_L11 C N N _ _ _ _ _ _ ((upG (upG rfl rfl) rfl)) ((upG (upG rfl rfl) rfl)) ((upG (upG rfl rfl) rfl)) ((upG upS rfl)) upS hf
set_option maxHeartbeats 4000000 in
theorem t_W_isSpentWithAny_B34 {ad : Nat → Nat} {dA : Nat → ClassId} {D : va_G} {p : Program} {l : Launch} {e : Env} {s : State} {m : MethodId} {args : Array Value} {below : List Frame} {meth : Method} {c : Code} {r : Int32} {μ' : Mm} (C : Cx CLS SHX ad dA D p s m args meth c c_W_isSpentWithAny 4 R_W (some .boolean)) (N : Nat)   (k2 : Int32 → Int32 → Int32 → Mm → Option (Int32 × Mm)) (hk2 : ∀ (v1 : Int32) (v2 : Int32) (v3 : Int32) (μ : Mm) (lv : Nat → Option Value), lv 0 = some (.ref (ad 0)) → lv 1 = some (.int v1) → lv 2 = some (.int v2) → lv 3 = some (.int v3) → k2 v1 v2 v3 μ = some (r, μ') → Go CLS SHX ad dA D p l e (rmD 2) s m args below meth c 4 (some (.int r)) μ' 2 lv [] μ) : ∀ (v1 : Int32) (v2 : Int32) (v3 : Int32) (μ : Mm) (lv : Nat → Option Value), lv 0 = some (.ref (ad 0)) → lv 1 = some (.int v1) → lv 2 = some (.int v2) → lv 3 = some (.int v3) → f_W_isSpentWithAny_B34 N k2 v1 v2 v3 μ = some (r, μ') → Go CLS SHX ad dA D p l e (rmD 2) s m args below meth c 4 (some (.int r)) μ' 34 lv [] μ := by
  intro v1 v2 v3 μ lv hl0 hl1 hl2 hl3 hf
  unfold f_W_isSpentWithAny_B34 at hf
  refine g_iinc (v := 1) C d_W_isSpentWithAny_34 hl3 (by decide) (by decide) ?_
  refine g_goto (tgt := 2) C d_W_isSpentWithAny_37 (by decide) ?_
  exact hk2 _ _ _ _ _ ((upG hl0 rfl)) ((upG hl1 rfl)) ((upG hl2 rfl)) upS hf
set_option maxHeartbeats 4000000 in
theorem t_W_isSpentWithAny_L2 {ad : Nat → Nat} {dA : Nat → ClassId} {D : va_G} {p : Program} {l : Launch} {e : Env} {s : State} {m : MethodId} {args : Array Value} {below : List Frame} {meth : Method} {c : Code} {r : Int32} {μ' : Mm} (C : Cx CLS SHX ad dA D p s m args meth c c_W_isSpentWithAny 4 R_W (some .boolean)) (N : Nat)   : ∀ (n : Nat) (v1 : Int32) (v2 : Int32) (v3 : Int32) (μ : Mm) (lv : Nat → Option Value), lv 0 = some (.ref (ad 0)) → lv 1 = some (.int v1) → lv 2 = some (.int v2) → lv 3 = some (.int v3) → f_W_isSpentWithAny_L2 N n v1 v2 v3 μ = some (r, μ') → Go CLS SHX ad dA D p l e (rmD 2) s m args below meth c 4 (some (.int r)) μ' 2 lv [] μ := by
  intro n
  induction n with
  | zero => intro v1 v2 v3 μ lv hl0 hl1 hl2 hl3 hf; cases (show none = some _ from hf)
  | succ n ih =>
    intro v1 v2 v3 μ lv hl0 hl1 hl2 hl3 hf
    unfold f_W_isSpentWithAny_L2 at hf
    refine g_iload_n C d_W_isSpentWithAny_2 rfl hl3 ?_
    refine g_iload_n C d_W_isSpentWithAny_3 rfl hl1 ?_
    refine g_icmp_gt (tgt := 40) C d_W_isSpentWithAny_4 (by decide) hf (fun c1 hf => ?_) (fun c1 hf => ?_)
    · refine g_iconst (v := 0) C d_W_isSpentWithAny_40 (by decide) ?_
      exact g_zretc C d_W_isSpentWithAny_41 rfl hf
    · refine g_iload_n C d_W_isSpentWithAny_7 rfl hl3 ?_
      refine g_iload_n C d_W_isSpentWithAny_8 rfl hl1 ?_
      refine g_iload_n C d_W_isSpentWithAny_9 rfl hl2 ?_
      refine g_csI C mv_W_isLoss ml_W_390 d_W_isSpentWithAny_10 hf (fun r μ1 h => t_W_isLoss C.2.2.2.2.2.2.2.2.1 h) rfl rfl (by decide) (Nat.le_of_ble_eq_true rfl) (fun r3 μ2 hf => ?_)
      refine g_if_eq (tgt := 34) C d_W_isSpentWithAny_13 (by decide) hf (fun c4 hf => ?_) (fun c4 hf => ?_)
      · exact t_W_isSpentWithAny_B34 C N _ ih _ _ _ _ _ hl0 hl1 hl2 hl3 hf
      · refine g_aload_n C d_W_isSpentWithAny_16 rfl hl0 ?_
        refine g_getR (b := 11) (k := 3) C k_W (by decide) fl_W_35 rfl rfl d_W_isSpentWithAny_17 ?_
        refine g_iload_n C d_W_isSpentWithAny_20 rfl hl1 ?_
        refine g_iload_n C d_W_isSpentWithAny_21 rfl hl3 ?_
        refine g_iconst (v := -1) C d_W_isSpentWithAny_22 (by decide) ?_
        refine g_ixor C d_W_isSpentWithAny_23 ?_
        refine g_iand C d_W_isSpentWithAny_24 ?_
        refine g_cvI C k_Cr rfl mv_Cr_jointOf ml_W_229 d_W_isSpentWithAny_25 hf (fun r μ1 h => t_Cr_jointOf C.2.2.2.2.2.2.2.2.1 h) rfl rfl (by decide) (Nat.le_of_ble_eq_true rfl) (fun r6 μ5 hf => ?_)
        refine g_iconst (v := 1) C d_W_isSpentWithAny_28 (by decide) ?_
        refine g_icmp_ge (tgt := 34) C d_W_isSpentWithAny_29 (by decide) hf (fun c7 hf => ?_) (fun c7 hf => ?_)
        · exact t_W_isSpentWithAny_B34 C N _ ih _ _ _ _ _ hl0 hl1 hl2 hl3 hf
        · refine g_iconst (v := 1) C d_W_isSpentWithAny_32 (by decide) ?_
          exact g_zretc C d_W_isSpentWithAny_33 rfl hf
set_option maxHeartbeats 4000000 in
theorem t_W_isSpentWithAny {l : Launch} {ad : Nat → Nat} {dA : Nat → ClassId} {D : va_G} (hi : Inj SHX ad) {N : Nat} {a1 : Int32} {a2 : Int32}  {μ μ' : Mm} {r : Int32} (hf : f_W_isSpentWithAny N a1 a2 μ = some (r, μ')) : Ct CLS l SHX ad dA D y_W_isSpentWithAny c_W_isSpentWithAny 4 (some .boolean) 2 [.ref (ad 0), .int a1, .int a2] μ (some (.int r)) μ' := by
  unfold f_W_isSpentWithAny at hf
  refine ct_of (by decide) hi (Nat.le_of_ble_eq_true rfl) ?_
  intro p e s m args below meth c C
  refine g_iconst (v := 0) C d_W_isSpentWithAny_0 (by decide) ?_
  refine g_istore_n C d_W_isSpentWithAny_1 rfl (by decide) ?_
  exact t_W_isSpentWithAny_L2 C N N _ _ _ _ _ ((upG rfl rfl)) ((upG rfl rfl)) ((upG rfl rfl)) upS hf
set_option maxHeartbeats 4000000 in
theorem t_W_tellGreatestLoad_B97 {ad : Nat → Nat} {dA : Nat → ClassId} {D : va_G} {p : Program} {l : Launch} {e : Env} {s : State} {m : MethodId} {args : Array Value} {below : List Frame} {meth : Method} {c : Code} {r : Int32} {μ' : Mm} (C : Cx CLS SHX ad dA D p s m args meth c c_W_tellGreatestLoad 8 R_W (some .int)) (N : Nat)   (k14 : Int32 → Int32 → Int32 → Int32 → Int32 → Mm → Option (Int32 × Mm)) (hk14 : ∀ (v1 : Int32) (v2 : Int32) (v3 : Int32) (v4 : Int32) (v5 : Int32) (μ : Mm) (lv : Nat → Option Value), lv 0 = some (.ref (ad 0)) → lv 1 = some (.int v1) → lv 2 = some (.int v2) → lv 3 = some (.int v3) → lv 4 = some (.int v4) → lv 5 = some (.int v5) → k14 v1 v2 v3 v4 v5 μ = some (r, μ') → Go CLS SHX ad dA D p l e (rmD 5) s m args below meth c 8 (some (.int r)) μ' 14 lv [] μ) : ∀ (v1 : Int32) (v2 : Int32) (v3 : Int32) (v4 : Int32) (v5 : Int32) (μ : Mm) (lv : Nat → Option Value), lv 0 = some (.ref (ad 0)) → lv 1 = some (.int v1) → lv 2 = some (.int v2) → lv 3 = some (.int v3) → lv 4 = some (.int v4) → lv 5 = some (.int v5) → f_W_tellGreatestLoad_B97 N k14 v1 v2 v3 v4 v5 μ = some (r, μ') → Go CLS SHX ad dA D p l e (rmD 5) s m args below meth c 8 (some (.int r)) μ' 97 lv [] μ := by
  intro v1 v2 v3 v4 v5 μ lv hl0 hl1 hl2 hl3 hl4 hl5 hf
  unfold f_W_tellGreatestLoad_B97 at hf
  refine g_iinc (v := 1) C d_W_tellGreatestLoad_97 hl5 (by decide) (by decide) ?_
  refine g_goto (tgt := 14) C d_W_tellGreatestLoad_100 (by decide) ?_
  exact hk14 _ _ _ _ _ _ _ ((upG hl0 rfl)) ((upG hl1 rfl)) ((upG hl2 rfl)) ((upG hl3 rfl)) ((upG hl4 rfl)) upS hf
set_option maxHeartbeats 4000000 in
theorem t_W_tellGreatestLoad_B75 {ad : Nat → Nat} {dA : Nat → ClassId} {D : va_G} {p : Program} {l : Launch} {e : Env} {s : State} {m : MethodId} {args : Array Value} {below : List Frame} {meth : Method} {c : Code} {r : Int32} {μ' : Mm} (C : Cx CLS SHX ad dA D p s m args meth c c_W_tellGreatestLoad 8 R_W (some .int)) (N : Nat)   (k14 : Int32 → Int32 → Int32 → Int32 → Int32 → Mm → Option (Int32 × Mm)) (hk14 : ∀ (v1 : Int32) (v2 : Int32) (v3 : Int32) (v4 : Int32) (v5 : Int32) (μ : Mm) (lv : Nat → Option Value), lv 0 = some (.ref (ad 0)) → lv 1 = some (.int v1) → lv 2 = some (.int v2) → lv 3 = some (.int v3) → lv 4 = some (.int v4) → lv 5 = some (.int v5) → k14 v1 v2 v3 v4 v5 μ = some (r, μ') → Go CLS SHX ad dA D p l e (rmD 5) s m args below meth c 8 (some (.int r)) μ' 14 lv [] μ) : ∀ (v1 : Int32) (v2 : Int32) (v3 : Int32) (v4 : Int32) (v5 : Int32) (s0 : Int32) (μ : Mm) (lv : Nat → Option Value), lv 0 = some (.ref (ad 0)) → lv 1 = some (.int v1) → lv 2 = some (.int v2) → lv 3 = some (.int v3) → lv 4 = some (.int v4) → lv 5 = some (.int v5) → f_W_tellGreatestLoad_B75 N k14 v1 v2 v3 v4 v5 s0 μ = some (r, μ') → Go CLS SHX ad dA D p l e (rmD 5) s m args below meth c 8 (some (.int r)) μ' 75 lv [.int s0] μ := by
  intro v1 v2 v3 v4 v5 s0 μ lv hl0 hl1 hl2 hl3 hl4 hl5 hf
  unfold f_W_tellGreatestLoad_B75 at hf
  refine g_istore C d_W_tellGreatestLoad_75 (by decide) ?_
  refine g_iload C d_W_tellGreatestLoad_77 upS ?_
  refine g_iload C d_W_tellGreatestLoad_79 (upG hl4 rfl) ?_
  refine g_icmp_le (tgt := 97) C d_W_tellGreatestLoad_81 (by decide) hf (fun c13 hf => ?_) (fun c13 hf => ?_)
  · exact t_W_tellGreatestLoad_B97 C N _ hk14 _ _ _ _ _ _ _ ((upG hl0 rfl)) ((upG hl1 rfl)) ((upG hl2 rfl)) ((upG hl3 rfl)) ((upG hl4 rfl)) ((upG hl5 rfl)) hf
  · refine g_iload C d_W_tellGreatestLoad_84 upS ?_
    refine g_istore C d_W_tellGreatestLoad_86 (by decide) ?_
    refine g_aload_n C d_W_tellGreatestLoad_88 rfl (upG (upG hl0 rfl) rfl) ?_
    refine g_getR (b := 1) (k := 0) C k_W (by decide) fl_W_10 rfl rfl d_W_tellGreatestLoad_89 ?_
    refine g_iload C d_W_tellGreatestLoad_92 (upG (upG hl5 rfl) rfl) ?_
    refine g_putI (k := 2) C k_Ta (by decide) fl_W_239 rfl rfl rfl rfl d_W_tellGreatestLoad_94 ?_
    exact t_W_tellGreatestLoad_B97 C N _ hk14 _ _ _ _ _ _ _ ((upG (upG hl0 rfl) rfl)) ((upG (upG hl1 rfl) rfl)) ((upG (upG hl2 rfl) rfl)) ((upG (upG hl3 rfl) rfl)) upS ((upG (upG hl5 rfl) rfl)) hf
set_option maxHeartbeats 4000000 in
theorem t_W_tellGreatestLoad_L14 {ad : Nat → Nat} {dA : Nat → ClassId} {D : va_G} {p : Program} {l : Launch} {e : Env} {s : State} {m : MethodId} {args : Array Value} {below : List Frame} {meth : Method} {c : Code} {r : Int32} {μ' : Mm} (C : Cx CLS SHX ad dA D p s m args meth c c_W_tellGreatestLoad 8 R_W (some .int)) (N : Nat)   : ∀ (n : Nat) (v1 : Int32) (v2 : Int32) (v3 : Int32) (v4 : Int32) (v5 : Int32) (μ : Mm) (lv : Nat → Option Value), lv 0 = some (.ref (ad 0)) → lv 1 = some (.int v1) → lv 2 = some (.int v2) → lv 3 = some (.int v3) → lv 4 = some (.int v4) → lv 5 = some (.int v5) → f_W_tellGreatestLoad_L14 N n v1 v2 v3 v4 v5 μ = some (r, μ') → Go CLS SHX ad dA D p l e (rmD 5) s m args below meth c 8 (some (.int r)) μ' 14 lv [] μ := by
  intro n
  induction n with
  | zero => intro v1 v2 v3 v4 v5 μ lv hl0 hl1 hl2 hl3 hl4 hl5 hf; cases (show none = some _ from hf)
  | succ n ih =>
    intro v1 v2 v3 v4 v5 μ lv hl0 hl1 hl2 hl3 hl4 hl5 hf
    unfold f_W_tellGreatestLoad_L14 at hf
    refine g_iload C d_W_tellGreatestLoad_14 hl5 ?_
    refine g_iload_n C d_W_tellGreatestLoad_16 rfl hl1 ?_
    refine g_icmp_gt (tgt := 103) C d_W_tellGreatestLoad_17 (by decide) hf (fun c3 hf => ?_) (fun c3 hf => ?_)
    · refine g_iload C d_W_tellGreatestLoad_103 hl4 ?_
      exact g_iret C d_W_tellGreatestLoad_105 hf
    · refine g_iload C d_W_tellGreatestLoad_20 hl5 ?_
      refine g_iload_n C d_W_tellGreatestLoad_22 rfl hl1 ?_
      refine g_iload_n C d_W_tellGreatestLoad_23 rfl hl2 ?_
      refine g_csI C mv_W_isLoss ml_W_390 d_W_tellGreatestLoad_24 hf (fun r μ1 h => t_W_isLoss C.2.2.2.2.2.2.2.2.1 h) rfl rfl (by decide) (Nat.le_of_ble_eq_true rfl) (fun r5 μ4 hf => ?_)
      refine g_if_ne (tgt := 33) C d_W_tellGreatestLoad_27 (by decide) hf (fun c6 hf => ?_) (fun c6 hf => ?_)
      · refine g_goto (tgt := 97) C d_W_tellGreatestLoad_30 (by decide) ?_
        exact t_W_tellGreatestLoad_B97 C N _ ih _ _ _ _ _ _ _ hl0 hl1 hl2 hl3 hl4 hl5 hf
      · refine g_aload_n C d_W_tellGreatestLoad_33 rfl hl0 ?_
        refine g_getR (b := 61) (k := 4) C k_W (by decide) fl_W_44 rfl rfl d_W_tellGreatestLoad_34 ?_
        refine g_iload_n C d_W_tellGreatestLoad_37 rfl hl1 ?_
        refine g_iload C d_W_tellGreatestLoad_38 hl5 ?_
        refine g_iconst (v := -1) C d_W_tellGreatestLoad_40 (by decide) ?_
        refine g_ixor C d_W_tellGreatestLoad_41 ?_
        refine g_iand C d_W_tellGreatestLoad_42 ?_
        refine g_iload_n C d_W_tellGreatestLoad_43 rfl hl3 ?_
        refine g_iconst (v := 1) C d_W_tellGreatestLoad_44 (by decide) ?_
        refine g_cvV C k_Wa rfl mv_Wa_look ml_W_259 d_W_tellGreatestLoad_45 hf (fun μ1 h => t_Wa_look C.2.2.2.2.2.2.2.2.1 h) rfl rfl (by decide) (Nat.le_of_ble_eq_true rfl) (fun μ7 hf => ?_)
        refine g_aload_n C d_W_tellGreatestLoad_48 rfl hl0 ?_
        refine g_getR (b := 61) (k := 4) C k_W (by decide) fl_W_44 rfl rfl d_W_tellGreatestLoad_49 ?_
        refine g_cvI C k_Wa rfl mv_Wa_worstPost ml_W_262 d_W_tellGreatestLoad_52 hf (fun r μ1 h => t_Wa_worstPost C.2.2.2.2.2.2.2.2.1 h) rfl rfl (by decide) (Nat.le_of_ble_eq_true rfl) (fun r9 μ8 hf => ?_)
        refine g_istore C d_W_tellGreatestLoad_55 (by decide) ?_
        refine g_iload C d_W_tellGreatestLoad_57 upS ?_
        refine g_if_ge (tgt := 66) C d_W_tellGreatestLoad_59 (by decide) hf (fun c10 hf => ?_) (fun c10 hf => ?_)
        · refine g_aload_n C d_W_tellGreatestLoad_66 rfl (upG hl0 rfl) ?_
          refine g_getR (b := 61) (k := 4) C k_W (by decide) fl_W_44 rfl rfl d_W_tellGreatestLoad_67 ?_
          refine g_iload C d_W_tellGreatestLoad_70 upS ?_
          refine g_cvI C k_Wa rfl mv_Wa_loadOf ml_W_265 d_W_tellGreatestLoad_72 hf (fun r μ1 h => t_Wa_loadOf C.2.2.2.2.2.2.2.2.1 h) rfl rfl (by decide) (Nat.le_of_ble_eq_true rfl) (fun r12 μ11 hf => ?_)
          exact t_W_tellGreatestLoad_B75 C N _ ih _ _ _ _ _ _ _ _ ((upG hl0 rfl)) ((upG hl1 rfl)) ((upG hl2 rfl)) ((upG hl3 rfl)) ((upG hl4 rfl)) ((upG hl5 rfl)) hf
        · refine g_iconst (v := 0) C d_W_tellGreatestLoad_62 (by decide) ?_
          refine g_goto (tgt := 75) C d_W_tellGreatestLoad_63 (by decide) ?_
          exact t_W_tellGreatestLoad_B75 C N _ ih _ _ _ _ _ _ _ _ ((upG hl0 rfl)) ((upG hl1 rfl)) ((upG hl2 rfl)) ((upG hl3 rfl)) ((upG hl4 rfl)) ((upG hl5 rfl)) hf
set_option maxHeartbeats 4000000 in
theorem t_W_tellGreatestLoad {l : Launch} {ad : Nat → Nat} {dA : Nat → ClassId} {D : va_G} (hi : Inj SHX ad) {N : Nat} {a1 : Int32} {a2 : Int32}  {μ μ' : Mm} {r : Int32} (hf : f_W_tellGreatestLoad N a1 a2 μ = some (r, μ')) : Ct CLS l SHX ad dA D y_W_tellGreatestLoad c_W_tellGreatestLoad 8 (some .int) 5 [.ref (ad 0), .int a1, .int a2] μ (some (.int r)) μ' := by
  unfold f_W_tellGreatestLoad at hf
  refine ct_of (by decide) hi (Nat.le_of_ble_eq_true rfl) ?_
  intro p e s m args below meth c C
  refine g_aload_n C d_W_tellGreatestLoad_0 rfl rfl ?_
  refine g_getR (b := 6) (k := 2) C k_W (by decide) fl_W_26 rfl rfl d_W_tellGreatestLoad_1 ?_
  refine g_cvI C k_Gr rfl mv_Gr_worthy ml_W_256 d_W_tellGreatestLoad_4 hf (fun r μ1 h => t_Gr_worthy C.2.2.2.2.2.2.2.2.1 h) rfl rfl (by decide) (Nat.le_of_ble_eq_true rfl) (fun r2 μ1 hf => ?_)
  refine g_istore_n C d_W_tellGreatestLoad_7 rfl (by decide) ?_
  refine g_iconst (v := -1) C d_W_tellGreatestLoad_8 (by decide) ?_
  refine g_istore C d_W_tellGreatestLoad_9 (by decide) ?_
  refine g_iconst (v := 0) C d_W_tellGreatestLoad_11 (by decide) ?_
  refine g_istore C d_W_tellGreatestLoad_12 (by decide) ?_
  exact t_W_tellGreatestLoad_L14 C N N _ _ _ _ _ _ _ ((upG (upG (upG rfl rfl) rfl) rfl)) ((upG (upG (upG rfl rfl) rfl) rfl)) ((upG (upG (upG rfl rfl) rfl) rfl)) ((upG (upG upS rfl) rfl)) ((upG upS rfl)) upS hf
set_option maxHeartbeats 4000000 in
theorem t_W_peril {l : Launch} {ad : Nat → Nat} {dA : Nat → ClassId} {D : va_G} (hi : Inj SHX ad) {N : Nat} {a1 : Int32}  {μ μ' : Mm} {r : Int32} (hf : f_W_peril N a1 μ = some (r, μ')) : Ct CLS l SHX ad dA D y_W_peril c_W_peril 5 (some .int) 6 [.ref (ad 0), .int a1] μ (some (.int r)) μ' := by
  unfold f_W_peril at hf
  refine ct_of (by decide) hi (Nat.le_of_ble_eq_true rfl) ?_
  intro p e s m args below meth c C
  refine g_iload_n C d_W_peril_0 rfl rfl ?_
  refine g_if_lt (tgt := 9) C d_W_peril_1 (by decide) hf (fun c1 hf => ?_) (fun c1 hf => ?_)
  · refine g_iconst (v := -1) C d_W_peril_9 (by decide) ?_
    exact g_iret C d_W_peril_10 hf
  · refine g_iload_n C d_W_peril_4 rfl rfl ?_
    refine g_iconst (v := 3) C d_W_peril_5 (by decide) ?_
    refine g_icmp_le (tgt := 11) C d_W_peril_6 (by decide) hf (fun c2 hf => ?_) (fun c2 hf => ?_)
    · refine g_aload_n C d_W_peril_11 rfl rfl ?_
      refine g_getR (b := 11) (k := 3) C k_W (by decide) fl_W_35 rfl rfl d_W_peril_12 ?_
      refine g_cvV C k_Cr rfl mv_Cr_refresh ml_W_181 d_W_peril_15 hf (fun μ1 h => t_Cr_refresh C.2.2.2.2.2.2.2.2.1 h) rfl rfl (by decide) (Nat.le_of_ble_eq_true rfl) (fun μ3 hf => ?_)
      refine g_aload_n C d_W_peril_18 rfl rfl ?_
      refine g_getR (b := 11) (k := 3) C k_W (by decide) fl_W_35 rfl rfl d_W_peril_19 ?_
      refine g_getI (k := 2) C k_Cr (by decide) fl_W_226 rfl rfl d_W_peril_22 ?_
      refine g_istore_n C d_W_peril_25 rfl (by decide) ?_
      refine g_iload_n C d_W_peril_26 rfl (upG rfl rfl) ?_
      refine g_iload_n C d_W_peril_27 rfl upS ?_
      refine g_csI C mv_Ji_bitCount_0f7a4 ml_W_242 d_W_peril_28 hf (fun r μ1 h => t_Ji_bitCount_0f7a4 C.2.2.2.2.2.2.2.2.1 h) rfl rfl (by decide) (Nat.le_of_ble_eq_true rfl) (fun r6 μ5 hf => ?_)
      refine g_csI C mv_Jm_min_7cf53 ml_W_292 d_W_peril_31 hf (fun r μ1 h => t_Jm_min_7cf53 C.2.2.2.2.2.2.2.2.1 h) rfl rfl (by decide) (Nat.le_of_ble_eq_true rfl) (fun r8 μ7 hf => ?_)
      refine g_istore_n C d_W_peril_34 rfl (by decide) ?_
      refine g_aload_n C d_W_peril_35 rfl (upG (upG rfl rfl) rfl) ?_
      refine g_iload_n C d_W_peril_36 rfl (upG upS rfl) ?_
      refine g_iload_n C d_W_peril_37 rfl upS ?_
      refine g_cvI C k_W rfl mv_W_isSpentWithAny ml_W_297 d_W_peril_38 hf (fun r μ1 h => t_W_isSpentWithAny C.2.2.2.2.2.2.2.2.1 h) rfl rfl (by decide) (Nat.le_of_ble_eq_true rfl) (fun r10 μ9 hf => ?_)
      refine g_if_eq (tgt := 47) C d_W_peril_41 (by decide) hf (fun c11 hf => ?_) (fun c11 hf => ?_)
      · refine g_aload_n C d_W_peril_47 rfl (upG (upG rfl rfl) rfl) ?_
        refine g_iload_n C d_W_peril_48 rfl (upG upS rfl) ?_
        refine g_iload_n C d_W_peril_49 rfl upS ?_
        refine g_cvI C k_W rfl mv_W_firstBlindSet ml_W_301 d_W_peril_50 hf (fun r μ1 h => t_W_firstBlindSet C.2.2.2.2.2.2.2.2.1 h) rfl rfl (by decide) (Nat.le_of_ble_eq_true rfl) (fun r13 μ12 hf => ?_)
        refine g_istore C d_W_peril_53 (by decide) ?_
        refine g_iload C d_W_peril_55 upS ?_
        refine g_if_lt (tgt := 72) C d_W_peril_57 (by decide) hf (fun c14 hf => ?_) (fun c14 hf => ?_)
        · refine g_aload_n C d_W_peril_72 rfl (upG (upG (upG rfl rfl) rfl) rfl) ?_
          refine g_iload_n C d_W_peril_73 rfl (upG (upG upS rfl) rfl) ?_
          refine g_iload_n C d_W_peril_74 rfl (upG upS rfl) ?_
          refine g_cvI C k_W rfl mv_W_tellGreatestLoad ml_W_304 d_W_peril_75 hf (fun r μ1 h => t_W_tellGreatestLoad C.2.2.2.2.2.2.2.2.1 h) rfl rfl (by decide) (Nat.le_of_ble_eq_true rfl) (fun r16 μ15 hf => ?_)
          exact g_iret C d_W_peril_78 hf
        · refine g_aload_n C d_W_peril_60 rfl (upG (upG (upG rfl rfl) rfl) rfl) ?_
          refine g_getR (b := 1) (k := 0) C k_W (by decide) fl_W_10 rfl rfl d_W_peril_61 ?_
          refine g_iload C d_W_peril_64 upS ?_
          refine g_putI (k := 2) C k_Ta (by decide) fl_W_239 rfl rfl rfl rfl d_W_peril_66 ?_
          refine g_bipush (v := -9) C d_W_peril_69 (by decide) ?_
          exact g_iret C d_W_peril_71 hf
      · refine g_bipush (v := -6) C d_W_peril_44 (by decide) ?_
        exact g_iret C d_W_peril_46 hf
    · refine g_iconst (v := -1) C d_W_peril_9 (by decide) ?_
      exact g_iret C d_W_peril_10 hf
set_option maxHeartbeats 4000000 in
theorem t_W_isStart {l : Launch} {ad : Nat → Nat} {dA : Nat → ClassId} {D : va_G} (hi : Inj SHX ad) {N : Nat} {a1 : Int32}  {μ μ' : Mm} {r : Int32} (hf : f_W_isStart N a1 μ = some (r, μ')) : Ct CLS l SHX ad dA D y_W_isStart c_W_isStart 1 (some .boolean) 0 [.int a1] μ (some (.int r)) μ' := by
  unfold f_W_isStart at hf
  refine ct_of (by decide) hi (Nat.le_of_ble_eq_true rfl) ?_
  intro p e s m args below meth c C
  refine g_iload_n C d_W_isStart_0 rfl rfl ?_
  refine g_if_lt (tgt := 15) C d_W_isStart_1 (by decide) hf (fun c1 hf => ?_) (fun c1 hf => ?_)
  · refine g_iconst (v := 0) C d_W_isStart_15 (by decide) ?_
    exact g_zretc C d_W_isStart_16 rfl hf
  · refine g_iload_n C d_W_isStart_4 rfl rfl ?_
    refine g_sipush (v := 14400) C d_W_isStart_5 (by decide) ?_
    refine g_icmp_ge (tgt := 15) C d_W_isStart_8 (by decide) hf (fun c2 hf => ?_) (fun c2 hf => ?_)
    · refine g_iconst (v := 0) C d_W_isStart_15 (by decide) ?_
      exact g_zretc C d_W_isStart_16 rfl hf
    · refine g_iconst (v := 1) C d_W_isStart_11 (by decide) ?_
      refine g_goto (tgt := 16) C d_W_isStart_12 (by decide) ?_
      exact g_zretc C d_W_isStart_16 rfl hf
set_option maxHeartbeats 4000000 in
theorem t_W_tellTime {l : Launch} {ad : Nat → Nat} {dA : Nat → ClassId} {D : va_G} (hi : Inj SHX ad) {N : Nat} {a1 : Int64}  {μ μ' : Mm} {r : Int32} (hf : f_W_tellTime N a1 μ = some (r, μ')) : Ct CLS l SHX ad dA D y_W_tellTime c_W_tellTime 3 (some .int) 2 [.ref (ad 0), .long a1] μ (some (.int r)) μ' := by
  unfold f_W_tellTime at hf
  refine ct_of (by decide) hi (Nat.le_of_ble_eq_true rfl) ?_
  intro p e s m args below meth c C
  refine g_lload_n C d_W_tellTime_0 rfl rfl ?_
  refine g_ldc2 C cl_W_396 d_W_tellTime_1 ?_
  refine g_lcmp C d_W_tellTime_4 ?_
  refine g_if_ne (tgt := 11) C d_W_tellTime_5 (by decide) hf (fun c1 hf => ?_) (fun c1 hf => ?_)
  · refine g_bipush (v := -9) C d_W_tellTime_8 (by decide) ?_
    exact g_iret C d_W_tellTime_10 hf
  · refine g_aload_n C d_W_tellTime_11 rfl rfl ?_
    refine g_getR (b := 1) (k := 0) C k_W (by decide) fl_W_10 rfl rfl d_W_tellTime_12 ?_
    refine g_lload_n C d_W_tellTime_15 rfl rfl ?_
    refine g_ldc2 C cl_W_310 d_W_tellTime_16 ?_
    refine g_cvV C k_Ta rfl mv_Ta_tellFraction ml_W_273 d_W_tellTime_19 hf (fun μ1 h => t_Ta_tellFraction C.2.2.2.2.2.2.2.2.1 h) rfl rfl (by decide) (Nat.le_of_ble_eq_true rfl) (fun μ2 hf => ?_)
    refine g_iconst (v := 1) C d_W_tellTime_22 (by decide) ?_
    exact g_iret C d_W_tellTime_23 hf
set_option maxHeartbeats 4000000 in
theorem t_W_meet_B58 {ad : Nat → Nat} {dA : Nat → ClassId} {D : va_G} {p : Program} {l : Launch} {e : Env} {s : State} {m : MethodId} {args : Array Value} {below : List Frame} {meth : Method} {c : Code} {r : Int32} {μ' : Mm} (C : Cx CLS SHX ad dA D p s m args meth c c_W_meet 4 R_W (some .int)) (N : Nat)   : ∀  (μ : Mm) (lv : Nat → Option Value), lv 0 = some (.ref (ad 0)) → f_W_meet_B58 N μ = some (r, μ') → Go CLS SHX ad dA D p l e (rmD 5) s m args below meth c 4 (some (.int r)) μ' 58 lv [] μ := by
  intro μ lv hl0 hf
  unfold f_W_meet_B58 at hf
  refine g_aload_n C d_W_meet_58 rfl hl0 ?_
  refine g_getR (b := 1) (k := 0) C k_W (by decide) fl_W_10 rfl rfl d_W_meet_59 ?_
  refine g_iconst (v := 1) C d_W_meet_62 (by decide) ?_
  refine g_cvI C k_Ta rfl mv_Ta_found ml_W_75 d_W_meet_63 hf (fun r μ1 h => t_Ta_found C.2.2.2.2.2.2.2.2.1 h) rfl rfl (by decide) (Nat.le_of_ble_eq_true rfl) (fun r32 μ31 hf => ?_)
  exact g_iret C d_W_meet_66 hf
set_option maxHeartbeats 4000000 in
theorem t_W_meet {l : Launch} {ad : Nat → Nat} {dA : Nat → ClassId} {D : va_G} (hi : Inj SHX ad) {N : Nat} {a1 : Int32} {a2 : Int32} {a3 : Int32}  {μ μ' : Mm} {r : Int32} (hf : f_W_meet N a1 a2 a3 μ = some (r, μ')) : Ct CLS l SHX ad dA D y_W_meet c_W_meet 4 (some .int) 5 [.ref (ad 0), .int a1, .int a2, .int a3] μ (some (.int r)) μ' := by
  unfold f_W_meet at hf
  refine ct_of (by decide) hi (Nat.le_of_ble_eq_true rfl) ?_
  intro p e s m args below meth c C
  refine g_aload_n C d_W_meet_0 rfl rfl ?_
  refine g_getR (b := 11) (k := 3) C k_W (by decide) fl_W_35 rfl rfl d_W_meet_1 ?_
  refine g_iload_n C d_W_meet_4 rfl rfl ?_
  refine g_cvI C k_Cr rfl mv_Cr_has ml_W_163 d_W_meet_5 hf (fun r μ1 h => t_Cr_has C.2.2.2.2.2.2.2.2.1 h) rfl rfl (by decide) (Nat.le_of_ble_eq_true rfl) (fun r2 μ1 hf => ?_)
  refine g_if_eq (tgt := 34) C d_W_meet_8 (by decide) hf (fun c3 hf => ?_) (fun c3 hf => ?_)
  · refine g_iconst (v := -1) C d_W_meet_34 (by decide) ?_
    exact g_iret C d_W_meet_35 hf
  · refine g_aload_n C d_W_meet_11 rfl rfl ?_
    refine g_getR (b := 11) (k := 3) C k_W (by decide) fl_W_35 rfl rfl d_W_meet_12 ?_
    refine g_iload_n C d_W_meet_15 rfl rfl ?_
    refine g_cvI C k_Cr rfl mv_Cr_has ml_W_163 d_W_meet_16 hf (fun r μ1 h => t_Cr_has C.2.2.2.2.2.2.2.2.1 h) rfl rfl (by decide) (Nat.le_of_ble_eq_true rfl) (fun r5 μ4 hf => ?_)
    refine g_if_eq (tgt := 34) C d_W_meet_19 (by decide) hf (fun c6 hf => ?_) (fun c6 hf => ?_)
    · refine g_iconst (v := -1) C d_W_meet_34 (by decide) ?_
      exact g_iret C d_W_meet_35 hf
    · refine g_iload_n C d_W_meet_22 rfl rfl ?_
      refine g_iload_n C d_W_meet_23 rfl rfl ?_
      refine g_icmp_eq (tgt := 34) C d_W_meet_24 (by decide) hf (fun c7 hf => ?_) (fun c7 hf => ?_)
      · refine g_iconst (v := -1) C d_W_meet_34 (by decide) ?_
        exact g_iret C d_W_meet_35 hf
      · refine g_iload_n C d_W_meet_27 rfl rfl ?_
        refine g_csI C mv_W_isStart ml_W_307 d_W_meet_28 hf (fun r μ1 h => t_W_isStart C.2.2.2.2.2.2.2.2.1 h) rfl rfl (by decide) (Nat.le_of_ble_eq_true rfl) (fun r9 μ8 hf => ?_)
        refine g_if_ne (tgt := 36) C d_W_meet_31 (by decide) hf (fun c10 hf => ?_) (fun c10 hf => ?_)
        · refine g_iconst (v := -1) C d_W_meet_34 (by decide) ?_
          exact g_iret C d_W_meet_35 hf
        · refine g_aload_n C d_W_meet_36 rfl rfl ?_
          refine g_getR (b := 11) (k := 3) C k_W (by decide) fl_W_35 rfl rfl d_W_meet_37 ?_
          refine g_iload_n C d_W_meet_40 rfl rfl ?_
          refine g_cvI C k_Cr rfl mv_Cr_lacks ml_W_164 d_W_meet_41 hf (fun r μ1 h => t_Cr_lacks C.2.2.2.2.2.2.2.2.1 h) rfl rfl (by decide) (Nat.le_of_ble_eq_true rfl) (fun r12 μ11 hf => ?_)
          refine g_if_ne (tgt := 58) C d_W_meet_44 (by decide) hf (fun c13 hf => ?_) (fun c13 hf => ?_)
          · refine g_aload_n C d_W_meet_47 rfl rfl ?_
            refine g_getR (b := 11) (k := 3) C k_W (by decide) fl_W_35 rfl rfl d_W_meet_48 ?_
            refine g_iload_n C d_W_meet_51 rfl rfl ?_
            refine g_cvI C k_Cr rfl mv_Cr_lacks ml_W_164 d_W_meet_52 hf (fun r μ1 h => t_Cr_lacks C.2.2.2.2.2.2.2.2.1 h) rfl rfl (by decide) (Nat.le_of_ble_eq_true rfl) (fun r15 μ14 hf => ?_)
            refine g_if_eq (tgt := 67) C d_W_meet_55 (by decide) hf (fun c16 hf => ?_) (fun c16 hf => ?_)
            · refine g_aload_n C d_W_meet_67 rfl rfl ?_
              refine g_getR (b := 11) (k := 3) C k_W (by decide) fl_W_35 rfl rfl d_W_meet_68 ?_
              refine g_cvV C k_Cr rfl mv_Cr_refresh ml_W_181 d_W_meet_71 hf (fun μ1 h => t_Cr_refresh C.2.2.2.2.2.2.2.2.1 h) rfl rfl (by decide) (Nat.le_of_ble_eq_true rfl) (fun μ17 hf => ?_)
              refine g_aload_n C d_W_meet_74 rfl rfl ?_
              refine g_getR (b := 11) (k := 3) C k_W (by decide) fl_W_35 rfl rfl d_W_meet_75 ?_
              refine g_iload_n C d_W_meet_78 rfl rfl ?_
              refine g_cvI C k_Cr rfl mv_Cr_goes ml_W_220 d_W_meet_79 hf (fun r μ1 h => t_Cr_goes C.2.2.2.2.2.2.2.2.1 h) rfl rfl (by decide) (Nat.le_of_ble_eq_true rfl) (fun r19 μ18 hf => ?_)
              refine g_if_eq (tgt := 96) C d_W_meet_82 (by decide) hf (fun c20 hf => ?_) (fun c20 hf => ?_)
              · refine g_bipush (v := -4) C d_W_meet_96 (by decide) ?_
                exact g_iret C d_W_meet_98 hf
              · refine g_aload_n C d_W_meet_85 rfl rfl ?_
                refine g_getR (b := 11) (k := 3) C k_W (by decide) fl_W_35 rfl rfl d_W_meet_86 ?_
                refine g_iload_n C d_W_meet_89 rfl rfl ?_
                refine g_cvI C k_Cr rfl mv_Cr_goes ml_W_220 d_W_meet_90 hf (fun r μ1 h => t_Cr_goes C.2.2.2.2.2.2.2.2.1 h) rfl rfl (by decide) (Nat.le_of_ble_eq_true rfl) (fun r22 μ21 hf => ?_)
                refine g_if_ne (tgt := 99) C d_W_meet_93 (by decide) hf (fun c23 hf => ?_) (fun c23 hf => ?_)
                · refine g_bipush (v := -4) C d_W_meet_96 (by decide) ?_
                  exact g_iret C d_W_meet_98 hf
                · refine g_aload_n C d_W_meet_99 rfl rfl ?_
                  refine g_getR (b := 11) (k := 3) C k_W (by decide) fl_W_35 rfl rfl d_W_meet_100 ?_
                  refine g_iconst (v := 1) C d_W_meet_103 (by decide) ?_
                  refine g_iload_n C d_W_meet_104 rfl rfl ?_
                  refine g_ishl C d_W_meet_105 ?_
                  refine g_iconst (v := 1) C d_W_meet_106 (by decide) ?_
                  refine g_iload_n C d_W_meet_107 rfl rfl ?_
                  refine g_ishl C d_W_meet_108 ?_
                  refine g_ior C d_W_meet_109 ?_
                  refine g_cvI C k_Cr rfl mv_Cr_jointOf ml_W_229 d_W_meet_110 hf (fun r μ1 h => t_Cr_jointOf C.2.2.2.2.2.2.2.2.1 h) rfl rfl (by decide) (Nat.le_of_ble_eq_true rfl) (fun r25 μ24 hf => ?_)
                  refine g_iconst (v := 1) C d_W_meet_113 (by decide) ?_
                  refine g_icmp_ge (tgt := 120) C d_W_meet_114 (by decide) hf (fun c26 hf => ?_) (fun c26 hf => ?_)
                  · refine g_aload_n C d_W_meet_120 rfl rfl ?_
                    refine g_aload_n C d_W_meet_121 rfl rfl ?_
                    refine g_getR (b := 71) (k := 5) C k_W (by decide) fl_W_51 rfl rfl d_W_meet_122 ?_
                    refine g_iload_n C d_W_meet_125 rfl rfl ?_
                    refine g_iload_n C d_W_meet_126 rfl rfl ?_
                    refine g_iload_n C d_W_meet_127 rfl rfl ?_
                    refine g_i2l C d_W_meet_128 ?_
                    refine g_ldc2 C cl_W_310 d_W_meet_129 ?_
                    refine g_lmul C d_W_meet_132 ?_
                    refine g_cvL C k_Me rfl mv_Me_firstOf ml_W_312 d_W_meet_133 hf (fun r μ1 h => t_Me_firstOf C.2.2.2.2.2.2.2.2.1 h) rfl rfl (by decide) (Nat.le_of_ble_eq_true rfl) (fun r28 μ27 hf => ?_)
                    refine g_cvI C k_W rfl mv_W_tellTime ml_W_316 d_W_meet_136 hf (fun r μ1 h => t_W_tellTime C.2.2.2.2.2.2.2.2.1 h) rfl rfl (by decide) (Nat.le_of_ble_eq_true rfl) (fun r30 μ29 hf => ?_)
                    exact g_iret C d_W_meet_139 hf
                  · refine g_bipush (v := -6) C d_W_meet_117 (by decide) ?_
                    exact g_iret C d_W_meet_119 hf
            · exact t_W_meet_B58 C N _ _ rfl hf
          · exact t_W_meet_B58 C N _ _ rfl hf
set_option maxHeartbeats 4000000 in
theorem t_W_word_B53 {ad : Nat → Nat} {dA : Nat → ClassId} {D : va_G} {p : Program} {l : Launch} {e : Env} {s : State} {m : MethodId} {args : Array Value} {below : List Frame} {meth : Method} {c : Code} {r : Int32} {μ' : Mm} (C : Cx CLS SHX ad dA D p s m args meth c c_W_word 4 R_W (some .int)) (N : Nat)   : ∀  (μ : Mm) (lv : Nat → Option Value), lv 0 = some (.ref (ad 0)) → f_W_word_B53 N μ = some (r, μ') → Go CLS SHX ad dA D p l e (rmD 6) s m args below meth c 4 (some (.int r)) μ' 53 lv [] μ := by
  intro μ lv hl0 hf
  unfold f_W_word_B53 at hf
  refine g_aload_n C d_W_word_53 rfl hl0 ?_
  refine g_getR (b := 1) (k := 0) C k_W (by decide) fl_W_10 rfl rfl d_W_word_54 ?_
  refine g_iconst (v := 1) C d_W_word_57 (by decide) ?_
  refine g_cvI C k_Ta rfl mv_Ta_found ml_W_75 d_W_word_58 hf (fun r μ1 h => t_Ta_found C.2.2.2.2.2.2.2.2.1 h) rfl rfl (by decide) (Nat.le_of_ble_eq_true rfl) (fun r33 μ32 hf => ?_)
  exact g_iret C d_W_word_61 hf
set_option maxHeartbeats 4000000 in
theorem t_W_word {l : Launch} {ad : Nat → Nat} {dA : Nat → ClassId} {D : va_G} (hi : Inj SHX ad) {N : Nat} {a1 : Int32} {a2 : Int32} {a3 : Int32}  {μ μ' : Mm} {r : Int32} (hf : f_W_word N a1 a2 a3 μ = some (r, μ')) : Ct CLS l SHX ad dA D y_W_word c_W_word 4 (some .int) 6 [.ref (ad 0), .int a1, .int a2, .int a3] μ (some (.int r)) μ' := by
  unfold f_W_word at hf
  refine ct_of (by decide) hi (Nat.le_of_ble_eq_true rfl) ?_
  intro p e s m args below meth c C
  refine g_aload_n C d_W_word_0 rfl rfl ?_
  refine g_getR (b := 11) (k := 3) C k_W (by decide) fl_W_35 rfl rfl d_W_word_1 ?_
  refine g_iload_n C d_W_word_4 rfl rfl ?_
  refine g_cvI C k_Cr rfl mv_Cr_has ml_W_163 d_W_word_5 hf (fun r μ1 h => t_Cr_has C.2.2.2.2.2.2.2.2.1 h) rfl rfl (by decide) (Nat.le_of_ble_eq_true rfl) (fun r2 μ1 hf => ?_)
  refine g_if_eq (tgt := 29) C d_W_word_8 (by decide) hf (fun c3 hf => ?_) (fun c3 hf => ?_)
  · refine g_iconst (v := -1) C d_W_word_29 (by decide) ?_
    exact g_iret C d_W_word_30 hf
  · refine g_aload_n C d_W_word_11 rfl rfl ?_
    refine g_getR (b := 11) (k := 3) C k_W (by decide) fl_W_35 rfl rfl d_W_word_12 ?_
    refine g_iload_n C d_W_word_15 rfl rfl ?_
    refine g_cvI C k_Cr rfl mv_Cr_has ml_W_163 d_W_word_16 hf (fun r μ1 h => t_Cr_has C.2.2.2.2.2.2.2.2.1 h) rfl rfl (by decide) (Nat.le_of_ble_eq_true rfl) (fun r5 μ4 hf => ?_)
    refine g_if_eq (tgt := 29) C d_W_word_19 (by decide) hf (fun c6 hf => ?_) (fun c6 hf => ?_)
    · refine g_iconst (v := -1) C d_W_word_29 (by decide) ?_
      exact g_iret C d_W_word_30 hf
    · refine g_iload_n C d_W_word_22 rfl rfl ?_
      refine g_csI C mv_W_isStart ml_W_307 d_W_word_23 hf (fun r μ1 h => t_W_isStart C.2.2.2.2.2.2.2.2.1 h) rfl rfl (by decide) (Nat.le_of_ble_eq_true rfl) (fun r8 μ7 hf => ?_)
      refine g_if_ne (tgt := 31) C d_W_word_26 (by decide) hf (fun c9 hf => ?_) (fun c9 hf => ?_)
      · refine g_iconst (v := -1) C d_W_word_29 (by decide) ?_
        exact g_iret C d_W_word_30 hf
      · refine g_aload_n C d_W_word_31 rfl rfl ?_
        refine g_getR (b := 11) (k := 3) C k_W (by decide) fl_W_35 rfl rfl d_W_word_32 ?_
        refine g_iload_n C d_W_word_35 rfl rfl ?_
        refine g_cvI C k_Cr rfl mv_Cr_lacks ml_W_164 d_W_word_36 hf (fun r μ1 h => t_Cr_lacks C.2.2.2.2.2.2.2.2.1 h) rfl rfl (by decide) (Nat.le_of_ble_eq_true rfl) (fun r11 μ10 hf => ?_)
        refine g_if_ne (tgt := 53) C d_W_word_39 (by decide) hf (fun c12 hf => ?_) (fun c12 hf => ?_)
        · refine g_aload_n C d_W_word_42 rfl rfl ?_
          refine g_getR (b := 11) (k := 3) C k_W (by decide) fl_W_35 rfl rfl d_W_word_43 ?_
          refine g_iload_n C d_W_word_46 rfl rfl ?_
          refine g_cvI C k_Cr rfl mv_Cr_lacks ml_W_164 d_W_word_47 hf (fun r μ1 h => t_Cr_lacks C.2.2.2.2.2.2.2.2.1 h) rfl rfl (by decide) (Nat.le_of_ble_eq_true rfl) (fun r14 μ13 hf => ?_)
          refine g_if_eq (tgt := 62) C d_W_word_50 (by decide) hf (fun c15 hf => ?_) (fun c15 hf => ?_)
          · refine g_aload_n C d_W_word_62 rfl rfl ?_
            refine g_getR (b := 11) (k := 3) C k_W (by decide) fl_W_35 rfl rfl d_W_word_63 ?_
            refine g_cvV C k_Cr rfl mv_Cr_refresh ml_W_181 d_W_word_66 hf (fun μ1 h => t_Cr_refresh C.2.2.2.2.2.2.2.2.1 h) rfl rfl (by decide) (Nat.le_of_ble_eq_true rfl) (fun μ16 hf => ?_)
            refine g_aload_n C d_W_word_69 rfl rfl ?_
            refine g_getR (b := 11) (k := 3) C k_W (by decide) fl_W_35 rfl rfl d_W_word_70 ?_
            refine g_iload_n C d_W_word_73 rfl rfl ?_
            refine g_cvI C k_Cr rfl mv_Cr_goes ml_W_220 d_W_word_74 hf (fun r μ1 h => t_Cr_goes C.2.2.2.2.2.2.2.2.1 h) rfl rfl (by decide) (Nat.le_of_ble_eq_true rfl) (fun r18 μ17 hf => ?_)
            refine g_if_eq (tgt := 91) C d_W_word_77 (by decide) hf (fun c19 hf => ?_) (fun c19 hf => ?_)
            · refine g_bipush (v := -4) C d_W_word_91 (by decide) ?_
              exact g_iret C d_W_word_93 hf
            · refine g_aload_n C d_W_word_80 rfl rfl ?_
              refine g_getR (b := 11) (k := 3) C k_W (by decide) fl_W_35 rfl rfl d_W_word_81 ?_
              refine g_iload_n C d_W_word_84 rfl rfl ?_
              refine g_cvI C k_Cr rfl mv_Cr_goes ml_W_220 d_W_word_85 hf (fun r μ1 h => t_Cr_goes C.2.2.2.2.2.2.2.2.1 h) rfl rfl (by decide) (Nat.le_of_ble_eq_true rfl) (fun r21 μ20 hf => ?_)
              refine g_if_ne (tgt := 94) C d_W_word_88 (by decide) hf (fun c22 hf => ?_) (fun c22 hf => ?_)
              · refine g_bipush (v := -4) C d_W_word_91 (by decide) ?_
                exact g_iret C d_W_word_93 hf
              · refine g_aload_n C d_W_word_94 rfl rfl ?_
                refine g_getR (b := 11) (k := 3) C k_W (by decide) fl_W_35 rfl rfl d_W_word_95 ?_
                refine g_cvI C k_Cr rfl mv_Cr_isAnyPairSpent ml_W_320 d_W_word_98 hf (fun r μ1 h => t_Cr_isAnyPairSpent C.2.2.2.2.2.2.2.2.1 h) rfl rfl (by decide) (Nat.le_of_ble_eq_true rfl) (fun r24 μ23 hf => ?_)
                refine g_if_eq (tgt := 107) C d_W_word_101 (by decide) hf (fun c25 hf => ?_) (fun c25 hf => ?_)
                · refine g_aload_n C d_W_word_107 rfl rfl ?_
                  refine g_getR (b := 71) (k := 5) C k_W (by decide) fl_W_51 rfl rfl d_W_word_108 ?_
                  refine g_iload_n C d_W_word_111 rfl rfl ?_
                  refine g_iload_n C d_W_word_112 rfl rfl ?_
                  refine g_i2l C d_W_word_113 ?_
                  refine g_ldc2 C cl_W_310 d_W_word_114 ?_
                  refine g_lmul C d_W_word_117 ?_
                  refine g_iconst (v := 1) C d_W_word_118 (by decide) ?_
                  refine g_iload_n C d_W_word_119 rfl rfl ?_
                  refine g_ishl C d_W_word_120 ?_
                  refine g_cvI C k_Me rfl mv_Me_pass ml_W_324 d_W_word_121 hf (fun r μ1 h => t_Me_pass C.2.2.2.2.2.2.2.2.1 h) rfl rfl (by decide) (Nat.le_of_ble_eq_true rfl) (fun r27 μ26 hf => ?_)
                  refine g_pop C d_W_word_124 rfl ?_
                  refine g_aload_n C d_W_word_125 rfl rfl ?_
                  refine g_aload_n C d_W_word_126 rfl rfl ?_
                  refine g_getR (b := 71) (k := 5) C k_W (by decide) fl_W_51 rfl rfl d_W_word_127 ?_
                  refine g_iload_n C d_W_word_130 rfl rfl ?_
                  refine g_cvL C k_Me rfl mv_Me_wordAt ml_W_328 d_W_word_131 hf (fun r μ1 h => t_Me_wordAt C.2.2.2.2.2.2.2.2.1 h) rfl rfl (by decide) (Nat.le_of_ble_eq_true rfl) (fun r29 μ28 hf => ?_)
                  refine g_cvI C k_W rfl mv_W_tellTime ml_W_316 d_W_word_134 hf (fun r μ1 h => t_W_tellTime C.2.2.2.2.2.2.2.2.1 h) rfl rfl (by decide) (Nat.le_of_ble_eq_true rfl) (fun r31 μ30 hf => ?_)
                  exact g_iret C d_W_word_137 hf
                · refine g_bipush (v := -6) C d_W_word_104 (by decide) ?_
                  exact g_iret C d_W_word_106 hf
          · exact t_W_word_B53 C N _ _ rfl hf
        · exact t_W_word_B53 C N _ _ rfl hf
set_option maxHeartbeats 4000000 in
theorem t_W_spread {l : Launch} {ad : Nat → Nat} {dA : Nat → ClassId} {D : va_G} (hi : Inj SHX ad) {N : Nat} {a1 : Int32} {a2 : Int32}  {μ μ' : Mm} {r : Int32} (hf : f_W_spread N a1 a2 μ = some (r, μ')) : Ct CLS l SHX ad dA D y_W_spread c_W_spread 3 (some .int) 6 [.ref (ad 0), .int a1, .int a2] μ (some (.int r)) μ' := by
  unfold f_W_spread at hf
  refine ct_of (by decide) hi (Nat.le_of_ble_eq_true rfl) ?_
  intro p e s m args below meth c C
  refine g_aload_n C d_W_spread_0 rfl rfl ?_
  refine g_getR (b := 11) (k := 3) C k_W (by decide) fl_W_35 rfl rfl d_W_spread_1 ?_
  refine g_iload_n C d_W_spread_4 rfl rfl ?_
  refine g_cvI C k_Cr rfl mv_Cr_has ml_W_163 d_W_spread_5 hf (fun r μ1 h => t_Cr_has C.2.2.2.2.2.2.2.2.1 h) rfl rfl (by decide) (Nat.le_of_ble_eq_true rfl) (fun r2 μ1 hf => ?_)
  refine g_if_eq (tgt := 18) C d_W_spread_8 (by decide) hf (fun c3 hf => ?_) (fun c3 hf => ?_)
  · refine g_iconst (v := -1) C d_W_spread_18 (by decide) ?_
    exact g_iret C d_W_spread_19 hf
  · refine g_iload_n C d_W_spread_11 rfl rfl ?_
    refine g_csI C mv_W_isStart ml_W_307 d_W_spread_12 hf (fun r μ1 h => t_W_isStart C.2.2.2.2.2.2.2.2.1 h) rfl rfl (by decide) (Nat.le_of_ble_eq_true rfl) (fun r5 μ4 hf => ?_)
    refine g_if_ne (tgt := 20) C d_W_spread_15 (by decide) hf (fun c6 hf => ?_) (fun c6 hf => ?_)
    · refine g_iconst (v := -1) C d_W_spread_18 (by decide) ?_
      exact g_iret C d_W_spread_19 hf
    · refine g_aload_n C d_W_spread_20 rfl rfl ?_
      refine g_getR (b := 11) (k := 3) C k_W (by decide) fl_W_35 rfl rfl d_W_spread_21 ?_
      refine g_iload_n C d_W_spread_24 rfl rfl ?_
      refine g_cvI C k_Cr rfl mv_Cr_lacks ml_W_164 d_W_spread_25 hf (fun r μ1 h => t_Cr_lacks C.2.2.2.2.2.2.2.2.1 h) rfl rfl (by decide) (Nat.le_of_ble_eq_true rfl) (fun r8 μ7 hf => ?_)
      refine g_if_eq (tgt := 40) C d_W_spread_28 (by decide) hf (fun c9 hf => ?_) (fun c9 hf => ?_)
      · refine g_aload_n C d_W_spread_40 rfl rfl ?_
        refine g_getR (b := 11) (k := 3) C k_W (by decide) fl_W_35 rfl rfl d_W_spread_41 ?_
        refine g_cvV C k_Cr rfl mv_Cr_refresh ml_W_181 d_W_spread_44 hf (fun μ1 h => t_Cr_refresh C.2.2.2.2.2.2.2.2.1 h) rfl rfl (by decide) (Nat.le_of_ble_eq_true rfl) (fun μ10 hf => ?_)
        refine g_aload_n C d_W_spread_47 rfl rfl ?_
        refine g_getR (b := 11) (k := 3) C k_W (by decide) fl_W_35 rfl rfl d_W_spread_48 ?_
        refine g_iload_n C d_W_spread_51 rfl rfl ?_
        refine g_cvI C k_Cr rfl mv_Cr_goes ml_W_220 d_W_spread_52 hf (fun r μ1 h => t_Cr_goes C.2.2.2.2.2.2.2.2.1 h) rfl rfl (by decide) (Nat.le_of_ble_eq_true rfl) (fun r12 μ11 hf => ?_)
        refine g_if_ne (tgt := 61) C d_W_spread_55 (by decide) hf (fun c13 hf => ?_) (fun c13 hf => ?_)
        · refine g_bipush (v := -4) C d_W_spread_58 (by decide) ?_
          exact g_iret C d_W_spread_60 hf
        · refine g_aload_n C d_W_spread_61 rfl rfl ?_
          refine g_getR (b := 11) (k := 3) C k_W (by decide) fl_W_35 rfl rfl d_W_spread_62 ?_
          refine g_cvI C k_Cr rfl mv_Cr_isAnyPairSpent ml_W_320 d_W_spread_65 hf (fun r μ1 h => t_Cr_isAnyPairSpent C.2.2.2.2.2.2.2.2.1 h) rfl rfl (by decide) (Nat.le_of_ble_eq_true rfl) (fun r15 μ14 hf => ?_)
          refine g_if_eq (tgt := 74) C d_W_spread_68 (by decide) hf (fun c16 hf => ?_) (fun c16 hf => ?_)
          · refine g_aload_n C d_W_spread_74 rfl rfl ?_
            refine g_getR (b := 71) (k := 5) C k_W (by decide) fl_W_51 rfl rfl d_W_spread_75 ?_
            refine g_iload_n C d_W_spread_78 rfl rfl ?_
            refine g_iload_n C d_W_spread_79 rfl rfl ?_
            refine g_i2l C d_W_spread_80 ?_
            refine g_ldc2 C cl_W_310 d_W_spread_81 ?_
            refine g_lmul C d_W_spread_84 ?_
            refine g_iconst (v := 0) C d_W_spread_85 (by decide) ?_
            refine g_cvI C k_Me rfl mv_Me_pass ml_W_324 d_W_spread_86 hf (fun r μ1 h => t_Me_pass C.2.2.2.2.2.2.2.2.1 h) rfl rfl (by decide) (Nat.le_of_ble_eq_true rfl) (fun r18 μ17 hf => ?_)
            refine g_csI C mv_Ji_bitCount_0f7a4 ml_W_242 d_W_spread_89 hf (fun r μ1 h => t_Ji_bitCount_0f7a4 C.2.2.2.2.2.2.2.2.1 h) rfl rfl (by decide) (Nat.le_of_ble_eq_true rfl) (fun r20 μ19 hf => ?_)
            exact g_iret C d_W_spread_92 hf
          · refine g_bipush (v := -6) C d_W_spread_71 (by decide) ?_
            exact g_iret C d_W_spread_73 hf
      · refine g_aload_n C d_W_spread_31 rfl rfl ?_
        refine g_getR (b := 1) (k := 0) C k_W (by decide) fl_W_10 rfl rfl d_W_spread_32 ?_
        refine g_iconst (v := 1) C d_W_spread_35 (by decide) ?_
        refine g_cvI C k_Ta rfl mv_Ta_found ml_W_75 d_W_spread_36 hf (fun r μ1 h => t_Ta_found C.2.2.2.2.2.2.2.2.1 h) rfl rfl (by decide) (Nat.le_of_ble_eq_true rfl) (fun r22 μ21 hf => ?_)
        exact g_iret C d_W_spread_39 hf
set_option maxHeartbeats 4000000 in
theorem t_W_round {l : Launch} {ad : Nat → Nat} {dA : Nat → ClassId} {D : va_G} (hi : Inj SHX ad) {N : Nat}   {μ μ' : Mm} {r : Int32} (hf : f_W_round N  μ = some (r, μ')) : Ct CLS l SHX ad dA D y_W_round c_W_round 1 (some .int) 6 [.ref (ad 0)] μ (some (.int r)) μ' := by
  unfold f_W_round at hf
  refine ct_of (by decide) hi (Nat.le_of_ble_eq_true rfl) ?_
  intro p e s m args below meth c C
  refine g_aload_n C d_W_round_0 rfl rfl ?_
  refine g_getR (b := 6) (k := 2) C k_W (by decide) fl_W_26 rfl rfl d_W_round_1 ?_
  refine g_cvI C k_Gr rfl mv_Gr_worthy ml_W_256 d_W_round_4 hf (fun r μ1 h => t_Gr_worthy C.2.2.2.2.2.2.2.2.1 h) rfl rfl (by decide) (Nat.le_of_ble_eq_true rfl) (fun r2 μ1 hf => ?_)
  refine g_csI C mv_Ji_bitCount_0f7a4 ml_W_242 d_W_round_7 hf (fun r μ1 h => t_Ji_bitCount_0f7a4 C.2.2.2.2.2.2.2.2.1 h) rfl rfl (by decide) (Nat.le_of_ble_eq_true rfl) (fun r4 μ3 hf => ?_)
  refine g_bipush (v := 10) C d_W_round_10 (by decide) ?_
  refine g_icmp_le (tgt := 18) C d_W_round_12 (by decide) hf (fun c5 hf => ?_) (fun c5 hf => ?_)
  · refine g_aload_n C d_W_round_18 rfl rfl ?_
    refine g_getR (b := 75) (k := 6) C k_W (by decide) fl_W_58 rfl rfl d_W_round_19 ?_
    refine g_cvV C k_To rfl mv_To_refresh ml_W_332 d_W_round_22 hf (fun μ1 h => t_To_refresh C.2.2.2.2.2.2.2.2.1 h) rfl rfl (by decide) (Nat.le_of_ble_eq_true rfl) (fun μ6 hf => ?_)
    refine g_aload_n C d_W_round_25 rfl rfl ?_
    refine g_getR (b := 75) (k := 6) C k_W (by decide) fl_W_58 rfl rfl d_W_round_26 ?_
    refine g_getI (k := 0) C k_To (by decide) fl_W_333 rfl rfl d_W_round_29 ?_
    exact g_iret C d_W_round_32 hf
  · refine g_bipush (v := -4) C d_W_round_15 (by decide) ?_
    exact g_iret C d_W_round_17 hf
set_option maxHeartbeats 4000000 in
theorem t_W_roundAt {l : Launch} {ad : Nat → Nat} {dA : Nat → ClassId} {D : va_G} (hi : Inj SHX ad) {N : Nat} {a1 : Int32}  {μ μ' : Mm} {r : Int32} (hf : f_W_roundAt N a1 μ = some (r, μ')) : Ct CLS l SHX ad dA D y_W_roundAt c_W_roundAt 2 (some .int) 6 [.ref (ad 0), .int a1] μ (some (.int r)) μ' := by
  unfold f_W_roundAt at hf
  refine ct_of (by decide) hi (Nat.le_of_ble_eq_true rfl) ?_
  intro p e s m args below meth c C
  refine g_aload_n C d_W_roundAt_0 rfl rfl ?_
  refine g_getR (b := 6) (k := 2) C k_W (by decide) fl_W_26 rfl rfl d_W_roundAt_1 ?_
  refine g_cvI C k_Gr rfl mv_Gr_worthy ml_W_256 d_W_roundAt_4 hf (fun r μ1 h => t_Gr_worthy C.2.2.2.2.2.2.2.2.1 h) rfl rfl (by decide) (Nat.le_of_ble_eq_true rfl) (fun r2 μ1 hf => ?_)
  refine g_csI C mv_Ji_bitCount_0f7a4 ml_W_242 d_W_roundAt_7 hf (fun r μ1 h => t_Ji_bitCount_0f7a4 C.2.2.2.2.2.2.2.2.1 h) rfl rfl (by decide) (Nat.le_of_ble_eq_true rfl) (fun r4 μ3 hf => ?_)
  refine g_bipush (v := 10) C d_W_roundAt_10 (by decide) ?_
  refine g_icmp_le (tgt := 18) C d_W_roundAt_12 (by decide) hf (fun c5 hf => ?_) (fun c5 hf => ?_)
  · refine g_aload_n C d_W_roundAt_18 rfl rfl ?_
    refine g_getR (b := 75) (k := 6) C k_W (by decide) fl_W_58 rfl rfl d_W_roundAt_19 ?_
    refine g_cvV C k_To rfl mv_To_refresh ml_W_332 d_W_roundAt_22 hf (fun μ1 h => t_To_refresh C.2.2.2.2.2.2.2.2.1 h) rfl rfl (by decide) (Nat.le_of_ble_eq_true rfl) (fun μ6 hf => ?_)
    refine g_aload_n C d_W_roundAt_25 rfl rfl ?_
    refine g_getR (b := 75) (k := 6) C k_W (by decide) fl_W_58 rfl rfl d_W_roundAt_26 ?_
    refine g_iload_n C d_W_roundAt_29 rfl rfl ?_
    refine g_cvI C k_To rfl mv_To_stopAt ml_W_336 d_W_roundAt_30 hf (fun r μ1 h => t_To_stopAt C.2.2.2.2.2.2.2.2.1 h) rfl rfl (by decide) (Nat.le_of_ble_eq_true rfl) (fun r8 μ7 hf => ?_)
    exact g_iret C d_W_roundAt_33 hf
  · refine g_bipush (v := -4) C d_W_roundAt_15 (by decide) ?_
    exact g_iret C d_W_roundAt_17 hf
set_option maxHeartbeats 4000000 in
theorem t_W_parting {l : Launch} {ad : Nat → Nat} {dA : Nat → ClassId} {D : va_G} (hi : Inj SHX ad) {N : Nat}   {μ μ' : Mm} {r : Int32} (hf : f_W_parting N  μ = some (r, μ')) : Ct CLS l SHX ad dA D y_W_parting c_W_parting 1 (some .int) 6 [.ref (ad 0)] μ (some (.int r)) μ' := by
  unfold f_W_parting at hf
  refine ct_of (by decide) hi (Nat.le_of_ble_eq_true rfl) ?_
  intro p e s m args below meth c C
  refine g_aload_n C d_W_parting_0 rfl rfl ?_
  refine g_getR (b := 6) (k := 2) C k_W (by decide) fl_W_26 rfl rfl d_W_parting_1 ?_
  refine g_getI (k := 0) C k_Gr (by decide) fl_W_134 rfl rfl d_W_parting_4 ?_
  refine g_if_eq (tgt := 19) C d_W_parting_7 (by decide) hf (fun c1 hf => ?_) (fun c1 hf => ?_)
  · refine g_aload_n C d_W_parting_19 rfl rfl ?_
    refine g_getR (b := 79) (k := 7) C k_W (by decide) fl_W_67 rfl rfl d_W_parting_20 ?_
    refine g_cvI C k_Sh rfl mv_Sh_settle ml_W_339 d_W_parting_23 hf (fun r μ1 h => t_Sh_settle C.2.2.2.2.2.2.2.2.1 h) rfl rfl (by decide) (Nat.le_of_ble_eq_true rfl) (fun r3 μ2 hf => ?_)
    exact g_iret C d_W_parting_26 hf
  · refine g_aload_n C d_W_parting_10 rfl rfl ?_
    refine g_getR (b := 1) (k := 0) C k_W (by decide) fl_W_10 rfl rfl d_W_parting_11 ?_
    refine g_iconst (v := 3) C d_W_parting_14 (by decide) ?_
    refine g_cvI C k_Ta rfl mv_Ta_found ml_W_75 d_W_parting_15 hf (fun r μ1 h => t_Ta_found C.2.2.2.2.2.2.2.2.1 h) rfl rfl (by decide) (Nat.le_of_ble_eq_true rfl) (fun r5 μ4 hf => ?_)
    exact g_iret C d_W_parting_18 hf
set_option maxHeartbeats 4000000 in
theorem t_W_partOf {l : Launch} {ad : Nat → Nat} {dA : Nat → ClassId} {D : va_G} (hi : Inj SHX ad) {N : Nat} {a1 : Int32} {a2 : Int32}  {μ μ' : Mm} {r : Int32} (hf : f_W_partOf N a1 a2 μ = some (r, μ')) : Ct CLS l SHX ad dA D y_W_partOf c_W_partOf 3 (some .int) 0 [.ref (ad 0), .int a1, .int a2] μ (some (.int r)) μ' := by
  unfold f_W_partOf at hf
  refine ct_of (by decide) hi (Nat.le_of_ble_eq_true rfl) ?_
  intro p e s m args below meth c C
  refine g_iload_n C d_W_partOf_0 rfl rfl ?_
  refine g_if_lt (tgt := 10) C d_W_partOf_1 (by decide) hf (fun c1 hf => ?_) (fun c1 hf => ?_)
  · refine g_iconst (v := -1) C d_W_partOf_10 (by decide) ?_
    exact g_iret C d_W_partOf_11 hf
  · refine g_iload_n C d_W_partOf_4 rfl rfl ?_
    refine g_bipush (v := 8) C d_W_partOf_5 (by decide) ?_
    refine g_icmp_lt (tgt := 12) C d_W_partOf_7 (by decide) hf (fun c2 hf => ?_) (fun c2 hf => ?_)
    · refine g_iload_n C d_W_partOf_12 rfl rfl ?_
      refine g_if_eq (tgt := 28) C d_W_partOf_13 (by decide) hf (fun c3 hf => ?_) (fun c3 hf => ?_)
      · refine g_aload_n C d_W_partOf_28 rfl rfl ?_
        refine g_getR (b := 79) (k := 7) C k_W (by decide) fl_W_67 rfl rfl d_W_partOf_29 ?_
        refine g_getR (b := 80) (k := 0) C k_Sh (by decide) fl_W_345 rfl rfl d_W_partOf_32 ?_
        refine g_iload_n C d_W_partOf_35 rfl rfl ?_
        refine g_iald C rfl d_W_partOf_36 hf (fun hf => ?_)
        exact g_iret C d_W_partOf_37 hf
      · refine g_aload_n C d_W_partOf_16 rfl rfl ?_
        refine g_getR (b := 79) (k := 7) C k_W (by decide) fl_W_67 rfl rfl d_W_partOf_17 ?_
        refine g_getR (b := 81) (k := 1) C k_Sh (by decide) fl_W_342 rfl rfl d_W_partOf_20 ?_
        refine g_iload_n C d_W_partOf_23 rfl rfl ?_
        refine g_iald C rfl d_W_partOf_24 hf (fun hf => ?_)
        refine g_goto (tgt := 37) C d_W_partOf_25 (by decide) ?_
        exact g_iret C d_W_partOf_37 hf
    · refine g_iconst (v := -1) C d_W_partOf_10 (by decide) ?_
      exact g_iret C d_W_partOf_11 hf
set_option maxHeartbeats 4000000 in
theorem t_W_fuel_B64 {ad : Nat → Nat} {dA : Nat → ClassId} {D : va_G} {p : Program} {l : Launch} {e : Env} {s : State} {m : MethodId} {args : Array Value} {below : List Frame} {meth : Method} {c : Code} {r : Int32} {μ' : Mm} (C : Cx CLS SHX ad dA D p s m args meth c c_W_fuel 4 R_W (some .int)) (N : Nat)   : ∀ (v2 : Nat) (μ : Mm) (lv : Nat → Option Value), v2 < 8 → lv 0 = some (.ref (ad 0)) → lv 2 = some (.ref (ad (WK v2))) → f_W_fuel_B64 N v2 μ = some (r, μ') → Go CLS SHX ad dA D p l e (rmD 3) s m args below meth c 4 (some (.int r)) μ' 64 lv [] μ := by
  intro v2 μ lv hv2 hl0 hl2 hf
  unfold f_W_fuel_B64 at hf
  refine g_aload_n C d_W_fuel_64 rfl hl2 ?_
  refine g_aload_n C d_W_fuel_65 rfl hl0 ?_
  refine g_getR (b := 6) (k := 2) C k_W (by decide) fl_W_26 rfl rfl d_W_fuel_66 ?_
  refine g_cvI C k_Wk (shW _ hv2) mv_Wk_longestRide ml_W_348 d_W_fuel_69 hf (fun r μ1 h => t_Wk_longestRide C.2.2.2.2.2.2.2.2.1 hv2 h) rfl rfl (by decide) (Nat.le_of_ble_eq_true rfl) (fun r17 μ16 hf => ?_)
  exact g_iret C d_W_fuel_72 hf
set_option maxHeartbeats 4000000 in
theorem t_W_fuel {l : Launch} {ad : Nat → Nat} {dA : Nat → ClassId} {D : va_G} (hi : Inj SHX ad) {N : Nat} {a1 : Int32}  {μ μ' : Mm} {r : Int32} (hf : f_W_fuel N a1 μ = some (r, μ')) : Ct CLS l SHX ad dA D y_W_fuel c_W_fuel 4 (some .int) 3 [.ref (ad 0), .int a1] μ (some (.int r)) μ' := by
  unfold f_W_fuel at hf
  refine ct_of (by decide) hi (Nat.le_of_ble_eq_true rfl) ?_
  intro p e s m args below meth c C
  refine g_aload_n C d_W_fuel_0 rfl rfl ?_
  refine g_getR (b := 11) (k := 3) C k_W (by decide) fl_W_35 rfl rfl d_W_fuel_1 ?_
  refine g_iload_n C d_W_fuel_4 rfl rfl ?_
  refine g_cvI C k_Cr rfl mv_Cr_has ml_W_163 d_W_fuel_5 hf (fun r μ1 h => t_Cr_has C.2.2.2.2.2.2.2.2.1 h) rfl rfl (by decide) (Nat.le_of_ble_eq_true rfl) (fun r2 μ1 hf => ?_)
  refine g_if_ne (tgt := 13) C d_W_fuel_8 (by decide) hf (fun c3 hf => ?_) (fun c3 hf => ?_)
  · refine g_iconst (v := -1) C d_W_fuel_11 (by decide) ?_
    exact g_iret C d_W_fuel_12 hf
  · refine g_aload_n C d_W_fuel_13 rfl rfl ?_
    refine g_getR (b := 11) (k := 3) C k_W (by decide) fl_W_35 rfl rfl d_W_fuel_14 ?_
    refine g_iload_n C d_W_fuel_17 rfl rfl ?_
    refine g_cvI C k_Cr rfl mv_Cr_lacks ml_W_164 d_W_fuel_18 hf (fun r μ1 h => t_Cr_lacks C.2.2.2.2.2.2.2.2.1 h) rfl rfl (by decide) (Nat.le_of_ble_eq_true rfl) (fun r5 μ4 hf => ?_)
    refine g_if_eq (tgt := 33) C d_W_fuel_21 (by decide) hf (fun c6 hf => ?_) (fun c6 hf => ?_)
    · refine g_aload_n C d_W_fuel_33 rfl rfl ?_
      refine g_getR (b := 11) (k := 3) C k_W (by decide) fl_W_35 rfl rfl d_W_fuel_34 ?_
      refine g_iload_n C d_W_fuel_37 rfl rfl ?_
      refine g_cvW C k_Cr rfl mv_Cr_get ml_W_187 d_W_fuel_38 hf (fun r μ1 h => t_Cr_get C.2.2.2.2.2.2.2.2.1 h) rfl rfl (by decide) (Nat.le_of_ble_eq_true rfl) (fun r8 μ7 hf => ?_)
      obtain ⟨hw9, hf⟩ := chk8 hf
      refine g_astore_n C d_W_fuel_41 rfl (by decide) ?_
      refine g_aload_n C d_W_fuel_42 rfl upS ?_
      refine g_aload_n C d_W_fuel_43 rfl (upG rfl rfl) ?_
      refine g_getR (b := 6) (k := 2) C k_W (by decide) fl_W_26 rfl rfl d_W_fuel_44 ?_
      refine g_cvI C k_Wk (shW _ hw9) mv_Wk_faultOn ml_W_213 d_W_fuel_47 hf (fun r μ1 h => t_Wk_faultOn C.2.2.2.2.2.2.2.2.1 hw9 h) rfl rfl (by decide) (Nat.le_of_ble_eq_true rfl) (fun r11 μ10 hf => ?_)
      refine g_istore_n C d_W_fuel_50 rfl (by decide) ?_
      refine g_iload_n C d_W_fuel_51 rfl upS ?_
      refine g_iconst (v := 1) C d_W_fuel_52 (by decide) ?_
      refine g_icmp_lt (tgt := 64) C d_W_fuel_53 (by decide) hf (fun c12 hf => ?_) (fun c12 hf => ?_)
      · exact t_W_fuel_B64 C N _ _ _ hw9 ((upG (upG rfl rfl) rfl)) ((upG upS rfl)) hf
      · refine g_iload_n C d_W_fuel_56 rfl upS ?_
        refine g_iconst (v := 4) C d_W_fuel_57 (by decide) ?_
        refine g_icmp_gt (tgt := 64) C d_W_fuel_58 (by decide) hf (fun c13 hf => ?_) (fun c13 hf => ?_)
        · exact t_W_fuel_B64 C N _ _ _ hw9 ((upG (upG rfl rfl) rfl)) ((upG upS rfl)) hf
        · refine g_bipush (v := -4) C d_W_fuel_61 (by decide) ?_
          exact g_iret C d_W_fuel_63 hf
    · refine g_aload_n C d_W_fuel_24 rfl rfl ?_
      refine g_getR (b := 1) (k := 0) C k_W (by decide) fl_W_10 rfl rfl d_W_fuel_25 ?_
      refine g_iconst (v := 1) C d_W_fuel_28 (by decide) ?_
      refine g_cvI C k_Ta rfl mv_Ta_found ml_W_75 d_W_fuel_29 hf (fun r μ1 h => t_Ta_found C.2.2.2.2.2.2.2.2.1 h) rfl rfl (by decide) (Nat.le_of_ble_eq_true rfl) (fun r15 μ14 hf => ?_)
      exact g_iret C d_W_fuel_32 hf
set_option maxHeartbeats 4000000 in
theorem t_W_asked {l : Launch} {ad : Nat → Nat} {dA : Nat → ClassId} {D : va_G} (hi : Inj SHX ad) {N : Nat}   {μ μ' : Mm} {r : Int32} (hf : f_W_asked N  μ = some (r, μ')) : Ct CLS l SHX ad dA D y_W_asked c_W_asked 1 (some .int) 0 [.ref (ad 0)] μ (some (.int r)) μ' := by
  unfold f_W_asked at hf
  refine ct_of (by decide) hi (Nat.le_of_ble_eq_true rfl) ?_
  intro p e s m args below meth c C
  refine g_aload_n C d_W_asked_0 rfl rfl ?_
  refine g_getR (b := 1) (k := 0) C k_W (by decide) fl_W_10 rfl rfl d_W_asked_1 ?_
  refine g_getI (k := 2) C k_Ta (by decide) fl_W_239 rfl rfl d_W_asked_4 ?_
  exact g_iret C d_W_asked_7 hf
set_option maxHeartbeats 4000000 in
theorem t_W_upper {l : Launch} {ad : Nat → Nat} {dA : Nat → ClassId} {D : va_G} (hi : Inj SHX ad) {N : Nat}   {μ μ' : Mm} {r : Int64} (hf : f_W_upper N  μ = some (r, μ')) : Ct CLS l SHX ad dA D y_W_upper c_W_upper 1 (some .long) 0 [.ref (ad 0)] μ (some (.long r)) μ' := by
  unfold f_W_upper at hf
  refine ct_of (by decide) hi (Nat.le_of_ble_eq_true rfl) ?_
  intro p e s m args below meth c C
  refine g_aload_n C d_W_upper_0 rfl rfl ?_
  refine g_getR (b := 1) (k := 0) C k_W (by decide) fl_W_10 rfl rfl d_W_upper_1 ?_
  refine g_getL (k := 3) C k_Ta (by decide) fl_W_351 rfl rfl d_W_upper_4 ?_
  exact g_lret C d_W_upper_7 hf
set_option maxHeartbeats 4000000 in
theorem t_W_lower {l : Launch} {ad : Nat → Nat} {dA : Nat → ClassId} {D : va_G} (hi : Inj SHX ad) {N : Nat}   {μ μ' : Mm} {r : Int64} (hf : f_W_lower N  μ = some (r, μ')) : Ct CLS l SHX ad dA D y_W_lower c_W_lower 1 (some .long) 0 [.ref (ad 0)] μ (some (.long r)) μ' := by
  unfold f_W_lower at hf
  refine ct_of (by decide) hi (Nat.le_of_ble_eq_true rfl) ?_
  intro p e s m args below meth c C
  refine g_aload_n C d_W_lower_0 rfl rfl ?_
  refine g_getR (b := 1) (k := 0) C k_W (by decide) fl_W_10 rfl rfl d_W_lower_1 ?_
  refine g_getL (k := 4) C k_Ta (by decide) fl_W_355 rfl rfl d_W_lower_4 ?_
  exact g_lret C d_W_lower_7 hf
set_option maxHeartbeats 4000000 in
theorem t_W_count {l : Launch} {ad : Nat → Nat} {dA : Nat → ClassId} {D : va_G} (hi : Inj SHX ad) {N : Nat} {a1 : Int32}  {μ μ' : Mm} {r : Int32} (hf : f_W_count N a1 μ = some (r, μ')) : Ct CLS l SHX ad dA D y_W_count c_W_count 2 (some .int) 5 [.ref (ad 0), .int a1] μ (some (.int r)) μ' := by
  unfold f_W_count at hf
  refine ct_of (by decide) hi (Nat.le_of_ble_eq_true rfl) ?_
  intro p e s m args below meth c C
  refine g_iload_n C d_W_count_0 rfl rfl ?_
  refine g_cas hf (fun e0 hf => ?_) (fun e0 hf => ?_)
  · refine g_tabIn (tgt := 44) C d_W_count_1 (by rw [e0]; decide) (by rw [e0]; decide) (by rw [e0]; rfl) (by decide) ?_
    refine g_aload_n C d_W_count_44 rfl rfl ?_
    refine g_getR (b := 6) (k := 2) C k_W (by decide) fl_W_26 rfl rfl d_W_count_45 ?_
    refine g_getI (k := 0) C k_Gr (by decide) fl_W_134 rfl rfl d_W_count_48 ?_
    exact g_iret C d_W_count_51 hf
  · skip
    refine g_cas hf (fun e1 hf => ?_) (fun e1 hf => ?_)
    · refine g_tabIn (tgt := 52) C d_W_count_1 (by rw [e1]; decide) (by rw [e1]; decide) (by rw [e1]; rfl) (by decide) ?_
      refine g_aload_n C d_W_count_52 rfl rfl ?_
      refine g_getR (b := 6) (k := 2) C k_W (by decide) fl_W_26 rfl rfl d_W_count_53 ?_
      refine g_getI (k := 1) C k_Gr (by decide) fl_W_118 rfl rfl d_W_count_56 ?_
      exact g_iret C d_W_count_59 hf
    · skip
      refine g_cas hf (fun e2 hf => ?_) (fun e2 hf => ?_)
      · refine g_tabIn (tgt := 60) C d_W_count_1 (by rw [e2]; decide) (by rw [e2]; decide) (by rw [e2]; rfl) (by decide) ?_
        refine g_aload_n C d_W_count_60 rfl rfl ?_
        refine g_getR (b := 6) (k := 2) C k_W (by decide) fl_W_26 rfl rfl d_W_count_61 ?_
        refine g_getI (k := 2) C k_Gr (by decide) fl_W_131 rfl rfl d_W_count_64 ?_
        exact g_iret C d_W_count_67 hf
      · skip
        refine g_cas hf (fun e3 hf => ?_) (fun e3 hf => ?_)
        · refine g_tabIn (tgt := 68) C d_W_count_1 (by rw [e3]; decide) (by rw [e3]; decide) (by rw [e3]; rfl) (by decide) ?_
          refine g_aload_n C d_W_count_68 rfl rfl ?_
          refine g_getR (b := 6) (k := 2) C k_W (by decide) fl_W_26 rfl rfl d_W_count_69 ?_
          refine g_getI (k := 3) C k_Gr (by decide) fl_W_358 rfl rfl d_W_count_72 ?_
          exact g_iret C d_W_count_75 hf
        · skip
          refine g_cas hf (fun e4 hf => ?_) (fun e4 hf => ?_)
          · refine g_tabIn (tgt := 76) C d_W_count_1 (by rw [e4]; decide) (by rw [e4]; decide) (by rw [e4]; rfl) (by decide) ?_
            refine g_aload_n C d_W_count_76 rfl rfl ?_
            refine g_getR (b := 11) (k := 3) C k_W (by decide) fl_W_35 rfl rfl d_W_count_77 ?_
            refine g_getI (k := 1) C k_Cr (by decide) fl_W_156 rfl rfl d_W_count_80 ?_
            exact g_iret C d_W_count_83 hf
          · skip
            refine g_cas hf (fun e5 hf => ?_) (fun e5 hf => ?_)
            · refine g_tabIn (tgt := 84) C d_W_count_1 (by rw [e5]; decide) (by rw [e5]; decide) (by rw [e5]; rfl) (by decide) ?_
              refine g_aload_n C d_W_count_84 rfl rfl ?_
              refine g_getR (b := 11) (k := 3) C k_W (by decide) fl_W_35 rfl rfl d_W_count_85 ?_
              refine g_cvV C k_Cr rfl mv_Cr_refresh ml_W_181 d_W_count_88 hf (fun μ1 h => t_Cr_refresh C.2.2.2.2.2.2.2.2.1 h) rfl rfl (by decide) (Nat.le_of_ble_eq_true rfl) (fun μ1 hf => ?_)
              refine g_aload_n C d_W_count_91 rfl rfl ?_
              refine g_getR (b := 11) (k := 3) C k_W (by decide) fl_W_35 rfl rfl d_W_count_92 ?_
              refine g_getI (k := 2) C k_Cr (by decide) fl_W_226 rfl rfl d_W_count_95 ?_
              refine g_csI C mv_Ji_bitCount_0f7a4 ml_W_242 d_W_count_98 hf (fun r μ1 h => t_Ji_bitCount_0f7a4 C.2.2.2.2.2.2.2.2.1 h) rfl rfl (by decide) (Nat.le_of_ble_eq_true rfl) (fun r3 μ2 hf => ?_)
              exact g_iret C d_W_count_101 hf
            · skip
              refine g_cas hf (fun e6 hf => ?_) (fun e6 hf => ?_)
              · refine g_tabIn (tgt := 102) C d_W_count_1 (by rw [e6]; decide) (by rw [e6]; decide) (by rw [e6]; rfl) (by decide) ?_
                refine g_aload_n C d_W_count_102 rfl rfl ?_
                refine g_getR (b := 3) (k := 1) C k_W (by decide) fl_W_19 rfl rfl d_W_count_103 ?_
                refine g_cvI C k_Sf rfl mv_Sf_present ml_W_361 d_W_count_106 hf (fun r μ1 h => t_Sf_present C.2.2.2.2.2.2.2.2.1 h) rfl rfl (by decide) (Nat.le_of_ble_eq_true rfl) (fun r5 μ4 hf => ?_)
                exact g_iret C d_W_count_109 hf
              · skip
                have e0 := tni (k := 0) (0 : Int32) rfl e0
                have e1 := tni (k := 1) (1 : Int32) rfl e1
                have e2 := tni (k := 2) (2 : Int32) rfl e2
                have e3 := tni (k := 3) (3 : Int32) rfl e3
                have e4 := tni (k := 4) (4 : Int32) rfl e4
                have e5 := tni (k := 5) (5 : Int32) rfl e5
                have e6 := tni (k := 6) (6 : Int32) rfl e6
                refine g_tabOut (tgt := 110) C d_W_count_1 (by omega) (by decide) ?_
                refine g_iconst (v := -1) C d_W_count_110 (by decide) ?_
                exact g_iret C d_W_count_111 hf
set_option maxHeartbeats 4000000 in
theorem t_W_finding {l : Launch} {ad : Nat → Nat} {dA : Nat → ClassId} {D : va_G} (hi : Inj SHX ad) {N : Nat}   {μ μ' : Mm} {r : Int32} (hf : f_W_finding N  μ = some (r, μ')) : Ct CLS l SHX ad dA D y_W_finding c_W_finding 1 (some .int) 0 [.ref (ad 0)] μ (some (.int r)) μ' := by
  unfold f_W_finding at hf
  refine ct_of (by decide) hi (Nat.le_of_ble_eq_true rfl) ?_
  intro p e s m args below meth c C
  refine g_aload_n C d_W_finding_0 rfl rfl ?_
  refine g_getR (b := 1) (k := 0) C k_W (by decide) fl_W_10 rfl rfl d_W_finding_1 ?_
  refine g_getI (k := 1) C k_Ta (by decide) fl_W_364 rfl rfl d_W_finding_4 ?_
  exact g_iret C d_W_finding_7 hf
set_option maxHeartbeats 4000000 in
theorem t_W_findings_B10 {ad : Nat → Nat} {dA : Nat → ClassId} {D : va_G} {p : Program} {l : Launch} {e : Env} {s : State} {m : MethodId} {args : Array Value} {below : List Frame} {meth : Method} {c : Code} {r : Int32} {μ' : Mm} (C : Cx CLS SHX ad dA D p s m args meth c c_W_findings 2 R_W (some .int)) (N : Nat)   : ∀  (μ : Mm) (lv : Nat → Option Value), f_W_findings_B10 N μ = some (r, μ') → Go CLS SHX ad dA D p l e (rmD 0) s m args below meth c 2 (some (.int r)) μ' 10 lv [] μ := by
  intro μ lv hf
  unfold f_W_findings_B10 at hf
  refine g_iconst (v := -1) C d_W_findings_10 (by decide) ?_
  refine g_goto (tgt := 23) C d_W_findings_11 (by decide) ?_
  exact g_iret C d_W_findings_23 hf
set_option maxHeartbeats 4000000 in
theorem t_W_findings {l : Launch} {ad : Nat → Nat} {dA : Nat → ClassId} {D : va_G} (hi : Inj SHX ad) {N : Nat} {a1 : Int32}  {μ μ' : Mm} {r : Int32} (hf : f_W_findings N a1 μ = some (r, μ')) : Ct CLS l SHX ad dA D y_W_findings c_W_findings 2 (some .int) 0 [.ref (ad 0), .int a1] μ (some (.int r)) μ' := by
  unfold f_W_findings at hf
  refine ct_of (by decide) hi (Nat.le_of_ble_eq_true rfl) ?_
  intro p e s m args below meth c C
  refine g_iload_n C d_W_findings_0 rfl rfl ?_
  refine g_iconst (v := 1) C d_W_findings_1 (by decide) ?_
  refine g_icmp_lt (tgt := 10) C d_W_findings_2 (by decide) hf (fun c1 hf => ?_) (fun c1 hf => ?_)
  · exact t_W_findings_B10 C N _ _ hf
  · refine g_iload_n C d_W_findings_5 rfl rfl ?_
    refine g_iconst (v := 5) C d_W_findings_6 (by decide) ?_
    refine g_icmp_le (tgt := 14) C d_W_findings_7 (by decide) hf (fun c2 hf => ?_) (fun c2 hf => ?_)
    · refine g_aload_n C d_W_findings_14 rfl rfl ?_
      refine g_getR (b := 1) (k := 0) C k_W (by decide) fl_W_10 rfl rfl d_W_findings_15 ?_
      refine g_getR (b := 2) (k := 0) C k_Ta (by decide) fl_W_367 rfl rfl d_W_findings_18 ?_
      refine g_iload_n C d_W_findings_21 rfl rfl ?_
      refine g_iald C rfl d_W_findings_22 hf (fun hf => ?_)
      exact g_iret C d_W_findings_23 hf
    · exact t_W_findings_B10 C N _ _ hf
set_option maxHeartbeats 4000000 in
theorem t_W_digest_B31 {ad : Nat → Nat} {dA : Nat → ClassId} {D : va_G} {p : Program} {l : Launch} {e : Env} {s : State} {m : MethodId} {args : Array Value} {below : List Frame} {meth : Method} {c : Code} {r : Int64} {μ' : Mm} (C : Cx CLS SHX ad dA D p s m args meth c c_W_digest 4 R_W (some .long)) (N : Nat)   : ∀ (v1 : Int64) (μ : Mm) (lv : Nat → Option Value), lv 0 = some (.ref (ad 0)) → lv 1 = some (.long v1) → f_W_digest_B31 N v1 μ = some (r, μ') → Go CLS SHX ad dA D p l e (rmD 6) s m args below meth c 4 (some (.long r)) μ' 31 lv [] μ := by
  intro v1 μ lv hl0 hl1 hf
  unfold f_W_digest_B31 at hf
  refine g_aload_n C d_W_digest_31 rfl hl0 ?_
  refine g_getR (b := 3) (k := 1) C k_W (by decide) fl_W_19 rfl rfl d_W_digest_32 ?_
  refine g_aload_n C d_W_digest_35 rfl hl0 ?_
  refine g_getR (b := 11) (k := 3) C k_W (by decide) fl_W_35 rfl rfl d_W_digest_36 ?_
  refine g_aload_n C d_W_digest_39 rfl hl0 ?_
  refine g_getR (b := 6) (k := 2) C k_W (by decide) fl_W_26 rfl rfl d_W_digest_40 ?_
  refine g_lload_n C d_W_digest_43 rfl hl1 ?_
  refine g_cvL C k_Gr rfl mv_Gr_mixInto ml_W_377 d_W_digest_44 hf (fun r μ1 h => t_Gr_mixInto C.2.2.2.2.2.2.2.2.1 h) rfl rfl (by decide) (Nat.le_of_ble_eq_true rfl) (fun r7 μ6 hf => ?_)
  refine g_cvL C k_Cr rfl mv_Cr_mixInto ml_W_381 d_W_digest_47 hf (fun r μ1 h => t_Cr_mixInto C.2.2.2.2.2.2.2.2.1 h) rfl rfl (by decide) (Nat.le_of_ble_eq_true rfl) (fun r9 μ8 hf => ?_)
  refine g_cvL C k_Sf rfl mv_Sf_mixInto ml_W_382 d_W_digest_50 hf (fun r μ1 h => t_Sf_mixInto C.2.2.2.2.2.2.2.2.1 h) rfl rfl (by decide) (Nat.le_of_ble_eq_true rfl) (fun r11 μ10 hf => ?_)
  exact g_lret C d_W_digest_53 hf
set_option maxHeartbeats 4000000 in
theorem t_W_digest_L6 {ad : Nat → Nat} {dA : Nat → ClassId} {D : va_G} {p : Program} {l : Launch} {e : Env} {s : State} {m : MethodId} {args : Array Value} {below : List Frame} {meth : Method} {c : Code} {r : Int64} {μ' : Mm} (C : Cx CLS SHX ad dA D p s m args meth c c_W_digest 4 R_W (some .long)) (N : Nat)   : ∀ (n : Nat) (v1 : Int64) (v3 : Int32) (μ : Mm) (lv : Nat → Option Value), lv 0 = some (.ref (ad 0)) → lv 1 = some (.long v1) → lv 3 = some (.int v3) → f_W_digest_L6 N n v1 v3 μ = some (r, μ') → Go CLS SHX ad dA D p l e (rmD 6) s m args below meth c 4 (some (.long r)) μ' 6 lv [] μ := by
  intro n
  induction n with
  | zero => intro v1 v3 μ lv hl0 hl1 hl3 hf; cases (show none = some _ from hf)
  | succ n ih =>
    intro v1 v3 μ lv hl0 hl1 hl3 hf
    unfold f_W_digest_L6 at hf
    refine g_iload_n C d_W_digest_6 rfl hl3 ?_
    refine g_bipush (v := 6) C d_W_digest_7 (by decide) ?_
    refine g_icmp_gt (tgt := 31) C d_W_digest_9 (by decide) hf (fun c1 hf => ?_) (fun c1 hf => ?_)
    · exact t_W_digest_B31 C N _ _ _ hl0 hl1 hf
    · refine g_ldc2 C cl_W_372 d_W_digest_12 ?_
      refine g_lload_n C d_W_digest_15 rfl hl1 ?_
      refine g_lmul C d_W_digest_16 ?_
      refine g_aload_n C d_W_digest_17 rfl hl0 ?_
      refine g_iload_n C d_W_digest_18 rfl hl3 ?_
      refine g_cvI C k_W rfl mv_W_count ml_W_374 d_W_digest_19 hf (fun r μ1 h => t_W_count C.2.2.2.2.2.2.2.2.1 h) rfl rfl (by decide) (Nat.le_of_ble_eq_true rfl) (fun r3 μ2 hf => ?_)
      refine g_i2l C d_W_digest_22 ?_
      refine g_ladd C d_W_digest_23 ?_
      refine g_lstore_n C d_W_digest_24 rfl (by decide) ?_
      refine g_iinc (v := 1) C d_W_digest_25 (upG hl3 rfl) (by decide) (by decide) ?_
      refine g_goto (tgt := 6) C d_W_digest_28 (by decide) ?_
      exact ih _ _ _ _ ((upG (upG hl0 rfl) rfl)) ((upG upS rfl)) upS hf
set_option maxHeartbeats 4000000 in
theorem t_W_digest {l : Launch} {ad : Nat → Nat} {dA : Nat → ClassId} {D : va_G} (hi : Inj SHX ad) {N : Nat}   {μ μ' : Mm} {r : Int64} (hf : f_W_digest N  μ = some (r, μ')) : Ct CLS l SHX ad dA D y_W_digest c_W_digest 4 (some .long) 6 [.ref (ad 0)] μ (some (.long r)) μ' := by
  unfold f_W_digest at hf
  refine ct_of (by decide) hi (Nat.le_of_ble_eq_true rfl) ?_
  intro p e s m args below meth c C
  refine g_ldc2 C cl_W_370 d_W_digest_0 ?_
  refine g_lstore_n C d_W_digest_3 rfl (by decide) ?_
  refine g_iconst (v := 0) C d_W_digest_4 (by decide) ?_
  refine g_istore_n C d_W_digest_5 rfl (by decide) ?_
  exact t_W_digest_L6 C N N _ _ _ _ ((upG (upG rfl rfl) rfl)) ((upG upS rfl)) upS hf
set_option maxHeartbeats 4000000 in
theorem t_M_in {l : Launch} {ad : Nat → Nat} {dA : Nat → ClassId} {D : va_G} (hi : Inj SHM ad) {N : Nat} {a1 : Int32} {a2 : Int32} {a3 : Int32}  {μ μ' : Mm} {r : Int32} (hf : f_M_in N a1 a2 a3 μ = some (r, μ')) : Ct CLS l SHM ad dA D y_M_in c_M_in 3 (some .boolean) 0 [.int a1, .int a2, .int a3] μ (some (.int r)) μ' := by
  unfold f_M_in at hf
  refine ct_of (by decide) hi (Nat.le_of_ble_eq_true rfl) ?_
  intro p e s m args below meth c C
  refine g_iload_n C d_M_in_0 rfl rfl ?_
  refine g_iload_n C d_M_in_1 rfl rfl ?_
  refine g_icmp_lt (tgt := 14) C d_M_in_2 (by decide) hf (fun c1 hf => ?_) (fun c1 hf => ?_)
  · refine g_iconst (v := 0) C d_M_in_14 (by decide) ?_
    exact g_zretc C d_M_in_15 rfl hf
  · refine g_iload_n C d_M_in_5 rfl rfl ?_
    refine g_iload_n C d_M_in_6 rfl rfl ?_
    refine g_icmp_gt (tgt := 14) C d_M_in_7 (by decide) hf (fun c2 hf => ?_) (fun c2 hf => ?_)
    · refine g_iconst (v := 0) C d_M_in_14 (by decide) ?_
      exact g_zretc C d_M_in_15 rfl hf
    · refine g_iconst (v := 1) C d_M_in_10 (by decide) ?_
      refine g_goto (tgt := 15) C d_M_in_11 (by decide) ?_
      exact g_zretc C d_M_in_15 rfl hf
set_option maxHeartbeats 4000000 in
theorem t_M_meets {l : Launch} {ad : Nat → Nat} {dA : Nat → ClassId} {D : va_G} (hi : Inj SHM ad) {N : Nat} {a1 : Int32}  {μ μ' : Mm} {r : Int32} (hf : f_M_meets N a1 μ = some (r, μ')) : Ct CLS l SHM ad dA D y_M_meets c_M_meets 2 (some .int) 0 [.ref (ad 0), .int a1] μ (some (.int r)) μ' := by
  unfold f_M_meets at hf
  refine ct_of (by decide) hi (Nat.le_of_ble_eq_true rfl) ?_
  intro p e s m args below meth c C
  refine g_aload_n C d_M_meets_0 rfl rfl ?_
  refine g_iload_n C d_M_meets_1 rfl rfl ?_
  refine g_putI (k := 0) C k_M (by decide) fl_M_114 rfl rfl rfl rfl d_M_meets_2 ?_
  refine g_aload_n C d_M_meets_5 rfl rfl ?_
  refine g_getR (b := 1) (k := 1) C k_M (by decide) fl_M_7 rfl rfl d_M_meets_6 ?_
  refine g_iload_n C d_M_meets_9 rfl rfl ?_
  refine g_dup2 C d_M_meets_10 rfl rfl ?_
  refine g_iald C rfl d_M_meets_11 hf (fun hf => ?_)
  refine g_iconst (v := 1) C d_M_meets_12 (by decide) ?_
  refine g_iadd C d_M_meets_13 ?_
  refine g_iast C rfl d_M_meets_14 hf (fun hf => ?_)
  refine g_bipush (v := -3) C d_M_meets_15 (by decide) ?_
  exact g_iret C d_M_meets_17 hf
set_option maxHeartbeats 4000000 in
theorem t_M_finding {l : Launch} {ad : Nat → Nat} {dA : Nat → ClassId} {D : va_G} (hi : Inj SHM ad) {N : Nat}   {μ μ' : Mm} {r : Int32} (hf : f_M_finding N  μ = some (r, μ')) : Ct CLS l SHM ad dA D y_M_finding c_M_finding 1 (some .int) 0 [.ref (ad 0)] μ (some (.int r)) μ' := by
  unfold f_M_finding at hf
  refine ct_of (by decide) hi (Nat.le_of_ble_eq_true rfl) ?_
  intro p e s m args below meth c C
  refine g_aload_n C d_M_finding_0 rfl rfl ?_
  refine g_getI (k := 0) C k_M (by decide) fl_M_114 rfl rfl d_M_finding_1 ?_
  exact g_iret C d_M_finding_4 hf
set_option maxHeartbeats 4000000 in
theorem t_M_findings {l : Launch} {ad : Nat → Nat} {dA : Nat → ClassId} {D : va_G} (hi : Inj SHM ad) {N : Nat} {a1 : Int32}  {μ μ' : Mm} {r : Int32} (hf : f_M_findings N a1 μ = some (r, μ')) : Ct CLS l SHM ad dA D y_M_findings c_M_findings 2 (some .int) 1 [.ref (ad 0), .int a1] μ (some (.int r)) μ' := by
  unfold f_M_findings at hf
  refine ct_of (by decide) hi (Nat.le_of_ble_eq_true rfl) ?_
  intro p e s m args below meth c C
  refine g_iload_n C d_M_findings_0 rfl rfl ?_
  refine g_iconst (v := 1) C d_M_findings_1 (by decide) ?_
  refine g_iconst (v := 5) C d_M_findings_2 (by decide) ?_
  refine g_csI C mv_M_in ml_M_117 d_M_findings_3 hf (fun r μ1 h => t_M_in C.2.2.2.2.2.2.2.2.1 h) rfl rfl (by decide) (Nat.le_of_ble_eq_true rfl) (fun r2 μ1 hf => ?_)
  refine g_if_eq (tgt := 18) C d_M_findings_6 (by decide) hf (fun c3 hf => ?_) (fun c3 hf => ?_)
  · refine g_iconst (v := -1) C d_M_findings_18 (by decide) ?_
    exact g_iret C d_M_findings_19 hf
  · refine g_aload_n C d_M_findings_9 rfl rfl ?_
    refine g_getR (b := 1) (k := 1) C k_M (by decide) fl_M_7 rfl rfl d_M_findings_10 ?_
    refine g_iload_n C d_M_findings_13 rfl rfl ?_
    refine g_iald C rfl d_M_findings_14 hf (fun hf => ?_)
    refine g_goto (tgt := 19) C d_M_findings_15 (by decide) ?_
    exact g_iret C d_M_findings_19 hf
set_option maxHeartbeats 4000000 in
theorem t_M_tells {l : Launch} {ad : Nat → Nat} {dA : Nat → ClassId} {D : va_G} (hi : Inj SHM ad) {N : Nat} {a1 : Int32} {a2 : Int32}  {μ μ' : Mm} {r : Int32} (hf : f_M_tells N a1 a2 μ = some (r, μ')) : Ct CLS l SHM ad dA D y_M_tells c_M_tells 3 (some .int) 0 [.ref (ad 0), .int a1, .int a2] μ (some (.int r)) μ' := by
  unfold f_M_tells at hf
  refine ct_of (by decide) hi (Nat.le_of_ble_eq_true rfl) ?_
  intro p e s m args below meth c C
  refine g_aload_n C d_M_tells_0 rfl rfl ?_
  refine g_iload_n C d_M_tells_1 rfl rfl ?_
  refine g_putI (k := 2) C k_M (by decide) fl_M_121 rfl rfl rfl rfl d_M_tells_2 ?_
  refine g_iload_n C d_M_tells_5 rfl rfl ?_
  exact g_iret C d_M_tells_6 hf
set_option maxHeartbeats 4000000 in
theorem t_M_asked {l : Launch} {ad : Nat → Nat} {dA : Nat → ClassId} {D : va_G} (hi : Inj SHM ad) {N : Nat}   {μ μ' : Mm} {r : Int32} (hf : f_M_asked N  μ = some (r, μ')) : Ct CLS l SHM ad dA D y_M_asked c_M_asked 1 (some .int) 0 [.ref (ad 0)] μ (some (.int r)) μ' := by
  unfold f_M_asked at hf
  refine ct_of (by decide) hi (Nat.le_of_ble_eq_true rfl) ?_
  intro p e s m args below meth c C
  refine g_aload_n C d_M_asked_0 rfl rfl ?_
  refine g_getI (k := 2) C k_M (by decide) fl_M_121 rfl rfl d_M_asked_1 ?_
  exact g_iret C d_M_asked_4 hf
set_option maxHeartbeats 4000000 in
theorem t_M_gcd_L6 {ad : Nat → Nat} {dA : Nat → ClassId} {D : va_G} {p : Program} {l : Launch} {e : Env} {s : State} {m : MethodId} {args : Array Value} {below : List Frame} {meth : Method} {c : Code} {r : Int64} {μ' : Mm} (C : Cx CLS SHM ad dA D p s m args meth c c_M_gcd 10 R_M (some .long)) (N : Nat)   : ∀ (n : Nat) (v4 : Int64) (v6 : Int64) (μ : Mm) (lv : Nat → Option Value), lv 4 = some (.long v4) → lv 6 = some (.long v6) → f_M_gcd_L6 N n v4 v6 μ = some (r, μ') → Go CLS SHM ad dA D p l e (rmD 0) s m args below meth c 10 (some (.long r)) μ' 6 lv [] μ := by
  intro n
  induction n with
  | zero => intro v4 v6 μ lv hl4 hl6 hf; cases (show none = some _ from hf)
  | succ n ih =>
    intro v4 v6 μ lv hl4 hl6 hf
    unfold f_M_gcd_L6 at hf
    refine g_lload C d_M_gcd_6 hl6 ?_
    refine g_lconst (v := 0) C d_M_gcd_8 (by decide) ?_
    refine g_lcmp C d_M_gcd_9 ?_
    refine g_if_eq (tgt := 31) C d_M_gcd_10 (by decide) hf (fun c1 hf => ?_) (fun c1 hf => ?_)
    · refine g_lload C d_M_gcd_31 hl4 ?_
      exact g_lret C d_M_gcd_33 hf
    · refine g_lload C d_M_gcd_13 hl4 ?_
      refine g_lload C d_M_gcd_15 hl6 ?_
      refine g_lrem C d_M_gcd_17 hf (fun hf => ?_)
      refine g_lstore C d_M_gcd_18 (by decide) ?_
      refine g_lload C d_M_gcd_20 (upG hl6 rfl) ?_
      refine g_lstore C d_M_gcd_22 (by decide) ?_
      refine g_lload C d_M_gcd_24 (upG upS rfl) ?_
      refine g_lstore C d_M_gcd_26 (by decide) ?_
      refine g_goto (tgt := 6) C d_M_gcd_28 (by decide) ?_
      exact ih _ _ _ _ ((upG upS rfl)) upS hf
set_option maxHeartbeats 4000000 in
theorem t_M_gcd {l : Launch} {ad : Nat → Nat} {dA : Nat → ClassId} {D : va_G} (hi : Inj SHM ad) {N : Nat} {a1 : Int64} {a2 : Int64}  {μ μ' : Mm} {r : Int64} (hf : f_M_gcd N a1 a2 μ = some (r, μ')) : Ct CLS l SHM ad dA D y_M_gcd c_M_gcd 10 (some .long) 0 [.long a1, .long a2] μ (some (.long r)) μ' := by
  unfold f_M_gcd at hf
  refine ct_of (by decide) hi (Nat.le_of_ble_eq_true rfl) ?_
  intro p e s m args below meth c C
  refine g_lload_n C d_M_gcd_0 rfl rfl ?_
  refine g_lstore C d_M_gcd_1 (by decide) ?_
  refine g_lload_n C d_M_gcd_3 rfl (upG rfl rfl) ?_
  refine g_lstore C d_M_gcd_4 (by decide) ?_
  exact t_M_gcd_L6 C N N _ _ _ _ ((upG upS rfl)) upS hf
set_option maxHeartbeats 4000000 in
theorem t_M_fraction {l : Launch} {ad : Nat → Nat} {dA : Nat → ClassId} {D : va_G} (hi : Inj SHM ad) {N : Nat} {a1 : Int64} {a2 : Int64} {a3 : Int32}  {μ μ' : Mm} {r : Int32} (hf : f_M_fraction N a1 a2 a3 μ = some (r, μ')) : Ct CLS l SHM ad dA D y_M_fraction c_M_fraction 8 (some .int) 1 [.ref (ad 0), .long a1, .long a2, .int a3] μ (some (.int r)) μ' := by
  unfold f_M_fraction at hf
  refine ct_of (by decide) hi (Nat.le_of_ble_eq_true rfl) ?_
  intro p e s m args below meth c C
  refine g_lload_n C d_M_fraction_0 rfl rfl ?_
  refine g_lload_n C d_M_fraction_1 rfl rfl ?_
  refine g_csL C mv_M_gcd ml_M_124 d_M_fraction_2 hf (fun r μ1 h => t_M_gcd C.2.2.2.2.2.2.2.2.1 h) rfl rfl (by decide) (Nat.le_of_ble_eq_true rfl) (fun r2 μ1 hf => ?_)
  refine g_lstore C d_M_fraction_5 (by decide) ?_
  refine g_aload_n C d_M_fraction_7 rfl (upG rfl rfl) ?_
  refine g_lload_n C d_M_fraction_8 rfl (upG rfl rfl) ?_
  refine g_lload C d_M_fraction_9 upS ?_
  refine g_ldiv C d_M_fraction_11 hf (fun hf => ?_)
  refine g_putL (k := 3) C k_M (by decide) fl_M_128 rfl rfl rfl rfl d_M_fraction_12 ?_
  refine g_aload_n C d_M_fraction_15 rfl (upG rfl rfl) ?_
  refine g_lload_n C d_M_fraction_16 rfl (upG rfl rfl) ?_
  refine g_lload C d_M_fraction_17 upS ?_
  refine g_ldiv C d_M_fraction_19 hf (fun hf => ?_)
  refine g_putL (k := 4) C k_M (by decide) fl_M_103 rfl rfl rfl rfl d_M_fraction_20 ?_
  refine g_iload C d_M_fraction_23 (upG rfl rfl) ?_
  exact g_iret C d_M_fraction_25 hf
set_option maxHeartbeats 4000000 in
theorem t_M_upper {l : Launch} {ad : Nat → Nat} {dA : Nat → ClassId} {D : va_G} (hi : Inj SHM ad) {N : Nat}   {μ μ' : Mm} {r : Int64} (hf : f_M_upper N  μ = some (r, μ')) : Ct CLS l SHM ad dA D y_M_upper c_M_upper 1 (some .long) 0 [.ref (ad 0)] μ (some (.long r)) μ' := by
  unfold f_M_upper at hf
  refine ct_of (by decide) hi (Nat.le_of_ble_eq_true rfl) ?_
  intro p e s m args below meth c C
  refine g_aload_n C d_M_upper_0 rfl rfl ?_
  refine g_getL (k := 3) C k_M (by decide) fl_M_128 rfl rfl d_M_upper_1 ?_
  exact g_lret C d_M_upper_4 hf
set_option maxHeartbeats 4000000 in
theorem t_M_lower {l : Launch} {ad : Nat → Nat} {dA : Nat → ClassId} {D : va_G} (hi : Inj SHM ad) {N : Nat}   {μ μ' : Mm} {r : Int64} (hf : f_M_lower N  μ = some (r, μ')) : Ct CLS l SHM ad dA D y_M_lower c_M_lower 1 (some .long) 0 [.ref (ad 0)] μ (some (.long r)) μ' := by
  unfold f_M_lower at hf
  refine ct_of (by decide) hi (Nat.le_of_ble_eq_true rfl) ?_
  intro p e s m args below meth c C
  refine g_aload_n C d_M_lower_0 rfl rfl ?_
  refine g_getL (k := 4) C k_M (by decide) fl_M_103 rfl rfl d_M_lower_1 ?_
  exact g_lret C d_M_lower_4 hf
set_option maxHeartbeats 4000000 in
theorem t_M_isRow {l : Launch} {ad : Nat → Nat} {dA : Nat → ClassId} {D : va_G} (hi : Inj SHM ad) {N : Nat} {a1 : Int32}  {μ μ' : Mm} {r : Int32} (hf : f_M_isRow N a1 μ = some (r, μ')) : Ct CLS l SHM ad dA D y_M_isRow c_M_isRow 1 (some .boolean) 1 [.int a1] μ (some (.int r)) μ' := by
  unfold f_M_isRow at hf
  refine ct_of (by decide) hi (Nat.le_of_ble_eq_true rfl) ?_
  intro p e s m args below meth c C
  refine g_iload_n C d_M_isRow_0 rfl rfl ?_
  refine g_iconst (v := 0) C d_M_isRow_1 (by decide) ?_
  refine g_bipush (v := 7) C d_M_isRow_2 (by decide) ?_
  refine g_csI C mv_M_in ml_M_117 d_M_isRow_4 hf (fun r μ1 h => t_M_in C.2.2.2.2.2.2.2.2.1 h) rfl rfl (by decide) (Nat.le_of_ble_eq_true rfl) (fun r2 μ1 hf => ?_)
  exact g_zret C d_M_isRow_7 hf
set_option maxHeartbeats 4000000 in
theorem t_M_at {l : Launch} {ad : Nat → Nat} {dA : Nat → ClassId} {D : va_G} (hi : Inj SHM ad) {N : Nat} {a1 : Int32} {a2 : Int32}  {μ μ' : Mm} {r : Int32} (hf : f_M_at N a1 a2 μ = some (r, μ')) : Ct CLS l SHM ad dA D y_M_at c_M_at 3 (some .int) 0 [.ref (ad 0), .int a1, .int a2] μ (some (.int r)) μ' := by
  unfold f_M_at at hf
  refine ct_of (by decide) hi (Nat.le_of_ble_eq_true rfl) ?_
  intro p e s m args below meth c C
  refine g_aload_n C d_M_at_0 rfl rfl ?_
  refine g_getR (b := 3) (k := 6) C k_M (by decide) fl_M_16 rfl rfl d_M_at_1 ?_
  refine g_bipush (v := 40) C d_M_at_4 (by decide) ?_
  refine g_iload_n C d_M_at_6 rfl rfl ?_
  refine g_imul C d_M_at_7 ?_
  refine g_iload_n C d_M_at_8 rfl rfl ?_
  refine g_iadd C d_M_at_9 ?_
  refine g_bald C rfl d_M_at_10 hf (fun hf => ?_)
  exact g_iret C d_M_at_11 hf
