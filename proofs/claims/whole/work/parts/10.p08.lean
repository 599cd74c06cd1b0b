set_option maxHeartbeats 4000000 in
theorem t_M_row_L34 {ad : Nat → Nat} {dA : Nat → ClassId} {D : va_G} {p : Program} {l : Launch} {e : Env} {s : State} {m : MethodId} {args : Array Value} {below : List Frame} {meth : Method} {c : Code} {r : Int32} {μ' : Mm} (C : Cx CLS SHM ad dA D p s m args meth c c_M_row 4 R_M (some .int)) (N : Nat)   : ∀ (n : Nat) (v1 : Int32) (v2 : Int32) (v3 : Int32) (μ : Mm) (lv : Nat → Option Value), lv 0 = some (.ref (ad 0)) → lv 1 = some (.int v1) → lv 2 = some (.int v2) → lv 3 = some (.int v3) → f_M_row_L34 N n v1 v2 v3 μ = some (r, μ') → Go CLS SHM ad dA D p l e (rmD 2) s m args below meth c 4 (some (.int r)) μ' 34 lv [] μ := by
  intro n
  induction n with
  | zero => intro v1 v2 v3 μ lv hl0 hl1 hl2 hl3 hf; cases (show none = some _ from hf)
  | succ n ih =>
    intro v1 v2 v3 μ lv hl0 hl1 hl2 hl3 hf
    unfold f_M_row_L34 at hf
    refine g_iload_n C d_M_row_34 rfl hl3 ?_
    refine g_bipush (v := 40) C d_M_row_35 (by decide) ?_
    refine g_icmp_ge (tgt := 58) C d_M_row_37 (by decide) hf (fun c9 hf => ?_) (fun c9 hf => ?_)
    · refine g_iload_n C d_M_row_58 rfl hl2 ?_
      exact g_iret C d_M_row_59 hf
    · refine g_aload_n C d_M_row_40 rfl hl0 ?_
      refine g_getR (b := 3) (k := 6) C k_M (by decide) fl_M_16 rfl rfl d_M_row_41 ?_
      refine g_bipush (v := 40) C d_M_row_44 (by decide) ?_
      refine g_iload_n C d_M_row_46 rfl hl1 ?_
      refine g_imul C d_M_row_47 ?_
      refine g_iload_n C d_M_row_48 rfl hl3 ?_
      refine g_iadd C d_M_row_49 ?_
      refine g_iconst (v := 0) C d_M_row_50 (by decide) ?_
      refine g_bast C rfl d_M_row_51 hf (fun hf => ?_)
      refine g_iinc (v := 1) C d_M_row_52 hl3 (by decide) (by decide) ?_
      refine g_goto (tgt := 34) C d_M_row_55 (by decide) ?_
      exact ih _ _ _ _ _ ((upG hl0 rfl)) ((upG hl1 rfl)) ((upG hl2 rfl)) upS hf
set_option maxHeartbeats 4000000 in
theorem t_M_row {l : Launch} {ad : Nat → Nat} {dA : Nat → ClassId} {D : va_G} (hi : Inj SHM ad) {N : Nat} {a1 : Int32} {a2 : Int32}  {μ μ' : Mm} {r : Int32} (hf : f_M_row N a1 a2 μ = some (r, μ')) : Ct CLS l SHM ad dA D y_M_row c_M_row 4 (some .int) 2 [.ref (ad 0), .int a1, .int a2] μ (some (.int r)) μ' := by
  unfold f_M_row at hf
  refine ct_of (by decide) hi (Nat.le_of_ble_eq_true rfl) ?_
  intro p e s m args below meth c C
  refine g_iload_n C d_M_row_0 rfl rfl ?_
  refine g_csI C mv_M_isRow ml_M_131 d_M_row_1 hf (fun r μ1 h => t_M_isRow C.2.2.2.2.2.2.2.2.1 h) rfl rfl (by decide) (Nat.le_of_ble_eq_true rfl) (fun r2 μ1 hf => ?_)
  refine g_if_eq (tgt := 13) C d_M_row_4 (by decide) hf (fun c3 hf => ?_) (fun c3 hf => ?_)
  · refine g_iconst (v := -1) C d_M_row_13 (by decide) ?_
    exact g_iret C d_M_row_14 hf
  · refine g_iload_n C d_M_row_7 rfl rfl ?_
    refine g_bipush (v := 40) C d_M_row_8 (by decide) ?_
    refine g_icmp_le (tgt := 15) C d_M_row_10 (by decide) hf (fun c4 hf => ?_) (fun c4 hf => ?_)
    · refine g_iload_n C d_M_row_15 rfl rfl ?_
      refine g_if_ge (tgt := 25) C d_M_row_16 (by decide) hf (fun c5 hf => ?_) (fun c5 hf => ?_)
      · refine g_aload_n C d_M_row_25 rfl rfl ?_
        refine g_getR (b := 2) (k := 5) C k_M (by decide) fl_M_13 rfl rfl d_M_row_26 ?_
        refine g_iload_n C d_M_row_29 rfl rfl ?_
        refine g_iload_n C d_M_row_30 rfl rfl ?_
        refine g_iast C rfl d_M_row_31 hf (fun hf => ?_)
        refine g_iconst (v := 0) C d_M_row_32 (by decide) ?_
        refine g_istore_n C d_M_row_33 rfl (by decide) ?_
        exact t_M_row_L34 C N N _ _ _ _ _ ((upG rfl rfl)) ((upG rfl rfl)) ((upG rfl rfl)) upS hf
      · refine g_aload_n C d_M_row_19 rfl rfl ?_
        refine g_iconst (v := 5) C d_M_row_20 (by decide) ?_
        refine g_cvI C k_M rfl mv_M_meets ml_M_135 d_M_row_21 hf (fun r μ1 h => t_M_meets C.2.2.2.2.2.2.2.2.1 h) rfl rfl (by decide) (Nat.le_of_ble_eq_true rfl) (fun r8 μ7 hf => ?_)
        exact g_iret C d_M_row_24 hf
    · refine g_iconst (v := -1) C d_M_row_13 (by decide) ?_
      exact g_iret C d_M_row_14 hf
set_option maxHeartbeats 4000000 in
theorem t_M_lay {l : Launch} {ad : Nat → Nat} {dA : Nat → ClassId} {D : va_G} (hi : Inj SHM ad) {N : Nat} {a1 : Int32} {a2 : Int32} {a3 : Int32}  {μ μ' : Mm} {r : Int32} (hf : f_M_lay N a1 a2 a3 μ = some (r, μ')) : Ct CLS l SHM ad dA D y_M_lay c_M_lay 5 (some .int) 2 [.ref (ad 0), .int a1, .int a2, .int a3] μ (some (.int r)) μ' := by
  unfold f_M_lay at hf
  refine ct_of (by decide) hi (Nat.le_of_ble_eq_true rfl) ?_
  intro p e s m args below meth c C
  refine g_iload_n C d_M_lay_0 rfl rfl ?_
  refine g_csI C mv_M_isRow ml_M_131 d_M_lay_1 hf (fun r μ1 h => t_M_isRow C.2.2.2.2.2.2.2.2.1 h) rfl rfl (by decide) (Nat.le_of_ble_eq_true rfl) (fun r2 μ1 hf => ?_)
  refine g_if_ne (tgt := 9) C d_M_lay_4 (by decide) hf (fun c3 hf => ?_) (fun c3 hf => ?_)
  · refine g_iconst (v := -1) C d_M_lay_7 (by decide) ?_
    exact g_iret C d_M_lay_8 hf
  · refine g_aload_n C d_M_lay_9 rfl rfl ?_
    refine g_getR (b := 2) (k := 5) C k_M (by decide) fl_M_13 rfl rfl d_M_lay_10 ?_
    refine g_iload_n C d_M_lay_13 rfl rfl ?_
    refine g_iald C rfl d_M_lay_14 hf (fun hf => ?_)
    refine g_if_ge (tgt := 24) C d_M_lay_15 (by decide) hf (fun c4 hf => ?_) (fun c4 hf => ?_)
    · refine g_iload_n C d_M_lay_24 rfl rfl ?_
      refine g_iconst (v := 0) C d_M_lay_25 (by decide) ?_
      refine g_aload_n C d_M_lay_26 rfl rfl ?_
      refine g_getR (b := 2) (k := 5) C k_M (by decide) fl_M_13 rfl rfl d_M_lay_27 ?_
      refine g_iload_n C d_M_lay_30 rfl rfl ?_
      refine g_iald C rfl d_M_lay_31 hf (fun hf => ?_)
      refine g_iconst (v := 1) C d_M_lay_32 (by decide) ?_
      refine g_isub C d_M_lay_33 ?_
      refine g_csI C mv_M_in ml_M_117 d_M_lay_34 hf (fun r μ1 h => t_M_in C.2.2.2.2.2.2.2.2.1 h) rfl rfl (by decide) (Nat.le_of_ble_eq_true rfl) (fun r6 μ5 hf => ?_)
      refine g_if_ne (tgt := 46) C d_M_lay_37 (by decide) hf (fun c7 hf => ?_) (fun c7 hf => ?_)
      · refine g_aload_n C d_M_lay_40 rfl rfl ?_
        refine g_iconst (v := 2) C d_M_lay_41 (by decide) ?_
        refine g_cvI C k_M rfl mv_M_meets ml_M_135 d_M_lay_42 hf (fun r μ1 h => t_M_meets C.2.2.2.2.2.2.2.2.1 h) rfl rfl (by decide) (Nat.le_of_ble_eq_true rfl) (fun r9 μ8 hf => ?_)
        exact g_iret C d_M_lay_45 hf
      · refine g_aload_n C d_M_lay_46 rfl rfl ?_
        refine g_iload_n C d_M_lay_47 rfl rfl ?_
        refine g_iload_n C d_M_lay_48 rfl rfl ?_
        refine g_cvI C k_M rfl mv_M_at ml_M_139 d_M_lay_49 hf (fun r μ1 h => t_M_at C.2.2.2.2.2.2.2.2.1 h) rfl rfl (by decide) (Nat.le_of_ble_eq_true rfl) (fun r11 μ10 hf => ?_)
        refine g_istore C d_M_lay_52 (by decide) ?_
        refine g_aload_n C d_M_lay_54 rfl (upG rfl rfl) ?_
        refine g_getR (b := 3) (k := 6) C k_M (by decide) fl_M_16 rfl rfl d_M_lay_55 ?_
        refine g_bipush (v := 40) C d_M_lay_58 (by decide) ?_
        refine g_iload_n C d_M_lay_60 rfl (upG rfl rfl) ?_
        refine g_imul C d_M_lay_61 ?_
        refine g_iload_n C d_M_lay_62 rfl (upG rfl rfl) ?_
        refine g_iadd C d_M_lay_63 ?_
        refine g_iload_n C d_M_lay_64 rfl (upG rfl rfl) ?_
        refine g_i2b C d_M_lay_65 ?_
        refine g_bast C rfl d_M_lay_66 hf (fun hf => ?_)
        refine g_sipush (v := 1000) C d_M_lay_67 (by decide) ?_
        refine g_iload C d_M_lay_70 upS ?_
        refine g_iadd C d_M_lay_72 ?_
        exact g_iret C d_M_lay_73 hf
    · refine g_aload_n C d_M_lay_18 rfl rfl ?_
      refine g_iconst (v := 1) C d_M_lay_19 (by decide) ?_
      refine g_cvI C k_M rfl mv_M_meets ml_M_135 d_M_lay_20 hf (fun r μ1 h => t_M_meets C.2.2.2.2.2.2.2.2.1 h) rfl rfl (by decide) (Nat.le_of_ble_eq_true rfl) (fun r16 μ15 hf => ?_)
      exact g_iret C d_M_lay_23 hf
set_option maxHeartbeats 4000000 in
theorem t_M_tear {l : Launch} {ad : Nat → Nat} {dA : Nat → ClassId} {D : va_G} (hi : Inj SHM ad) {N : Nat} {a1 : Int32}  {μ μ' : Mm} {r : Int32} (hf : f_M_tear N a1 μ = some (r, μ')) : Ct CLS l SHM ad dA D y_M_tear c_M_tear 2 (some .int) 2 [.ref (ad 0), .int a1] μ (some (.int r)) μ' := by
  unfold f_M_tear at hf
  refine ct_of (by decide) hi (Nat.le_of_ble_eq_true rfl) ?_
  intro p e s m args below meth c C
  refine g_iload_n C d_M_tear_0 rfl rfl ?_
  refine g_csI C mv_M_isRow ml_M_131 d_M_tear_1 hf (fun r μ1 h => t_M_isRow C.2.2.2.2.2.2.2.2.1 h) rfl rfl (by decide) (Nat.le_of_ble_eq_true rfl) (fun r2 μ1 hf => ?_)
  refine g_if_ne (tgt := 9) C d_M_tear_4 (by decide) hf (fun c3 hf => ?_) (fun c3 hf => ?_)
  · refine g_iconst (v := -1) C d_M_tear_7 (by decide) ?_
    exact g_iret C d_M_tear_8 hf
  · refine g_aload_n C d_M_tear_9 rfl rfl ?_
    refine g_getR (b := 2) (k := 5) C k_M (by decide) fl_M_13 rfl rfl d_M_tear_10 ?_
    refine g_iload_n C d_M_tear_13 rfl rfl ?_
    refine g_iald C rfl d_M_tear_14 hf (fun hf => ?_)
    refine g_if_ge (tgt := 24) C d_M_tear_15 (by decide) hf (fun c4 hf => ?_) (fun c4 hf => ?_)
    · refine g_aload_n C d_M_tear_24 rfl rfl ?_
      refine g_getR (b := 2) (k := 5) C k_M (by decide) fl_M_13 rfl rfl d_M_tear_25 ?_
      refine g_iload_n C d_M_tear_28 rfl rfl ?_
      refine g_iconst (v := -1) C d_M_tear_29 (by decide) ?_
      refine g_iast C rfl d_M_tear_30 hf (fun hf => ?_)
      refine g_iconst (v := 1) C d_M_tear_31 (by decide) ?_
      exact g_iret C d_M_tear_32 hf
    · refine g_aload_n C d_M_tear_18 rfl rfl ?_
      refine g_iconst (v := 1) C d_M_tear_19 (by decide) ?_
      refine g_cvI C k_M rfl mv_M_meets ml_M_135 d_M_tear_20 hf (fun r μ1 h => t_M_meets C.2.2.2.2.2.2.2.2.1 h) rfl rfl (by decide) (Nat.le_of_ble_eq_true rfl) (fun r7 μ6 hf => ?_)
      exact g_iret C d_M_tear_23 hf
set_option maxHeartbeats 4000000 in
theorem t_M_copy_L135 {ad : Nat → Nat} {dA : Nat → ClassId} {D : va_G} {p : Program} {l : Launch} {e : Env} {s : State} {m : MethodId} {args : Array Value} {below : List Frame} {meth : Method} {c : Code} {r : Int32} {μ' : Mm} (C : Cx CLS SHM ad dA D p s m args meth c c_M_copy 7 R_M (some .int)) (N : Nat)   : ∀ (n : Nat) (v3 : Int32) (v4 : Int32) (v5 : Int32) (v6 : Int32) (μ : Mm) (lv : Nat → Option Value), lv 0 = some (.ref (ad 0)) → lv 3 = some (.int v3) → lv 4 = some (.int v4) → lv 5 = some (.int v5) → lv 6 = some (.int v6) → f_M_copy_L135 N n v3 v4 v5 v6 μ = some (r, μ') → Go CLS SHM ad dA D p l e (rmD 2) s m args below meth c 7 (some (.int r)) μ' 135 lv [] μ := by
  intro n
  induction n with
  | zero => intro v3 v4 v5 v6 μ lv hl0 hl3 hl4 hl5 hl6 hf; cases (show none = some _ from hf)
  | succ n ih =>
    intro v3 v4 v5 v6 μ lv hl0 hl3 hl4 hl5 hl6 hf
    unfold f_M_copy_L135 at hf
    refine g_iload C d_M_copy_135 hl6 ?_
    refine g_iload C d_M_copy_137 hl5 ?_
    refine g_icmp_ge (tgt := 170) C d_M_copy_139 (by decide) hf (fun c19 hf => ?_) (fun c19 hf => ?_)
    · refine g_iconst (v := 1) C d_M_copy_170 (by decide) ?_
      exact g_iret C d_M_copy_171 hf
    · refine g_aload_n C d_M_copy_142 rfl hl0 ?_
      refine g_getR (b := 3) (k := 6) C k_M (by decide) fl_M_16 rfl rfl d_M_copy_143 ?_
      refine g_bipush (v := 40) C d_M_copy_146 (by decide) ?_
      refine g_iload_n C d_M_copy_148 rfl hl3 ?_
      refine g_imul C d_M_copy_149 ?_
      refine g_iload C d_M_copy_150 hl4 ?_
      refine g_iadd C d_M_copy_152 ?_
      refine g_iload C d_M_copy_153 hl6 ?_
      refine g_iadd C d_M_copy_155 ?_
      refine g_aload_n C d_M_copy_156 rfl hl0 ?_
      refine g_getR (b := 4) (k := 7) C k_M (by decide) fl_M_20 rfl rfl d_M_copy_157 ?_
      refine g_iload C d_M_copy_160 hl6 ?_
      refine g_bald C rfl d_M_copy_162 hf (fun hf => ?_)
      refine g_bast C rfl d_M_copy_163 hf (fun hf => ?_)
      refine g_iinc (v := 1) C d_M_copy_164 hl6 (by decide) (by decide) ?_
      refine g_goto (tgt := 135) C d_M_copy_167 (by decide) ?_
      exact ih _ _ _ _ _ _ ((upG hl0 rfl)) ((upG hl3 rfl)) ((upG hl4 rfl)) ((upG hl5 rfl)) upS hf
set_option maxHeartbeats 4000000 in
theorem t_M_copy_B132 {ad : Nat → Nat} {dA : Nat → ClassId} {D : va_G} {p : Program} {l : Launch} {e : Env} {s : State} {m : MethodId} {args : Array Value} {below : List Frame} {meth : Method} {c : Code} {r : Int32} {μ' : Mm} (C : Cx CLS SHM ad dA D p s m args meth c c_M_copy 7 R_M (some .int)) (N : Nat)   : ∀ (v3 : Int32) (v4 : Int32) (v5 : Int32) (μ : Mm) (lv : Nat → Option Value), lv 0 = some (.ref (ad 0)) → lv 3 = some (.int v3) → lv 4 = some (.int v4) → lv 5 = some (.int v5) → f_M_copy_B132 N v3 v4 v5 μ = some (r, μ') → Go CLS SHM ad dA D p l e (rmD 2) s m args below meth c 7 (some (.int r)) μ' 132 lv [] μ := by
  intro v3 v4 v5 μ lv hl0 hl3 hl4 hl5 hf
  unfold f_M_copy_B132 at hf
  refine g_iconst (v := 0) C d_M_copy_132 (by decide) ?_
  refine g_istore C d_M_copy_133 (by decide) ?_
  exact t_M_copy_L135 C N N _ _ _ _ _ _ ((upG hl0 rfl)) ((upG hl3 rfl)) ((upG hl4 rfl)) ((upG hl5 rfl)) upS hf
set_option maxHeartbeats 4000000 in
theorem t_M_copy_L98 {ad : Nat → Nat} {dA : Nat → ClassId} {D : va_G} {p : Program} {l : Launch} {e : Env} {s : State} {m : MethodId} {args : Array Value} {below : List Frame} {meth : Method} {c : Code} {r : Int32} {μ' : Mm} (C : Cx CLS SHM ad dA D p s m args meth c c_M_copy 7 R_M (some .int)) (N : Nat)   : ∀ (n : Nat) (v1 : Int32) (v2 : Int32) (v3 : Int32) (v4 : Int32) (v5 : Int32) (v6 : Int32) (μ : Mm) (lv : Nat → Option Value), lv 0 = some (.ref (ad 0)) → lv 1 = some (.int v1) → lv 2 = some (.int v2) → lv 3 = some (.int v3) → lv 4 = some (.int v4) → lv 5 = some (.int v5) → lv 6 = some (.int v6) → f_M_copy_L98 N n v1 v2 v3 v4 v5 v6 μ = some (r, μ') → Go CLS SHM ad dA D p l e (rmD 2) s m args below meth c 7 (some (.int r)) μ' 98 lv [] μ := by
  intro n
  induction n with
  | zero => intro v1 v2 v3 v4 v5 v6 μ lv hl0 hl1 hl2 hl3 hl4 hl5 hl6 hf; cases (show none = some _ from hf)
  | succ n ih =>
    intro v1 v2 v3 v4 v5 v6 μ lv hl0 hl1 hl2 hl3 hl4 hl5 hl6 hf
    unfold f_M_copy_L98 at hf
    refine g_iload C d_M_copy_98 hl6 ?_
    refine g_iload C d_M_copy_100 hl5 ?_
    refine g_icmp_ge (tgt := 132) C d_M_copy_102 (by decide) hf (fun c14 hf => ?_) (fun c14 hf => ?_)
    · exact t_M_copy_B132 C N _ _ _ _ _ hl0 hl3 hl4 hl5 hf
    · refine g_aload_n C d_M_copy_105 rfl hl0 ?_
      refine g_getR (b := 4) (k := 7) C k_M (by decide) fl_M_20 rfl rfl d_M_copy_106 ?_
      refine g_iload C d_M_copy_109 hl6 ?_
      refine g_aload_n C d_M_copy_111 rfl hl0 ?_
      refine g_getR (b := 3) (k := 6) C k_M (by decide) fl_M_16 rfl rfl d_M_copy_112 ?_
      refine g_bipush (v := 40) C d_M_copy_115 (by decide) ?_
      refine g_iload_n C d_M_copy_117 rfl hl1 ?_
      refine g_imul C d_M_copy_118 ?_
      refine g_iload_n C d_M_copy_119 rfl hl2 ?_
      refine g_iadd C d_M_copy_120 ?_
      refine g_iload C d_M_copy_121 hl6 ?_
      refine g_iadd C d_M_copy_123 ?_
      refine g_bald C rfl d_M_copy_124 hf (fun hf => ?_)
      refine g_bast C rfl d_M_copy_125 hf (fun hf => ?_)
      refine g_iinc (v := 1) C d_M_copy_126 hl6 (by decide) (by decide) ?_
      refine g_goto (tgt := 98) C d_M_copy_129 (by decide) ?_
      exact ih _ _ _ _ _ _ _ _ ((upG hl0 rfl)) ((upG hl1 rfl)) ((upG hl2 rfl)) ((upG hl3 rfl)) ((upG hl4 rfl)) ((upG hl5 rfl)) upS hf
set_option maxHeartbeats 4000000 in
theorem t_M_copy_B89 {ad : Nat → Nat} {dA : Nat → ClassId} {D : va_G} {p : Program} {l : Launch} {e : Env} {s : State} {m : MethodId} {args : Array Value} {below : List Frame} {meth : Method} {c : Code} {r : Int32} {μ' : Mm} (C : Cx CLS SHM ad dA D p s m args meth c c_M_copy 7 R_M (some .int)) (N : Nat)   : ∀  (μ : Mm) (lv : Nat → Option Value), lv 0 = some (.ref (ad 0)) → f_M_copy_B89 N μ = some (r, μ') → Go CLS SHM ad dA D p l e (rmD 2) s m args below meth c 7 (some (.int r)) μ' 89 lv [] μ := by
  intro μ lv hl0 hf
  unfold f_M_copy_B89 at hf
  refine g_aload_n C d_M_copy_89 rfl hl0 ?_
  refine g_iconst (v := 2) C d_M_copy_90 (by decide) ?_
  refine g_cvI C k_M rfl mv_M_meets ml_M_135 d_M_copy_91 hf (fun r μ1 h => t_M_meets C.2.2.2.2.2.2.2.2.1 h) rfl rfl (by decide) (Nat.le_of_ble_eq_true rfl) (fun r25 μ24 hf => ?_)
  exact g_iret C d_M_copy_94 hf
set_option maxHeartbeats 4000000 in
theorem t_M_copy_B34 {ad : Nat → Nat} {dA : Nat → ClassId} {D : va_G} {p : Program} {l : Launch} {e : Env} {s : State} {m : MethodId} {args : Array Value} {below : List Frame} {meth : Method} {c : Code} {r : Int32} {μ' : Mm} (C : Cx CLS SHM ad dA D p s m args meth c c_M_copy 7 R_M (some .int)) (N : Nat)   : ∀  (μ : Mm) (lv : Nat → Option Value), lv 0 = some (.ref (ad 0)) → f_M_copy_B34 N μ = some (r, μ') → Go CLS SHM ad dA D p l e (rmD 2) s m args below meth c 7 (some (.int r)) μ' 34 lv [] μ := by
  intro μ lv hl0 hf
  unfold f_M_copy_B34 at hf
  refine g_aload_n C d_M_copy_34 rfl hl0 ?_
  refine g_iconst (v := 1) C d_M_copy_35 (by decide) ?_
  refine g_cvI C k_M rfl mv_M_meets ml_M_135 d_M_copy_36 hf (fun r μ1 h => t_M_meets C.2.2.2.2.2.2.2.2.1 h) rfl rfl (by decide) (Nat.le_of_ble_eq_true rfl) (fun r27 μ26 hf => ?_)
  exact g_iret C d_M_copy_39 hf
set_option maxHeartbeats 4000000 in
theorem t_M_copy {l : Launch} {ad : Nat → Nat} {dA : Nat → ClassId} {D : va_G} (hi : Inj SHM ad) {N : Nat} {a1 : Int32} {a2 : Int32} {a3 : Int32} {a4 : Int32} {a5 : Int32}  {μ μ' : Mm} {r : Int32} (hf : f_M_copy N a1 a2 a3 a4 a5 μ = some (r, μ')) : Ct CLS l SHM ad dA D y_M_copy c_M_copy 7 (some .int) 2 [.ref (ad 0), .int a1, .int a2, .int a3, .int a4, .int a5] μ (some (.int r)) μ' := by
  unfold f_M_copy at hf
  refine ct_of (by decide) hi (Nat.le_of_ble_eq_true rfl) ?_
  intro p e s m args below meth c C
  refine g_iload_n C d_M_copy_0 rfl rfl ?_
  refine g_csI C mv_M_isRow ml_M_131 d_M_copy_1 hf (fun r μ1 h => t_M_isRow C.2.2.2.2.2.2.2.2.1 h) rfl rfl (by decide) (Nat.le_of_ble_eq_true rfl) (fun r2 μ1 hf => ?_)
  refine g_if_eq (tgt := 14) C d_M_copy_4 (by decide) hf (fun c3 hf => ?_) (fun c3 hf => ?_)
  · refine g_iconst (v := -1) C d_M_copy_14 (by decide) ?_
    exact g_iret C d_M_copy_15 hf
  · refine g_iload_n C d_M_copy_7 rfl rfl ?_
    refine g_csI C mv_M_isRow ml_M_131 d_M_copy_8 hf (fun r μ1 h => t_M_isRow C.2.2.2.2.2.2.2.2.1 h) rfl rfl (by decide) (Nat.le_of_ble_eq_true rfl) (fun r5 μ4 hf => ?_)
    refine g_if_ne (tgt := 16) C d_M_copy_11 (by decide) hf (fun c6 hf => ?_) (fun c6 hf => ?_)
    · refine g_iconst (v := -1) C d_M_copy_14 (by decide) ?_
      exact g_iret C d_M_copy_15 hf
    · refine g_aload_n C d_M_copy_16 rfl rfl ?_
      refine g_getR (b := 2) (k := 5) C k_M (by decide) fl_M_13 rfl rfl d_M_copy_17 ?_
      refine g_iload_n C d_M_copy_20 rfl rfl ?_
      refine g_iald C rfl d_M_copy_21 hf (fun hf => ?_)
      refine g_if_lt (tgt := 34) C d_M_copy_22 (by decide) hf (fun c7 hf => ?_) (fun c7 hf => ?_)
      · exact t_M_copy_B34 C N _ _ rfl hf
      · refine g_aload_n C d_M_copy_25 rfl rfl ?_
        refine g_getR (b := 2) (k := 5) C k_M (by decide) fl_M_13 rfl rfl d_M_copy_26 ?_
        refine g_iload_n C d_M_copy_29 rfl rfl ?_
        refine g_iald C rfl d_M_copy_30 hf (fun hf => ?_)
        refine g_if_ge (tgt := 40) C d_M_copy_31 (by decide) hf (fun c8 hf => ?_) (fun c8 hf => ?_)
        · refine g_iload_n C d_M_copy_40 rfl rfl ?_
          refine g_if_lt (tgt := 89) C d_M_copy_41 (by decide) hf (fun c9 hf => ?_) (fun c9 hf => ?_)
          · exact t_M_copy_B89 C N _ _ rfl hf
          · refine g_iload C d_M_copy_44 rfl ?_
            refine g_if_lt (tgt := 89) C d_M_copy_46 (by decide) hf (fun c10 hf => ?_) (fun c10 hf => ?_)
            · exact t_M_copy_B89 C N _ _ rfl hf
            · refine g_iload C d_M_copy_49 rfl ?_
              refine g_if_lt (tgt := 89) C d_M_copy_51 (by decide) hf (fun c11 hf => ?_) (fun c11 hf => ?_)
              · exact t_M_copy_B89 C N _ _ rfl hf
              · refine g_iload_n C d_M_copy_54 rfl rfl ?_
                refine g_i2l C d_M_copy_55 ?_
                refine g_iload C d_M_copy_56 rfl ?_
                refine g_i2l C d_M_copy_58 ?_
                refine g_ladd C d_M_copy_59 ?_
                refine g_aload_n C d_M_copy_60 rfl rfl ?_
                refine g_getR (b := 2) (k := 5) C k_M (by decide) fl_M_13 rfl rfl d_M_copy_61 ?_
                refine g_iload_n C d_M_copy_64 rfl rfl ?_
                refine g_iald C rfl d_M_copy_65 hf (fun hf => ?_)
                refine g_i2l C d_M_copy_66 ?_
                refine g_lcmp C d_M_copy_67 ?_
                refine g_if_gt (tgt := 89) C d_M_copy_68 (by decide) hf (fun c12 hf => ?_) (fun c12 hf => ?_)
                · exact t_M_copy_B89 C N _ _ rfl hf
                · refine g_iload C d_M_copy_71 rfl ?_
                  refine g_i2l C d_M_copy_73 ?_
                  refine g_iload C d_M_copy_74 rfl ?_
                  refine g_i2l C d_M_copy_76 ?_
                  refine g_ladd C d_M_copy_77 ?_
                  refine g_aload_n C d_M_copy_78 rfl rfl ?_
                  refine g_getR (b := 2) (k := 5) C k_M (by decide) fl_M_13 rfl rfl d_M_copy_79 ?_
                  refine g_iload_n C d_M_copy_82 rfl rfl ?_
                  refine g_iald C rfl d_M_copy_83 hf (fun hf => ?_)
                  refine g_i2l C d_M_copy_84 ?_
                  refine g_lcmp C d_M_copy_85 ?_
                  refine g_if_le (tgt := 95) C d_M_copy_86 (by decide) hf (fun c13 hf => ?_) (fun c13 hf => ?_)
                  · refine g_iconst (v := 0) C d_M_copy_95 (by decide) ?_
                    refine g_istore C d_M_copy_96 (by decide) ?_
                    exact t_M_copy_L98 C N N _ _ _ _ _ _ _ _ ((upG rfl rfl)) ((upG rfl rfl)) ((upG rfl rfl)) ((upG rfl rfl)) ((upG rfl rfl)) ((upG rfl rfl)) upS hf
                  · exact t_M_copy_B89 C N _ _ rfl hf
        · exact t_M_copy_B34 C N _ _ rfl hf
set_option maxHeartbeats 4000000 in
theorem t_M_mean_B53 {ad : Nat → Nat} {dA : Nat → ClassId} {D : va_G} {p : Program} {l : Launch} {e : Env} {s : State} {m : MethodId} {args : Array Value} {below : List Frame} {meth : Method} {c : Code} {r : Int32} {μ' : Mm} (C : Cx CLS SHM ad dA D p s m args meth c c_M_mean 4 R_M (some .int)) (N : Nat)   : ∀ (v1 : Int32) (v2 : Int32) (μ : Mm) (lv : Nat → Option Value), lv 0 = some (.ref (ad 0)) → lv 1 = some (.int v1) → lv 2 = some (.int v2) → f_M_mean_B53 N v1 v2 μ = some (r, μ') → Go CLS SHM ad dA D p l e (rmD 2) s m args below meth c 4 (some (.int r)) μ' 53 lv [] μ := by
  intro v1 v2 μ lv hl0 hl1 hl2 hf
  unfold f_M_mean_B53 at hf
  refine g_aload_n C d_M_mean_53 rfl hl0 ?_
  refine g_getR (b := 2) (k := 5) C k_M (by decide) fl_M_13 rfl rfl d_M_mean_54 ?_
  refine g_iload_n C d_M_mean_57 rfl hl1 ?_
  refine g_iald C rfl d_M_mean_58 hf (fun hf => ?_)
  refine g_if_ne (tgt := 70) C d_M_mean_59 (by decide) hf (fun c12 hf => ?_) (fun c12 hf => ?_)
  · refine g_aload_n C d_M_mean_62 rfl hl0 ?_
    refine g_iconst (v := 4) C d_M_mean_63 (by decide) ?_
    refine g_cvI C k_M rfl mv_M_meets ml_M_135 d_M_mean_64 hf (fun r μ1 h => t_M_meets C.2.2.2.2.2.2.2.2.1 h) rfl rfl (by decide) (Nat.le_of_ble_eq_true rfl) (fun r14 μ13 hf => ?_)
    refine g_goto (tgt := 78) C d_M_mean_67 (by decide) ?_
    exact g_iret C d_M_mean_78 hf
  · refine g_iload_n C d_M_mean_70 rfl hl2 ?_
    refine g_aload_n C d_M_mean_71 rfl hl0 ?_
    refine g_getR (b := 2) (k := 5) C k_M (by decide) fl_M_13 rfl rfl d_M_mean_72 ?_
    refine g_iload_n C d_M_mean_75 rfl hl1 ?_
    refine g_iald C rfl d_M_mean_76 hf (fun hf => ?_)
    refine g_idiv C d_M_mean_77 hf (fun hf => ?_)
    exact g_iret C d_M_mean_78 hf
set_option maxHeartbeats 4000000 in
theorem t_M_mean_L28 {ad : Nat → Nat} {dA : Nat → ClassId} {D : va_G} {p : Program} {l : Launch} {e : Env} {s : State} {m : MethodId} {args : Array Value} {below : List Frame} {meth : Method} {c : Code} {r : Int32} {μ' : Mm} (C : Cx CLS SHM ad dA D p s m args meth c c_M_mean 4 R_M (some .int)) (N : Nat)   : ∀ (n : Nat) (v1 : Int32) (v2 : Int32) (v3 : Int32) (μ : Mm) (lv : Nat → Option Value), lv 0 = some (.ref (ad 0)) → lv 1 = some (.int v1) → lv 2 = some (.int v2) → lv 3 = some (.int v3) → f_M_mean_L28 N n v1 v2 v3 μ = some (r, μ') → Go CLS SHM ad dA D p l e (rmD 2) s m args below meth c 4 (some (.int r)) μ' 28 lv [] μ := by
  intro n
  induction n with
  | zero => intro v1 v2 v3 μ lv hl0 hl1 hl2 hl3 hf; cases (show none = some _ from hf)
  | succ n ih =>
    intro v1 v2 v3 μ lv hl0 hl1 hl2 hl3 hf
    unfold f_M_mean_L28 at hf
    refine g_iload_n C d_M_mean_28 rfl hl3 ?_
    refine g_aload_n C d_M_mean_29 rfl hl0 ?_
    refine g_getR (b := 2) (k := 5) C k_M (by decide) fl_M_13 rfl rfl d_M_mean_30 ?_
    refine g_iload_n C d_M_mean_33 rfl hl1 ?_
    refine g_iald C rfl d_M_mean_34 hf (fun hf => ?_)
    refine g_icmp_ge (tgt := 53) C d_M_mean_35 (by decide) hf (fun c7 hf => ?_) (fun c7 hf => ?_)
    · exact t_M_mean_B53 C N _ _ _ _ hl0 hl1 hl2 hf
    · refine g_iload_n C d_M_mean_38 rfl hl2 ?_
      refine g_aload_n C d_M_mean_39 rfl hl0 ?_
      refine g_iload_n C d_M_mean_40 rfl hl1 ?_
      refine g_iload_n C d_M_mean_41 rfl hl3 ?_
      refine g_cvI C k_M rfl mv_M_at ml_M_139 d_M_mean_42 hf (fun r μ1 h => t_M_at C.2.2.2.2.2.2.2.2.1 h) rfl rfl (by decide) (Nat.le_of_ble_eq_true rfl) (fun r9 μ8 hf => ?_)
      refine g_iadd C d_M_mean_45 ?_
      refine g_istore_n C d_M_mean_46 rfl (by decide) ?_
      refine g_iinc (v := 1) C d_M_mean_47 (upG hl3 rfl) (by decide) (by decide) ?_
      refine g_goto (tgt := 28) C d_M_mean_50 (by decide) ?_
      exact ih _ _ _ _ _ ((upG (upG hl0 rfl) rfl)) ((upG (upG hl1 rfl) rfl)) ((upG upS rfl)) upS hf
set_option maxHeartbeats 4000000 in
theorem t_M_mean {l : Launch} {ad : Nat → Nat} {dA : Nat → ClassId} {D : va_G} (hi : Inj SHM ad) {N : Nat} {a1 : Int32}  {μ μ' : Mm} {r : Int32} (hf : f_M_mean N a1 μ = some (r, μ')) : Ct CLS l SHM ad dA D y_M_mean c_M_mean 4 (some .int) 2 [.ref (ad 0), .int a1] μ (some (.int r)) μ' := by
  unfold f_M_mean at hf
  refine ct_of (by decide) hi (Nat.le_of_ble_eq_true rfl) ?_
  intro p e s m args below meth c C
  refine g_iload_n C d_M_mean_0 rfl rfl ?_
  refine g_csI C mv_M_isRow ml_M_131 d_M_mean_1 hf (fun r μ1 h => t_M_isRow C.2.2.2.2.2.2.2.2.1 h) rfl rfl (by decide) (Nat.le_of_ble_eq_true rfl) (fun r2 μ1 hf => ?_)
  refine g_if_ne (tgt := 9) C d_M_mean_4 (by decide) hf (fun c3 hf => ?_) (fun c3 hf => ?_)
  · refine g_iconst (v := -1) C d_M_mean_7 (by decide) ?_
    exact g_iret C d_M_mean_8 hf
  · refine g_aload_n C d_M_mean_9 rfl rfl ?_
    refine g_getR (b := 2) (k := 5) C k_M (by decide) fl_M_13 rfl rfl d_M_mean_10 ?_
    refine g_iload_n C d_M_mean_13 rfl rfl ?_
    refine g_iald C rfl d_M_mean_14 hf (fun hf => ?_)
    refine g_if_ge (tgt := 24) C d_M_mean_15 (by decide) hf (fun c4 hf => ?_) (fun c4 hf => ?_)
    · refine g_iconst (v := 0) C d_M_mean_24 (by decide) ?_
      refine g_istore_n C d_M_mean_25 rfl (by decide) ?_
      refine g_iconst (v := 0) C d_M_mean_26 (by decide) ?_
      refine g_istore_n C d_M_mean_27 rfl (by decide) ?_
      exact t_M_mean_L28 C N N _ _ _ _ _ ((upG (upG rfl rfl) rfl)) ((upG (upG rfl rfl) rfl)) ((upG upS rfl)) upS hf
    · refine g_aload_n C d_M_mean_18 rfl rfl ?_
      refine g_iconst (v := 1) C d_M_mean_19 (by decide) ?_
      refine g_cvI C k_M rfl mv_M_meets ml_M_135 d_M_mean_20 hf (fun r μ1 h => t_M_meets C.2.2.2.2.2.2.2.2.1 h) rfl rfl (by decide) (Nat.le_of_ble_eq_true rfl) (fun r6 μ5 hf => ?_)
      exact g_iret C d_M_mean_23 hf
set_option maxHeartbeats 4000000 in
theorem t_M_clear_B62 {ad : Nat → Nat} {dA : Nat → ClassId} {D : va_G} {p : Program} {l : Launch} {e : Env} {s : State} {m : MethodId} {args : Array Value} {below : List Frame} {meth : Method} {c : Code} {μ' : Mm} (C : Cx CLS SHM ad dA D p s m args meth c c_M_clear 4 R_M (none)) (N : Nat)   (k41 : Int32 → Int32 → Mm → Option Mm) (hk41 : ∀ (v2 : Int32) (v3 : Int32) (μ : Mm) (lv : Nat → Option Value), lv 0 = some (.ref (ad 0)) → lv 2 = some (.int v2) → lv 3 = some (.int v3) → k41 v2 v3 μ = some μ' → Go CLS SHM ad dA D p l e (rmD 0) s m args below meth c 4 none μ' 41 lv [] μ) : ∀ (v2 : Int32) (v3 : Int32) (s1 : Int32) (s2 : Int32) (μ : Mm) (lv : Nat → Option Value), lv 0 = some (.ref (ad 0)) → lv 2 = some (.int v2) → lv 3 = some (.int v3) → f_M_clear_B62 N k41 v2 v3 s1 s2 μ = some μ' → Go CLS SHM ad dA D p l e (rmD 0) s m args below meth c 4 none μ' 62 lv [.int s2, .int s1, .ref (ad 7)] μ := by
  intro v2 v3 s1 s2 μ lv hl0 hl2 hl3 hf
  unfold f_M_clear_B62 at hf
  refine g_iast C rfl d_M_clear_62 hf (fun hf => ?_)
  refine g_aload_n C d_M_clear_63 rfl hl0 ?_
  refine g_getR (b := 8) (k := 13) C k_M (by decide) fl_M_33 rfl rfl d_M_clear_64 ?_
  refine g_iload_n C d_M_clear_67 rfl hl3 ?_
  refine g_iconst (v := 0) C d_M_clear_68 (by decide) ?_
  refine g_zast C rfl d_M_clear_69 hf (fun hf => ?_)
  refine g_iinc (v := 1) C d_M_clear_70 hl3 (by decide) (by decide) ?_
  refine g_goto (tgt := 41) C d_M_clear_73 (by decide) ?_
  exact hk41 _ _ _ _ ((upG hl0 rfl)) ((upG hl2 rfl)) upS hf
set_option maxHeartbeats 4000000 in
theorem t_M_clear_L41 {ad : Nat → Nat} {dA : Nat → ClassId} {D : va_G} {p : Program} {l : Launch} {e : Env} {s : State} {m : MethodId} {args : Array Value} {below : List Frame} {meth : Method} {c : Code} {μ' : Mm} (C : Cx CLS SHM ad dA D p s m args meth c c_M_clear 4 R_M (none)) (N : Nat)   : ∀ (n : Nat) (v2 : Int32) (v3 : Int32) (μ : Mm) (lv : Nat → Option Value), lv 0 = some (.ref (ad 0)) → lv 2 = some (.int v2) → lv 3 = some (.int v3) → f_M_clear_L41 N n v2 v3 μ = some μ' → Go CLS SHM ad dA D p l e (rmD 0) s m args below meth c 4 none μ' 41 lv [] μ := by
  intro n
  induction n with
  | zero => intro v2 v3 μ lv hl0 hl2 hl3 hf; cases (show none = some _ from hf)
  | succ n ih =>
    intro v2 v3 μ lv hl0 hl2 hl3 hf
    unfold f_M_clear_L41 at hf
    refine g_iload_n C d_M_clear_41 rfl hl3 ?_
    refine g_bipush (v := 16) C d_M_clear_42 (by decide) ?_
    refine g_icmp_ge (tgt := 76) C d_M_clear_44 (by decide) hf (fun c7 hf => ?_) (fun c7 hf => ?_)
    · exact g_vret C d_M_clear_76 hf
    · refine g_aload_n C d_M_clear_47 rfl hl0 ?_
      refine g_getR (b := 7) (k := 12) C k_M (by decide) fl_M_30 rfl rfl d_M_clear_48 ?_
      refine g_iload_n C d_M_clear_51 rfl hl3 ?_
      refine g_iload_n C d_M_clear_52 rfl hl3 ?_
      refine g_iload_n C d_M_clear_53 rfl hl2 ?_
      refine g_icmp_ge (tgt := 61) C d_M_clear_54 (by decide) hf (fun c8 hf => ?_) (fun c8 hf => ?_)
      · refine g_iconst (v := 0) C d_M_clear_61 (by decide) ?_
        exact t_M_clear_B62 C N _ ih _ _ _ _ _ _ hl0 hl2 hl3 hf
      · refine g_iconst (v := 1) C d_M_clear_57 (by decide) ?_
        refine g_goto (tgt := 62) C d_M_clear_58 (by decide) ?_
        exact t_M_clear_B62 C N _ ih _ _ _ _ _ _ hl0 hl2 hl3 hf
set_option maxHeartbeats 4000000 in
theorem t_M_clear_B39 {ad : Nat → Nat} {dA : Nat → ClassId} {D : va_G} {p : Program} {l : Launch} {e : Env} {s : State} {m : MethodId} {args : Array Value} {below : List Frame} {meth : Method} {c : Code} {μ' : Mm} (C : Cx CLS SHM ad dA D p s m args meth c c_M_clear 4 R_M (none)) (N : Nat)   : ∀ (v2 : Int32) (μ : Mm) (lv : Nat → Option Value), lv 0 = some (.ref (ad 0)) → lv 2 = some (.int v2) → f_M_clear_B39 N v2 μ = some μ' → Go CLS SHM ad dA D p l e (rmD 0) s m args below meth c 4 none μ' 39 lv [] μ := by
  intro v2 μ lv hl0 hl2 hf
  unfold f_M_clear_B39 at hf
  refine g_iconst (v := 0) C d_M_clear_39 (by decide) ?_
  refine g_istore_n C d_M_clear_40 rfl (by decide) ?_
  exact t_M_clear_L41 C N N _ _ _ _ ((upG hl0 rfl)) ((upG hl2 rfl)) upS hf
set_option maxHeartbeats 4000000 in
theorem t_M_clear_L12 {ad : Nat → Nat} {dA : Nat → ClassId} {D : va_G} {p : Program} {l : Launch} {e : Env} {s : State} {m : MethodId} {args : Array Value} {below : List Frame} {meth : Method} {c : Code} {μ' : Mm} (C : Cx CLS SHM ad dA D p s m args meth c c_M_clear 4 R_M (none)) (N : Nat)   : ∀ (n : Nat) (v2 : Int32) (v3 : Int32) (μ : Mm) (lv : Nat → Option Value), lv 0 = some (.ref (ad 0)) → lv 2 = some (.int v2) → lv 3 = some (.int v3) → f_M_clear_L12 N n v2 v3 μ = some μ' → Go CLS SHM ad dA D p l e (rmD 0) s m args below meth c 4 none μ' 12 lv [] μ := by
  intro n
  induction n with
  | zero => intro v2 v3 μ lv hl0 hl2 hl3 hf; cases (show none = some _ from hf)
  | succ n ih =>
    intro v2 v3 μ lv hl0 hl2 hl3 hf
    unfold f_M_clear_L12 at hf
    refine g_iload_n C d_M_clear_12 rfl hl3 ?_
    refine g_sipush (v := 256) C d_M_clear_13 (by decide) ?_
    refine g_icmp_ge (tgt := 39) C d_M_clear_16 (by decide) hf (fun c3 hf => ?_) (fun c3 hf => ?_)
    · exact t_M_clear_B39 C N _ _ _ hl0 hl2 hf
    · refine g_aload_n C d_M_clear_19 rfl hl0 ?_
      refine g_getR (b := 5) (k := 10) C k_M (by decide) fl_M_23 rfl rfl d_M_clear_20 ?_
      refine g_iload_n C d_M_clear_23 rfl hl3 ?_
      refine g_iconst (v := 0) C d_M_clear_24 (by decide) ?_
      refine g_iast C rfl d_M_clear_25 hf (fun hf => ?_)
      refine g_aload_n C d_M_clear_26 rfl hl0 ?_
      refine g_getR (b := 6) (k := 11) C k_M (by decide) fl_M_26 rfl rfl d_M_clear_27 ?_
      refine g_iload_n C d_M_clear_30 rfl hl3 ?_
      refine g_iconst (v := 0) C d_M_clear_31 (by decide) ?_
      refine g_zast C rfl d_M_clear_32 hf (fun hf => ?_)
      refine g_iinc (v := 1) C d_M_clear_33 hl3 (by decide) (by decide) ?_
      refine g_goto (tgt := 12) C d_M_clear_36 (by decide) ?_
      exact ih _ _ _ _ ((upG hl0 rfl)) ((upG hl2 rfl)) upS hf
set_option maxHeartbeats 4000000 in
theorem t_M_clear {l : Launch} {ad : Nat → Nat} {dA : Nat → ClassId} {D : va_G} (hi : Inj SHM ad) {N : Nat} {a1 : Int32} {a2 : Int32}  {μ μ' : Mm} (hf : f_M_clear N a1 a2 μ = some μ') : Ct CLS l SHM ad dA D y_M_clear c_M_clear 4 (none) 0 [.ref (ad 0), .int a1, .int a2] μ none μ' := by
  unfold f_M_clear at hf
  refine ct_of (by decide) hi (Nat.le_of_ble_eq_true rfl) ?_
  intro p e s m args below meth c C
  refine g_aload_n C d_M_clear_0 rfl rfl ?_
  refine g_iload_n C d_M_clear_1 rfl rfl ?_
  refine g_putI (k := 8) C k_M (by decide) fl_M_107 rfl rfl rfl rfl d_M_clear_2 ?_
  refine g_aload_n C d_M_clear_5 rfl rfl ?_
  refine g_iload_n C d_M_clear_6 rfl rfl ?_
  refine g_putI (k := 9) C k_M (by decide) fl_M_111 rfl rfl rfl rfl d_M_clear_7 ?_
  refine g_iconst (v := 0) C d_M_clear_10 (by decide) ?_
  refine g_istore_n C d_M_clear_11 rfl (by decide) ?_
  exact t_M_clear_L12 C N N _ _ _ _ ((upG rfl rfl)) ((upG rfl rfl)) upS hf
set_option maxHeartbeats 4000000 in
theorem t_M_join {l : Launch} {ad : Nat → Nat} {dA : Nat → ClassId} {D : va_G} (hi : Inj SHM ad) {N : Nat} {a1 : Int32} {a2 : Int32} {a3 : Int32}  {μ μ' : Mm} (hf : f_M_join N a1 a2 a3 μ = some μ') : Ct CLS l SHM ad dA D y_M_join c_M_join 4 (none) 0 [.ref (ad 0), .int a1, .int a2, .int a3] μ none μ' := by
  unfold f_M_join at hf
  refine ct_of (by decide) hi (Nat.le_of_ble_eq_true rfl) ?_
  intro p e s m args below meth c C
  refine g_aload_n C d_M_join_0 rfl rfl ?_
  refine g_getR (b := 5) (k := 10) C k_M (by decide) fl_M_23 rfl rfl d_M_join_1 ?_
  refine g_bipush (v := 16) C d_M_join_4 (by decide) ?_
  refine g_iload_n C d_M_join_6 rfl rfl ?_
  refine g_imul C d_M_join_7 ?_
  refine g_iload_n C d_M_join_8 rfl rfl ?_
  refine g_iadd C d_M_join_9 ?_
  refine g_iload_n C d_M_join_10 rfl rfl ?_
  refine g_iast C rfl d_M_join_11 hf (fun hf => ?_)
  refine g_aload_n C d_M_join_12 rfl rfl ?_
  refine g_getR (b := 5) (k := 10) C k_M (by decide) fl_M_23 rfl rfl d_M_join_13 ?_
  refine g_bipush (v := 16) C d_M_join_16 (by decide) ?_
  refine g_iload_n C d_M_join_18 rfl rfl ?_
  refine g_imul C d_M_join_19 ?_
  refine g_iload_n C d_M_join_20 rfl rfl ?_
  refine g_iadd C d_M_join_21 ?_
  refine g_iload_n C d_M_join_22 rfl rfl ?_
  refine g_iast C rfl d_M_join_23 hf (fun hf => ?_)
  exact g_vret C d_M_join_24 hf
set_option maxHeartbeats 4000000 in
theorem t_M_fence_B169 {ad : Nat → Nat} {dA : Nat → ClassId} {D : va_G} {p : Program} {l : Launch} {e : Env} {s : State} {m : MethodId} {args : Array Value} {below : List Frame} {meth : Method} {c : Code} {r : Int32} {μ' : Mm} (C : Cx CLS SHM ad dA D p s m args meth c c_M_fence 6 R_M (some .int)) (N : Nat)   : ∀  (μ : Mm) (lv : Nat → Option Value), lv 0 = some (.ref (ad 0)) → f_M_fence_B169 N μ = some (r, μ') → Go CLS SHM ad dA D p l e (rmD 2) s m args below meth c 6 (some (.int r)) μ' 169 lv [] μ := by
  intro μ lv hl0 hf
  unfold f_M_fence_B169 at hf
  refine g_aload_n C d_M_fence_169 rfl hl0 ?_
  refine g_getI (k := 9) C k_M (by decide) fl_M_111 rfl rfl d_M_fence_170 ?_
  exact g_iret C d_M_fence_173 hf
set_option maxHeartbeats 4000000 in
theorem t_M_fence_L135 {ad : Nat → Nat} {dA : Nat → ClassId} {D : va_G} {p : Program} {l : Launch} {e : Env} {s : State} {m : MethodId} {args : Array Value} {below : List Frame} {meth : Method} {c : Code} {r : Int32} {μ' : Mm} (C : Cx CLS SHM ad dA D p s m args meth c c_M_fence 6 R_M (some .int)) (N : Nat)   : ∀ (n : Nat) (v1 : Int32) (v3 : Int32) (v5 : Int32) (μ : Mm) (lv : Nat → Option Value), lv 0 = some (.ref (ad 0)) → lv 1 = some (.int v1) → lv 3 = some (.int v3) → lv 5 = some (.int v5) → f_M_fence_L135 N n v1 v3 v5 μ = some (r, μ') → Go CLS SHM ad dA D p l e (rmD 2) s m args below meth c 6 (some (.int r)) μ' 135 lv [] μ := by
  intro n
  induction n with
  | zero => intro v1 v3 v5 μ lv hl0 hl1 hl3 hl5 hf; cases (show none = some _ from hf)
  | succ n ih =>
    intro v1 v3 v5 μ lv hl0 hl1 hl3 hl5 hf
    unfold f_M_fence_L135 at hf
    refine g_iload C d_M_fence_135 hl5 ?_
    refine g_iload_n C d_M_fence_137 rfl hl3 ?_
    refine g_icmp_ge (tgt := 169) C d_M_fence_138 (by decide) hf (fun c27 hf => ?_) (fun c27 hf => ?_)
    · exact t_M_fence_B169 C N _ _ hl0 hf
    · refine g_aload_n C d_M_fence_141 rfl hl0 ?_
      refine g_iload C d_M_fence_142 hl5 ?_
      refine g_iload C d_M_fence_144 hl5 ?_
      refine g_iconst (v := 1) C d_M_fence_146 (by decide) ?_
      refine g_iadd C d_M_fence_147 ?_
      refine g_aload_n C d_M_fence_148 rfl hl0 ?_
      refine g_getI (k := 9) C k_M (by decide) fl_M_111 rfl rfl d_M_fence_149 ?_
      refine g_irem C d_M_fence_152 hf (fun hf => ?_)
      refine g_aload_n C d_M_fence_153 rfl hl0 ?_
      refine g_iload_n C d_M_fence_154 rfl hl1 ?_
      refine g_iload C d_M_fence_155 hl5 ?_
      refine g_cvI C k_M rfl mv_M_at ml_M_139 d_M_fence_157 hf (fun r μ1 h => t_M_at C.2.2.2.2.2.2.2.2.1 h) rfl rfl (by decide) (Nat.le_of_ble_eq_true rfl) (fun r31 μ30 hf => ?_)
      refine g_cvV C k_M rfl mv_M_join ml_M_147 d_M_fence_160 hf (fun μ1 h => t_M_join C.2.2.2.2.2.2.2.2.1 h) rfl rfl (by decide) (Nat.le_of_ble_eq_true rfl) (fun μ32 hf => ?_)
      refine g_iinc (v := 1) C d_M_fence_163 hl5 (by decide) (by decide) ?_
      refine g_goto (tgt := 135) C d_M_fence_166 (by decide) ?_
      exact ih _ _ _ _ _ ((upG hl0 rfl)) ((upG hl1 rfl)) ((upG hl3 rfl)) upS hf
set_option maxHeartbeats 4000000 in
theorem t_M_fence_B129 {ad : Nat → Nat} {dA : Nat → ClassId} {D : va_G} {p : Program} {l : Launch} {e : Env} {s : State} {m : MethodId} {args : Array Value} {below : List Frame} {meth : Method} {c : Code} {r : Int32} {μ' : Mm} (C : Cx CLS SHM ad dA D p s m args meth c c_M_fence 6 R_M (some .int)) (N : Nat)   : ∀ (v1 : Int32) (v3 : Int32) (s1 : Int32) (s2 : Int32) (μ : Mm) (lv : Nat → Option Value), lv 0 = some (.ref (ad 0)) → lv 1 = some (.int v1) → lv 3 = some (.int v3) → f_M_fence_B129 N v1 v3 s1 s2 μ = some (r, μ') → Go CLS SHM ad dA D p l e (rmD 2) s m args below meth c 6 (some (.int r)) μ' 129 lv [.int s2, .int s1, .ref (ad 0)] μ := by
  intro v1 v3 s1 s2 μ lv hl0 hl1 hl3 hf
  unfold f_M_fence_B129 at hf
  refine g_cvV C k_M rfl mv_M_clear ml_M_143 d_M_fence_129 hf (fun μ1 h => t_M_clear C.2.2.2.2.2.2.2.2.1 h) rfl rfl (by decide) (Nat.le_of_ble_eq_true rfl) (fun μ26 hf => ?_)
  refine g_iconst (v := 0) C d_M_fence_132 (by decide) ?_
  refine g_istore C d_M_fence_133 (by decide) ?_
  exact t_M_fence_L135 C N N _ _ _ _ _ ((upG hl0 rfl)) ((upG hl1 rfl)) ((upG hl3 rfl)) upS hf
set_option maxHeartbeats 4000000 in
theorem t_M_fence_B118 {ad : Nat → Nat} {dA : Nat → ClassId} {D : va_G} {p : Program} {l : Launch} {e : Env} {s : State} {m : MethodId} {args : Array Value} {below : List Frame} {meth : Method} {c : Code} {r : Int32} {μ' : Mm} (C : Cx CLS SHM ad dA D p s m args meth c c_M_fence 6 R_M (some .int)) (N : Nat)   : ∀ (v1 : Int32) (v2 : Int32) (v3 : Int32) (s1 : Int32) (μ : Mm) (lv : Nat → Option Value), lv 0 = some (.ref (ad 0)) → lv 1 = some (.int v1) → lv 2 = some (.int v2) → lv 3 = some (.int v3) → f_M_fence_B118 N v1 v2 v3 s1 μ = some (r, μ') → Go CLS SHM ad dA D p l e (rmD 2) s m args below meth c 6 (some (.int r)) μ' 118 lv [.int s1, .ref (ad 0)] μ := by
  intro v1 v2 v3 s1 μ lv hl0 hl1 hl2 hl3 hf
  unfold f_M_fence_B118 at hf
  refine g_iload_n C d_M_fence_118 rfl hl2 ?_
  refine g_if_eq (tgt := 126) C d_M_fence_119 (by decide) hf (fun c25 hf => ?_) (fun c25 hf => ?_)
  · refine g_iload_n C d_M_fence_126 rfl hl3 ?_
    refine g_iconst (v := 1) C d_M_fence_127 (by decide) ?_
    refine g_iadd C d_M_fence_128 ?_
    exact t_M_fence_B129 C N _ _ _ _ _ _ hl0 hl1 hl3 hf
  · refine g_iload_n C d_M_fence_122 rfl hl3 ?_
    refine g_goto (tgt := 129) C d_M_fence_123 (by decide) ?_
    exact t_M_fence_B129 C N _ _ _ _ _ _ hl0 hl1 hl3 hf
set_option maxHeartbeats 4000000 in
theorem t_M_fence_B97 {ad : Nat → Nat} {dA : Nat → ClassId} {D : va_G} {p : Program} {l : Launch} {e : Env} {s : State} {m : MethodId} {args : Array Value} {below : List Frame} {meth : Method} {c : Code} {r : Int32} {μ' : Mm} (C : Cx CLS SHM ad dA D p s m args meth c c_M_fence 6 R_M (some .int)) (N : Nat)   : ∀ (v1 : Int32) (v2 : Int32) (v3 : Int32) (v4 : Int32) (μ : Mm) (lv : Nat → Option Value), lv 0 = some (.ref (ad 0)) → lv 1 = some (.int v1) → lv 2 = some (.int v2) → lv 3 = some (.int v3) → lv 4 = some (.int v4) → f_M_fence_B97 N v1 v2 v3 v4 μ = some (r, μ') → Go CLS SHM ad dA D p l e (rmD 2) s m args below meth c 6 (some (.int r)) μ' 97 lv [] μ := by
  intro v1 v2 v3 v4 μ lv hl0 hl1 hl2 hl3 hl4 hf
  unfold f_M_fence_B97 at hf
  refine g_iload C d_M_fence_97 hl4 ?_
  refine g_if_ne (tgt := 108) C d_M_fence_99 (by decide) hf (fun c21 hf => ?_) (fun c21 hf => ?_)
  · refine g_aload_n C d_M_fence_102 rfl hl0 ?_
    refine g_iconst (v := 5) C d_M_fence_103 (by decide) ?_
    refine g_cvI C k_M rfl mv_M_meets ml_M_135 d_M_fence_104 hf (fun r μ1 h => t_M_meets C.2.2.2.2.2.2.2.2.1 h) rfl rfl (by decide) (Nat.le_of_ble_eq_true rfl) (fun r23 μ22 hf => ?_)
    exact g_iret C d_M_fence_107 hf
  · refine g_aload_n C d_M_fence_108 rfl hl0 ?_
    refine g_iload_n C d_M_fence_109 rfl hl2 ?_
    refine g_if_eq (tgt := 117) C d_M_fence_110 (by decide) hf (fun c24 hf => ?_) (fun c24 hf => ?_)
    · refine g_iconst (v := 0) C d_M_fence_117 (by decide) ?_
      exact t_M_fence_B118 C N _ _ _ _ _ _ hl0 hl1 hl2 hl3 hf
    · refine g_iconst (v := 1) C d_M_fence_113 (by decide) ?_
      refine g_goto (tgt := 118) C d_M_fence_114 (by decide) ?_
      exact t_M_fence_B118 C N _ _ _ _ _ _ hl0 hl1 hl2 hl3 hf
set_option maxHeartbeats 4000000 in
theorem t_M_fence_B89 {ad : Nat → Nat} {dA : Nat → ClassId} {D : va_G} {p : Program} {l : Launch} {e : Env} {s : State} {m : MethodId} {args : Array Value} {below : List Frame} {meth : Method} {c : Code} {r : Int32} {μ' : Mm} (C : Cx CLS SHM ad dA D p s m args meth c c_M_fence 6 R_M (some .int)) (N : Nat)   (k57 : Int32 → Int32 → Int32 → Int32 → Int32 → Mm → Option (Int32 × Mm)) (hk57 : ∀ (v1 : Int32) (v2 : Int32) (v3 : Int32) (v4 : Int32) (v5 : Int32) (μ : Mm) (lv : Nat → Option Value), lv 0 = some (.ref (ad 0)) → lv 1 = some (.int v1) → lv 2 = some (.int v2) → lv 3 = some (.int v3) → lv 4 = some (.int v4) → lv 5 = some (.int v5) → k57 v1 v2 v3 v4 v5 μ = some (r, μ') → Go CLS SHM ad dA D p l e (rmD 2) s m args below meth c 6 (some (.int r)) μ' 57 lv [] μ) : ∀ (v1 : Int32) (v2 : Int32) (v3 : Int32) (v5 : Int32) (s0 : Int32) (μ : Mm) (lv : Nat → Option Value), lv 0 = some (.ref (ad 0)) → lv 1 = some (.int v1) → lv 2 = some (.int v2) → lv 3 = some (.int v3) → lv 5 = some (.int v5) → f_M_fence_B89 N k57 v1 v2 v3 v5 s0 μ = some (r, μ') → Go CLS SHM ad dA D p l e (rmD 2) s m args below meth c 6 (some (.int r)) μ' 89 lv [.int s0] μ := by
  intro v1 v2 v3 v5 s0 μ lv hl0 hl1 hl2 hl3 hl5 hf
  unfold f_M_fence_B89 at hf
  refine g_istore C d_M_fence_89 (by decide) ?_
  refine g_iinc (v := 1) C d_M_fence_91 (upG hl5 rfl) (by decide) (by decide) ?_
  refine g_goto (tgt := 57) C d_M_fence_94 (by decide) ?_
  exact hk57 _ _ _ _ _ _ _ ((upG (upG hl0 rfl) rfl)) ((upG (upG hl1 rfl) rfl)) ((upG (upG hl2 rfl) rfl)) ((upG (upG hl3 rfl) rfl)) ((upG upS rfl)) upS hf
set_option maxHeartbeats 4000000 in
theorem t_M_fence_B88 {ad : Nat → Nat} {dA : Nat → ClassId} {D : va_G} {p : Program} {l : Launch} {e : Env} {s : State} {m : MethodId} {args : Array Value} {below : List Frame} {meth : Method} {c : Code} {r : Int32} {μ' : Mm} (C : Cx CLS SHM ad dA D p s m args meth c c_M_fence 6 R_M (some .int)) (N : Nat)   (k57 : Int32 → Int32 → Int32 → Int32 → Int32 → Mm → Option (Int32 × Mm)) (hk57 : ∀ (v1 : Int32) (v2 : Int32) (v3 : Int32) (v4 : Int32) (v5 : Int32) (μ : Mm) (lv : Nat → Option Value), lv 0 = some (.ref (ad 0)) → lv 1 = some (.int v1) → lv 2 = some (.int v2) → lv 3 = some (.int v3) → lv 4 = some (.int v4) → lv 5 = some (.int v5) → k57 v1 v2 v3 v4 v5 μ = some (r, μ') → Go CLS SHM ad dA D p l e (rmD 2) s m args below meth c 6 (some (.int r)) μ' 57 lv [] μ) : ∀ (v1 : Int32) (v2 : Int32) (v3 : Int32) (v5 : Int32) (μ : Mm) (lv : Nat → Option Value), lv 0 = some (.ref (ad 0)) → lv 1 = some (.int v1) → lv 2 = some (.int v2) → lv 3 = some (.int v3) → lv 5 = some (.int v5) → f_M_fence_B88 N k57 v1 v2 v3 v5 μ = some (r, μ') → Go CLS SHM ad dA D p l e (rmD 2) s m args below meth c 6 (some (.int r)) μ' 88 lv [] μ := by
  intro v1 v2 v3 v5 μ lv hl0 hl1 hl2 hl3 hl5 hf
  unfold f_M_fence_B88 at hf
  refine g_iconst (v := 0) C d_M_fence_88 (by decide) ?_
  exact t_M_fence_B89 C N _ hk57 _ _ _ _ _ _ _ hl0 hl1 hl2 hl3 hl5 hf
set_option maxHeartbeats 4000000 in
theorem t_M_fence_L57 {ad : Nat → Nat} {dA : Nat → ClassId} {D : va_G} {p : Program} {l : Launch} {e : Env} {s : State} {m : MethodId} {args : Array Value} {below : List Frame} {meth : Method} {c : Code} {r : Int32} {μ' : Mm} (C : Cx CLS SHM ad dA D p s m args meth c c_M_fence 6 R_M (some .int)) (N : Nat)   : ∀ (n : Nat) (v1 : Int32) (v2 : Int32) (v3 : Int32) (v4 : Int32) (v5 : Int32) (μ : Mm) (lv : Nat → Option Value), lv 0 = some (.ref (ad 0)) → lv 1 = some (.int v1) → lv 2 = some (.int v2) → lv 3 = some (.int v3) → lv 4 = some (.int v4) → lv 5 = some (.int v5) → f_M_fence_L57 N n v1 v2 v3 v4 v5 μ = some (r, μ') → Go CLS SHM ad dA D p l e (rmD 2) s m args below meth c 6 (some (.int r)) μ' 57 lv [] μ := by
  intro n
  induction n with
  | zero => intro v1 v2 v3 v4 v5 μ lv hl0 hl1 hl2 hl3 hl4 hl5 hf; cases (show none = some _ from hf)
  | succ n ih =>
    intro v1 v2 v3 v4 v5 μ lv hl0 hl1 hl2 hl3 hl4 hl5 hf
    unfold f_M_fence_L57 at hf
    refine g_iload C d_M_fence_57 hl5 ?_
    refine g_iload_n C d_M_fence_59 rfl hl3 ?_
    refine g_icmp_ge (tgt := 97) C d_M_fence_60 (by decide) hf (fun c13 hf => ?_) (fun c13 hf => ?_)
    · exact t_M_fence_B97 C N _ _ _ _ _ _ hl0 hl1 hl2 hl3 hl4 hf
    · refine g_iload C d_M_fence_63 hl4 ?_
      refine g_if_eq (tgt := 88) C d_M_fence_65 (by decide) hf (fun c14 hf => ?_) (fun c14 hf => ?_)
      · exact t_M_fence_B88 C N _ ih _ _ _ _ _ _ hl0 hl1 hl2 hl3 hl5 hf
      · refine g_aload_n C d_M_fence_68 rfl hl0 ?_
        refine g_iload_n C d_M_fence_69 rfl hl1 ?_
        refine g_iload C d_M_fence_70 hl5 ?_
        refine g_cvI C k_M rfl mv_M_at ml_M_139 d_M_fence_72 hf (fun r μ1 h => t_M_at C.2.2.2.2.2.2.2.2.1 h) rfl rfl (by decide) (Nat.le_of_ble_eq_true rfl) (fun r16 μ15 hf => ?_)
        refine g_iconst (v := 1) C d_M_fence_75 (by decide) ?_
        refine g_bipush (v := 30) C d_M_fence_76 (by decide) ?_
        refine g_csI C mv_M_in ml_M_117 d_M_fence_78 hf (fun r μ1 h => t_M_in C.2.2.2.2.2.2.2.2.1 h) rfl rfl (by decide) (Nat.le_of_ble_eq_true rfl) (fun r18 μ17 hf => ?_)
        refine g_if_eq (tgt := 88) C d_M_fence_81 (by decide) hf (fun c19 hf => ?_) (fun c19 hf => ?_)
        · exact t_M_fence_B88 C N _ ih _ _ _ _ _ _ hl0 hl1 hl2 hl3 hl5 hf
        · refine g_iconst (v := 1) C d_M_fence_84 (by decide) ?_
          refine g_goto (tgt := 89) C d_M_fence_85 (by decide) ?_
          exact t_M_fence_B89 C N _ ih _ _ _ _ _ _ _ hl0 hl1 hl2 hl3 hl5 hf
set_option maxHeartbeats 4000000 in
theorem t_M_fence_B52 {ad : Nat → Nat} {dA : Nat → ClassId} {D : va_G} {p : Program} {l : Launch} {e : Env} {s : State} {m : MethodId} {args : Array Value} {below : List Frame} {meth : Method} {c : Code} {r : Int32} {μ' : Mm} (C : Cx CLS SHM ad dA D p s m args meth c c_M_fence 6 R_M (some .int)) (N : Nat)   : ∀ (v1 : Int32) (v2 : Int32) (v3 : Int32) (s0 : Int32) (μ : Mm) (lv : Nat → Option Value), lv 0 = some (.ref (ad 0)) → lv 1 = some (.int v1) → lv 2 = some (.int v2) → lv 3 = some (.int v3) → f_M_fence_B52 N v1 v2 v3 s0 μ = some (r, μ') → Go CLS SHM ad dA D p l e (rmD 2) s m args below meth c 6 (some (.int r)) μ' 52 lv [.int s0] μ := by
  intro v1 v2 v3 s0 μ lv hl0 hl1 hl2 hl3 hf
  unfold f_M_fence_B52 at hf
  refine g_istore C d_M_fence_52 (by decide) ?_
  refine g_iconst (v := 0) C d_M_fence_54 (by decide) ?_
  refine g_istore C d_M_fence_55 (by decide) ?_
  exact t_M_fence_L57 C N N _ _ _ _ _ _ _ ((upG (upG hl0 rfl) rfl)) ((upG (upG hl1 rfl) rfl)) ((upG (upG hl2 rfl) rfl)) ((upG (upG hl3 rfl) rfl)) ((upG upS rfl)) upS hf
set_option maxHeartbeats 4000000 in
theorem t_M_fence {l : Launch} {ad : Nat → Nat} {dA : Nat → ClassId} {D : va_G} (hi : Inj SHM ad) {N : Nat} {a1 : Int32} {a2 : Int32}  {μ μ' : Mm} {r : Int32} (hf : f_M_fence N a1 a2 μ = some (r, μ')) : Ct CLS l SHM ad dA D y_M_fence c_M_fence 6 (some .int) 2 [.ref (ad 0), .int a1, .int a2] μ (some (.int r)) μ' := by
  unfold f_M_fence at hf
  refine ct_of (by decide) hi (Nat.le_of_ble_eq_true rfl) ?_
  intro p e s m args below meth c C
  refine g_iload_n C d_M_fence_0 rfl rfl ?_
  refine g_csI C mv_M_isRow ml_M_131 d_M_fence_1 hf (fun r μ1 h => t_M_isRow C.2.2.2.2.2.2.2.2.1 h) rfl rfl (by decide) (Nat.le_of_ble_eq_true rfl) (fun r2 μ1 hf => ?_)
  refine g_if_ne (tgt := 9) C d_M_fence_4 (by decide) hf (fun c3 hf => ?_) (fun c3 hf => ?_)
  · refine g_iconst (v := -1) C d_M_fence_7 (by decide) ?_
    exact g_iret C d_M_fence_8 hf
  · refine g_aload_n C d_M_fence_9 rfl rfl ?_
    refine g_getR (b := 2) (k := 5) C k_M (by decide) fl_M_13 rfl rfl d_M_fence_10 ?_
    refine g_iload_n C d_M_fence_13 rfl rfl ?_
    refine g_iald C rfl d_M_fence_14 hf (fun hf => ?_)
    refine g_if_ge (tgt := 24) C d_M_fence_15 (by decide) hf (fun c4 hf => ?_) (fun c4 hf => ?_)
    · refine g_aload_n C d_M_fence_24 rfl rfl ?_
      refine g_getR (b := 2) (k := 5) C k_M (by decide) fl_M_13 rfl rfl d_M_fence_25 ?_
      refine g_iload_n C d_M_fence_28 rfl rfl ?_
      refine g_iald C rfl d_M_fence_29 hf (fun hf => ?_)
      refine g_istore_n C d_M_fence_30 rfl (by decide) ?_
      refine g_iload_n C d_M_fence_31 rfl (upG rfl rfl) ?_
      refine g_if_eq (tgt := 45) C d_M_fence_32 (by decide) hf (fun c6 hf => ?_) (fun c6 hf => ?_)
      · refine g_iload_n C d_M_fence_45 rfl upS ?_
        refine g_iconst (v := 1) C d_M_fence_46 (by decide) ?_
        refine g_bipush (v := 15) C d_M_fence_47 (by decide) ?_
        refine g_csI C mv_M_in ml_M_117 d_M_fence_49 hf (fun r μ1 h => t_M_in C.2.2.2.2.2.2.2.2.1 h) rfl rfl (by decide) (Nat.le_of_ble_eq_true rfl) (fun r8 μ7 hf => ?_)
        exact t_M_fence_B52 C N _ _ _ _ _ _ ((upG rfl rfl)) ((upG rfl rfl)) ((upG rfl rfl)) upS hf
      · refine g_iload_n C d_M_fence_35 rfl upS ?_
        refine g_iconst (v := 3) C d_M_fence_36 (by decide) ?_
        refine g_bipush (v := 16) C d_M_fence_37 (by decide) ?_
        refine g_csI C mv_M_in ml_M_117 d_M_fence_39 hf (fun r μ1 h => t_M_in C.2.2.2.2.2.2.2.2.1 h) rfl rfl (by decide) (Nat.le_of_ble_eq_true rfl) (fun r10 μ9 hf => ?_)
        refine g_goto (tgt := 52) C d_M_fence_42 (by decide) ?_
        exact t_M_fence_B52 C N _ _ _ _ _ _ ((upG rfl rfl)) ((upG rfl rfl)) ((upG rfl rfl)) upS hf
    · refine g_aload_n C d_M_fence_18 rfl rfl ?_
      refine g_iconst (v := 1) C d_M_fence_19 (by decide) ?_
      refine g_cvI C k_M rfl mv_M_meets ml_M_135 d_M_fence_20 hf (fun r μ1 h => t_M_meets C.2.2.2.2.2.2.2.2.1 h) rfl rfl (by decide) (Nat.le_of_ble_eq_true rfl) (fun r12 μ11 hf => ?_)
      exact g_iret C d_M_fence_23 hf
set_option maxHeartbeats 4000000 in
theorem t_M_net {l : Launch} {ad : Nat → Nat} {dA : Nat → ClassId} {D : va_G} (hi : Inj SHM ad) {N : Nat} {a1 : Int32}  {μ μ' : Mm} {r : Int32} (hf : f_M_net N a1 μ = some (r, μ')) : Ct CLS l SHM ad dA D y_M_net c_M_net 2 (some .int) 1 [.ref (ad 0), .int a1] μ (some (.int r)) μ' := by
  unfold f_M_net at hf
  refine ct_of (by decide) hi (Nat.le_of_ble_eq_true rfl) ?_
  intro p e s m args below meth c C
  refine g_iload_n C d_M_net_0 rfl rfl ?_
  refine g_iconst (v := 1) C d_M_net_1 (by decide) ?_
  refine g_bipush (v := 16) C d_M_net_2 (by decide) ?_
  refine g_csI C mv_M_in ml_M_117 d_M_net_4 hf (fun r μ1 h => t_M_in C.2.2.2.2.2.2.2.2.1 h) rfl rfl (by decide) (Nat.le_of_ble_eq_true rfl) (fun r2 μ1 hf => ?_)
  refine g_if_ne (tgt := 12) C d_M_net_7 (by decide) hf (fun c3 hf => ?_) (fun c3 hf => ?_)
  · refine g_iconst (v := -1) C d_M_net_10 (by decide) ?_
    exact g_iret C d_M_net_11 hf
  · refine g_aload_n C d_M_net_12 rfl rfl ?_
    refine g_iconst (v := 2) C d_M_net_13 (by decide) ?_
    refine g_iload_n C d_M_net_14 rfl rfl ?_
    refine g_cvV C k_M rfl mv_M_clear ml_M_143 d_M_net_15 hf (fun μ1 h => t_M_clear C.2.2.2.2.2.2.2.2.1 h) rfl rfl (by decide) (Nat.le_of_ble_eq_true rfl) (fun μ4 hf => ?_)
    refine g_iload_n C d_M_net_18 rfl rfl ?_
    exact g_iret C d_M_net_19 hf
set_option maxHeartbeats 4000000 in
theorem t_M_isPost {l : Launch} {ad : Nat → Nat} {dA : Nat → ClassId} {D : va_G} (hi : Inj SHM ad) {N : Nat} {a1 : Int32}  {μ μ' : Mm} {r : Int32} (hf : f_M_isPost N a1 μ = some (r, μ')) : Ct CLS l SHM ad dA D y_M_isPost c_M_isPost 2 (some .boolean) 1 [.ref (ad 0), .int a1] μ (some (.int r)) μ' := by
  unfold f_M_isPost at hf
  refine ct_of (by decide) hi (Nat.le_of_ble_eq_true rfl) ?_
  intro p e s m args below meth c C
  refine g_iload_n C d_M_isPost_0 rfl rfl ?_
  refine g_iconst (v := 0) C d_M_isPost_1 (by decide) ?_
  refine g_aload_n C d_M_isPost_2 rfl rfl ?_
  refine g_getI (k := 9) C k_M (by decide) fl_M_111 rfl rfl d_M_isPost_3 ?_
  refine g_iconst (v := 1) C d_M_isPost_6 (by decide) ?_
  refine g_isub C d_M_isPost_7 ?_
  refine g_csI C mv_M_in ml_M_117 d_M_isPost_8 hf (fun r μ1 h => t_M_in C.2.2.2.2.2.2.2.2.1 h) rfl rfl (by decide) (Nat.le_of_ble_eq_true rfl) (fun r2 μ1 hf => ?_)
  exact g_zret C d_M_isPost_11 hf
set_option maxHeartbeats 4000000 in
theorem t_M_walls_B74 {ad : Nat → Nat} {dA : Nat → ClassId} {D : va_G} {p : Program} {l : Launch} {e : Env} {s : State} {m : MethodId} {args : Array Value} {below : List Frame} {meth : Method} {c : Code} {r : Int32} {μ' : Mm} (C : Cx CLS SHM ad dA D p s m args meth c c_M_walls 5 R_M (some .int)) (N : Nat)   (k4 : Int32 → Int32 → Int32 → Mm → Option (Int32 × Mm)) (hk4 : ∀ (v1 : Int32) (v2 : Int32) (v3 : Int32) (μ : Mm) (lv : Nat → Option Value), lv 0 = some (.ref (ad 0)) → lv 1 = some (.int v1) → lv 2 = some (.int v2) → lv 3 = some (.int v3) → k4 v1 v2 v3 μ = some (r, μ') → Go CLS SHM ad dA D p l e (rmD 0) s m args below meth c 5 (some (.int r)) μ' 4 lv [] μ) : ∀ (v1 : Int32) (v2 : Int32) (v3 : Int32) (μ : Mm) (lv : Nat → Option Value), lv 0 = some (.ref (ad 0)) → lv 1 = some (.int v1) → lv 2 = some (.int v2) → lv 3 = some (.int v3) → f_M_walls_B74 N k4 v1 v2 v3 μ = some (r, μ') → Go CLS SHM ad dA D p l e (rmD 0) s m args below meth c 5 (some (.int r)) μ' 74 lv [] μ := by
  intro v1 v2 v3 μ lv hl0 hl1 hl2 hl3 hf
  unfold f_M_walls_B74 at hf
  refine g_iinc (v := 1) C d_M_walls_74 hl3 (by decide) (by decide) ?_
  refine g_goto (tgt := 4) C d_M_walls_77 (by decide) ?_
  exact hk4 _ _ _ _ _ ((upG hl0 rfl)) ((upG hl1 rfl)) ((upG hl2 rfl)) upS hf
set_option maxHeartbeats 4000000 in
theorem t_M_walls_B66 {ad : Nat → Nat} {dA : Nat → ClassId} {D : va_G} {p : Program} {l : Launch} {e : Env} {s : State} {m : MethodId} {args : Array Value} {below : List Frame} {meth : Method} {c : Code} {r : Int32} {μ' : Mm} (C : Cx CLS SHM ad dA D p s m args meth c c_M_walls 5 R_M (some .int)) (N : Nat)   (k4 : Int32 → Int32 → Int32 → Mm → Option (Int32 × Mm)) (hk4 : ∀ (v1 : Int32) (v2 : Int32) (v3 : Int32) (μ : Mm) (lv : Nat → Option Value), lv 0 = some (.ref (ad 0)) → lv 1 = some (.int v1) → lv 2 = some (.int v2) → lv 3 = some (.int v3) → k4 v1 v2 v3 μ = some (r, μ') → Go CLS SHM ad dA D p l e (rmD 0) s m args below meth c 5 (some (.int r)) μ' 4 lv [] μ) (k17 : Int32 → Int32 → Int32 → Int32 → Mm → Option (Int32 × Mm)) (hk17 : ∀ (v1 : Int32) (v2 : Int32) (v3 : Int32) (v4 : Int32) (μ : Mm) (lv : Nat → Option Value), lv 0 = some (.ref (ad 0)) → lv 1 = some (.int v1) → lv 2 = some (.int v2) → lv 3 = some (.int v3) → lv 4 = some (.int v4) → k17 v1 v2 v3 v4 μ = some (r, μ') → Go CLS SHM ad dA D p l e (rmD 0) s m args below meth c 5 (some (.int r)) μ' 17 lv [] μ) : ∀ (v1 : Int32) (v3 : Int32) (v4 : Int32) (s0 : Int32) (s1 : Int32) (μ : Mm) (lv : Nat → Option Value), lv 0 = some (.ref (ad 0)) → lv 1 = some (.int v1) → lv 3 = some (.int v3) → lv 4 = some (.int v4) → f_M_walls_B66 N k4 k17 v1 v3 v4 s0 s1 μ = some (r, μ') → Go CLS SHM ad dA D p l e (rmD 0) s m args below meth c 5 (some (.int r)) μ' 66 lv [.int s1, .int s0] μ := by
  intro v1 v3 v4 s0 s1 μ lv hl0 hl1 hl3 hl4 hf
  unfold f_M_walls_B66 at hf
  refine g_iadd C d_M_walls_66 ?_
  refine g_istore_n C d_M_walls_67 rfl (by decide) ?_
  refine g_iinc (v := 1) C d_M_walls_68 (upG hl4 rfl) (by decide) (by decide) ?_
  refine g_goto (tgt := 17) C d_M_walls_71 (by decide) ?_
  exact hk17 _ _ _ _ _ _ ((upG (upG hl0 rfl) rfl)) ((upG (upG hl1 rfl) rfl)) ((upG upS rfl)) ((upG (upG hl3 rfl) rfl)) upS hf
set_option maxHeartbeats 4000000 in
theorem t_M_walls_B65 {ad : Nat → Nat} {dA : Nat → ClassId} {D : va_G} {p : Program} {l : Launch} {e : Env} {s : State} {m : MethodId} {args : Array Value} {below : List Frame} {meth : Method} {c : Code} {r : Int32} {μ' : Mm} (C : Cx CLS SHM ad dA D p s m args meth c c_M_walls 5 R_M (some .int)) (N : Nat)   (k4 : Int32 → Int32 → Int32 → Mm → Option (Int32 × Mm)) (hk4 : ∀ (v1 : Int32) (v2 : Int32) (v3 : Int32) (μ : Mm) (lv : Nat → Option Value), lv 0 = some (.ref (ad 0)) → lv 1 = some (.int v1) → lv 2 = some (.int v2) → lv 3 = some (.int v3) → k4 v1 v2 v3 μ = some (r, μ') → Go CLS SHM ad dA D p l e (rmD 0) s m args below meth c 5 (some (.int r)) μ' 4 lv [] μ) (k17 : Int32 → Int32 → Int32 → Int32 → Mm → Option (Int32 × Mm)) (hk17 : ∀ (v1 : Int32) (v2 : Int32) (v3 : Int32) (v4 : Int32) (μ : Mm) (lv : Nat → Option Value), lv 0 = some (.ref (ad 0)) → lv 1 = some (.int v1) → lv 2 = some (.int v2) → lv 3 = some (.int v3) → lv 4 = some (.int v4) → k17 v1 v2 v3 v4 μ = some (r, μ') → Go CLS SHM ad dA D p l e (rmD 0) s m args below meth c 5 (some (.int r)) μ' 17 lv [] μ) : ∀ (v1 : Int32) (v3 : Int32) (v4 : Int32) (s0 : Int32) (μ : Mm) (lv : Nat → Option Value), lv 0 = some (.ref (ad 0)) → lv 1 = some (.int v1) → lv 3 = some (.int v3) → lv 4 = some (.int v4) → f_M_walls_B65 N k4 k17 v1 v3 v4 s0 μ = some (r, μ') → Go CLS SHM ad dA D p l e (rmD 0) s m args below meth c 5 (some (.int r)) μ' 65 lv [.int s0] μ := by
  intro v1 v3 v4 s0 μ lv hl0 hl1 hl3 hl4 hf
  unfold f_M_walls_B65 at hf
  refine g_iconst (v := 0) C d_M_walls_65 (by decide) ?_
  exact t_M_walls_B66 C N _ hk4 _ hk17 _ _ _ _ _ _ _ hl0 hl1 hl3 hl4 hf
set_option maxHeartbeats 4000000 in
theorem t_M_walls_B61 {ad : Nat → Nat} {dA : Nat → ClassId} {D : va_G} {p : Program} {l : Launch} {e : Env} {s : State} {m : MethodId} {args : Array Value} {below : List Frame} {meth : Method} {c : Code} {r : Int32} {μ' : Mm} (C : Cx CLS SHM ad dA D p s m args meth c c_M_walls 5 R_M (some .int)) (N : Nat)   (k4 : Int32 → Int32 → Int32 → Mm → Option (Int32 × Mm)) (hk4 : ∀ (v1 : Int32) (v2 : Int32) (v3 : Int32) (μ : Mm) (lv : Nat → Option Value), lv 0 = some (.ref (ad 0)) → lv 1 = some (.int v1) → lv 2 = some (.int v2) → lv 3 = some (.int v3) → k4 v1 v2 v3 μ = some (r, μ') → Go CLS SHM ad dA D p l e (rmD 0) s m args below meth c 5 (some (.int r)) μ' 4 lv [] μ) (k17 : Int32 → Int32 → Int32 → Int32 → Mm → Option (Int32 × Mm)) (hk17 : ∀ (v1 : Int32) (v2 : Int32) (v3 : Int32) (v4 : Int32) (μ : Mm) (lv : Nat → Option Value), lv 0 = some (.ref (ad 0)) → lv 1 = some (.int v1) → lv 2 = some (.int v2) → lv 3 = some (.int v3) → lv 4 = some (.int v4) → k17 v1 v2 v3 v4 μ = some (r, μ') → Go CLS SHM ad dA D p l e (rmD 0) s m args below meth c 5 (some (.int r)) μ' 17 lv [] μ) : ∀ (v1 : Int32) (v3 : Int32) (v4 : Int32) (s0 : Int32) (μ : Mm) (lv : Nat → Option Value), lv 0 = some (.ref (ad 0)) → lv 1 = some (.int v1) → lv 3 = some (.int v3) → lv 4 = some (.int v4) → f_M_walls_B61 N k4 k17 v1 v3 v4 s0 μ = some (r, μ') → Go CLS SHM ad dA D p l e (rmD 0) s m args below meth c 5 (some (.int r)) μ' 61 lv [.int s0] μ := by
  intro v1 v3 v4 s0 μ lv hl0 hl1 hl3 hl4 hf
  unfold f_M_walls_B61 at hf
  refine g_iconst (v := 1) C d_M_walls_61 (by decide) ?_
  refine g_goto (tgt := 66) C d_M_walls_62 (by decide) ?_
  exact t_M_walls_B66 C N _ hk4 _ hk17 _ _ _ _ _ _ _ hl0 hl1 hl3 hl4 hf
set_option maxHeartbeats 4000000 in
theorem t_M_walls_L17 {ad : Nat → Nat} {dA : Nat → ClassId} {D : va_G} {p : Program} {l : Launch} {e : Env} {s : State} {m : MethodId} {args : Array Value} {below : List Frame} {meth : Method} {c : Code} {r : Int32} {μ' : Mm} (C : Cx CLS SHM ad dA D p s m args meth c c_M_walls 5 R_M (some .int)) (N : Nat)   (k4 : Int32 → Int32 → Int32 → Mm → Option (Int32 × Mm)) (hk4 : ∀ (v1 : Int32) (v2 : Int32) (v3 : Int32) (μ : Mm) (lv : Nat → Option Value), lv 0 = some (.ref (ad 0)) → lv 1 = some (.int v1) → lv 2 = some (.int v2) → lv 3 = some (.int v3) → k4 v1 v2 v3 μ = some (r, μ') → Go CLS SHM ad dA D p l e (rmD 0) s m args below meth c 5 (some (.int r)) μ' 4 lv [] μ) : ∀ (n : Nat) (v1 : Int32) (v2 : Int32) (v3 : Int32) (v4 : Int32) (μ : Mm) (lv : Nat → Option Value), lv 0 = some (.ref (ad 0)) → lv 1 = some (.int v1) → lv 2 = some (.int v2) → lv 3 = some (.int v3) → lv 4 = some (.int v4) → f_M_walls_L17 N k4 n v1 v2 v3 v4 μ = some (r, μ') → Go CLS SHM ad dA D p l e (rmD 0) s m args below meth c 5 (some (.int r)) μ' 17 lv [] μ := by
  intro n
  induction n with
  | zero => intro v1 v2 v3 v4 μ lv hl0 hl1 hl2 hl3 hl4 hf; cases (show none = some _ from hf)
  | succ n ih =>
    intro v1 v2 v3 v4 μ lv hl0 hl1 hl2 hl3 hl4 hf
    unfold f_M_walls_L17 at hf
    refine g_iload C d_M_walls_17 hl4 ?_
    refine g_aload_n C d_M_walls_19 rfl hl0 ?_
    refine g_getI (k := 9) C k_M (by decide) fl_M_111 rfl rfl d_M_walls_20 ?_
    refine g_icmp_ge (tgt := 74) C d_M_walls_23 (by decide) hf (fun c3 hf => ?_) (fun c3 hf => ?_)
    · exact t_M_walls_B74 C N _ hk4 _ _ _ _ _ hl0 hl1 hl2 hl3 hf
    · refine g_iload_n C d_M_walls_26 rfl hl2 ?_
      refine g_aload_n C d_M_walls_27 rfl hl0 ?_
      refine g_getR (b := 5) (k := 10) C k_M (by decide) fl_M_23 rfl rfl d_M_walls_28 ?_
      refine g_bipush (v := 16) C d_M_walls_31 (by decide) ?_
      refine g_iload_n C d_M_walls_33 rfl hl3 ?_
      refine g_imul C d_M_walls_34 ?_
      refine g_iload C d_M_walls_35 hl4 ?_
      refine g_iadd C d_M_walls_37 ?_
      refine g_iald C rfl d_M_walls_38 hf (fun hf => ?_)
      refine g_if_le (tgt := 65) C d_M_walls_39 (by decide) hf (fun c5 hf => ?_) (fun c5 hf => ?_)
      · exact t_M_walls_B65 C N _ hk4 _ ih _ _ _ _ _ _ hl0 hl1 hl3 hl4 hf
      · refine g_iload_n C d_M_walls_42 rfl hl1 ?_
        refine g_if_eq (tgt := 61) C d_M_walls_43 (by decide) hf (fun c6 hf => ?_) (fun c6 hf => ?_)
        · exact t_M_walls_B61 C N _ hk4 _ ih _ _ _ _ _ _ hl0 hl1 hl3 hl4 hf
        · refine g_aload_n C d_M_walls_46 rfl hl0 ?_
          refine g_getR (b := 6) (k := 11) C k_M (by decide) fl_M_26 rfl rfl d_M_walls_47 ?_
          refine g_bipush (v := 16) C d_M_walls_50 (by decide) ?_
          refine g_iload_n C d_M_walls_52 rfl hl3 ?_
          refine g_imul C d_M_walls_53 ?_
          refine g_iload C d_M_walls_54 hl4 ?_
          refine g_iadd C d_M_walls_56 ?_
          refine g_zald C rfl d_M_walls_57 hf (fun hf => ?_)
          refine g_if_eq (tgt := 65) C d_M_walls_58 (by decide) hf (fun c8 hf => ?_) (fun c8 hf => ?_)
          · exact t_M_walls_B65 C N _ hk4 _ ih _ _ _ _ _ _ hl0 hl1 hl3 hl4 hf
          · exact t_M_walls_B61 C N _ hk4 _ ih _ _ _ _ _ _ hl0 hl1 hl3 hl4 hf
set_option maxHeartbeats 4000000 in
theorem t_M_walls_L4 {ad : Nat → Nat} {dA : Nat → ClassId} {D : va_G} {p : Program} {l : Launch} {e : Env} {s : State} {m : MethodId} {args : Array Value} {below : List Frame} {meth : Method} {c : Code} {r : Int32} {μ' : Mm} (C : Cx CLS SHM ad dA D p s m args meth c c_M_walls 5 R_M (some .int)) (N : Nat)   : ∀ (n : Nat) (v1 : Int32) (v2 : Int32) (v3 : Int32) (μ : Mm) (lv : Nat → Option Value), lv 0 = some (.ref (ad 0)) → lv 1 = some (.int v1) → lv 2 = some (.int v2) → lv 3 = some (.int v3) → f_M_walls_L4 N n v1 v2 v3 μ = some (r, μ') → Go CLS SHM ad dA D p l e (rmD 0) s m args below meth c 5 (some (.int r)) μ' 4 lv [] μ := by
  intro n
  induction n with
  | zero => intro v1 v2 v3 μ lv hl0 hl1 hl2 hl3 hf; cases (show none = some _ from hf)
  | succ n ih =>
    intro v1 v2 v3 μ lv hl0 hl1 hl2 hl3 hf
    unfold f_M_walls_L4 at hf
    refine g_iload_n C d_M_walls_4 rfl hl3 ?_
    refine g_aload_n C d_M_walls_5 rfl hl0 ?_
    refine g_getI (k := 9) C k_M (by decide) fl_M_111 rfl rfl d_M_walls_6 ?_
    refine g_icmp_ge (tgt := 80) C d_M_walls_9 (by decide) hf (fun c1 hf => ?_) (fun c1 hf => ?_)
    · refine g_iload_n C d_M_walls_80 rfl hl2 ?_
      exact g_iret C d_M_walls_81 hf
    · refine g_iload_n C d_M_walls_12 rfl hl3 ?_
      refine g_iconst (v := 1) C d_M_walls_13 (by decide) ?_
      refine g_iadd C d_M_walls_14 ?_
      refine g_istore C d_M_walls_15 (by decide) ?_
      exact t_M_walls_L17 C N _ ih N _ _ _ _ _ _ ((upG hl0 rfl)) ((upG hl1 rfl)) ((upG hl2 rfl)) ((upG hl3 rfl)) upS hf
set_option maxHeartbeats 4000000 in
theorem t_M_walls {l : Launch} {ad : Nat → Nat} {dA : Nat → ClassId} {D : va_G} (hi : Inj SHM ad) {N : Nat} {a1 : Int32}  {μ μ' : Mm} {r : Int32} (hf : f_M_walls N a1 μ = some (r, μ')) : Ct CLS l SHM ad dA D y_M_walls c_M_walls 5 (some .int) 0 [.ref (ad 0), .int a1] μ (some (.int r)) μ' := by
  unfold f_M_walls at hf
  refine ct_of (by decide) hi (Nat.le_of_ble_eq_true rfl) ?_
  intro p e s m args below meth c C
  refine g_iconst (v := 0) C d_M_walls_0 (by decide) ?_
  refine g_istore_n C d_M_walls_1 rfl (by decide) ?_
  refine g_iconst (v := 0) C d_M_walls_2 (by decide) ?_
  refine g_istore_n C d_M_walls_3 rfl (by decide) ?_
  exact t_M_walls_L4 C N N _ _ _ _ _ ((upG (upG rfl rfl) rfl)) ((upG (upG rfl rfl) rfl)) ((upG upS rfl)) upS hf
set_option maxHeartbeats 4000000 in
theorem t_M_wall {l : Launch} {ad : Nat → Nat} {dA : Nat → ClassId} {D : va_G} (hi : Inj SHM ad) {N : Nat} {a1 : Int32} {a2 : Int32} {a3 : Int32}  {μ μ' : Mm} {r : Int32} (hf : f_M_wall N a1 a2 a3 μ = some (r, μ')) : Ct CLS l SHM ad dA D y_M_wall c_M_wall 4 (some .int) 2 [.ref (ad 0), .int a1, .int a2, .int a3] μ (some (.int r)) μ' := by
  unfold f_M_wall at hf
  refine ct_of (by decide) hi (Nat.le_of_ble_eq_true rfl) ?_
  intro p e s m args below meth c C
  refine g_aload_n C d_M_wall_0 rfl rfl ?_
  refine g_iload_n C d_M_wall_1 rfl rfl ?_
  refine g_cvI C k_M rfl mv_M_isPost ml_M_151 d_M_wall_2 hf (fun r μ1 h => t_M_isPost C.2.2.2.2.2.2.2.2.1 h) rfl rfl (by decide) (Nat.le_of_ble_eq_true rfl) (fun r2 μ1 hf => ?_)
  refine g_if_eq (tgt := 45) C d_M_wall_5 (by decide) hf (fun c3 hf => ?_) (fun c3 hf => ?_)
  · refine g_iconst (v := -1) C d_M_wall_45 (by decide) ?_
    exact g_iret C d_M_wall_46 hf
  · refine g_aload_n C d_M_wall_8 rfl rfl ?_
    refine g_iload_n C d_M_wall_9 rfl rfl ?_
    refine g_cvI C k_M rfl mv_M_isPost ml_M_151 d_M_wall_10 hf (fun r μ1 h => t_M_isPost C.2.2.2.2.2.2.2.2.1 h) rfl rfl (by decide) (Nat.le_of_ble_eq_true rfl) (fun r5 μ4 hf => ?_)
    refine g_if_eq (tgt := 45) C d_M_wall_13 (by decide) hf (fun c6 hf => ?_) (fun c6 hf => ?_)
    · refine g_iconst (v := -1) C d_M_wall_45 (by decide) ?_
      exact g_iret C d_M_wall_46 hf
    · refine g_iload_n C d_M_wall_16 rfl rfl ?_
      refine g_iload_n C d_M_wall_17 rfl rfl ?_
      refine g_icmp_eq (tgt := 45) C d_M_wall_18 (by decide) hf (fun c7 hf => ?_) (fun c7 hf => ?_)
      · refine g_iconst (v := -1) C d_M_wall_45 (by decide) ?_
        exact g_iret C d_M_wall_46 hf
      · refine g_iload_n C d_M_wall_21 rfl rfl ?_
        refine g_iconst (v := 1) C d_M_wall_22 (by decide) ?_
        refine g_bipush (v := 30) C d_M_wall_23 (by decide) ?_
        refine g_csI C mv_M_in ml_M_117 d_M_wall_25 hf (fun r μ1 h => t_M_in C.2.2.2.2.2.2.2.2.1 h) rfl rfl (by decide) (Nat.le_of_ble_eq_true rfl) (fun r9 μ8 hf => ?_)
        refine g_if_eq (tgt := 45) C d_M_wall_28 (by decide) hf (fun c10 hf => ?_) (fun c10 hf => ?_)
        · refine g_iconst (v := -1) C d_M_wall_45 (by decide) ?_
          exact g_iret C d_M_wall_46 hf
        · refine g_aload_n C d_M_wall_31 rfl rfl ?_
          refine g_getR (b := 5) (k := 10) C k_M (by decide) fl_M_23 rfl rfl d_M_wall_32 ?_
          refine g_bipush (v := 16) C d_M_wall_35 (by decide) ?_
          refine g_iload_n C d_M_wall_37 rfl rfl ?_
          refine g_imul C d_M_wall_38 ?_
          refine g_iload_n C d_M_wall_39 rfl rfl ?_
          refine g_iadd C d_M_wall_40 ?_
          refine g_iald C rfl d_M_wall_41 hf (fun hf => ?_)
          refine g_if_le (tgt := 47) C d_M_wall_42 (by decide) hf (fun c12 hf => ?_) (fun c12 hf => ?_)
          · refine g_aload_n C d_M_wall_47 rfl rfl ?_
            refine g_iconst (v := 0) C d_M_wall_48 (by decide) ?_
            refine g_cvI C k_M rfl mv_M_walls ml_M_154 d_M_wall_49 hf (fun r μ1 h => t_M_walls C.2.2.2.2.2.2.2.2.1 h) rfl rfl (by decide) (Nat.le_of_ble_eq_true rfl) (fun r14 μ13 hf => ?_)
            refine g_bipush (v := 40) C d_M_wall_52 (by decide) ?_
            refine g_icmp_ne (tgt := 60) C d_M_wall_54 (by decide) hf (fun c15 hf => ?_) (fun c15 hf => ?_)
            · refine g_bipush (v := -2) C d_M_wall_57 (by decide) ?_
              exact g_iret C d_M_wall_59 hf
            · refine g_aload_n C d_M_wall_60 rfl rfl ?_
              refine g_getI (k := 8) C k_M (by decide) fl_M_107 rfl rfl d_M_wall_61 ?_
              refine g_iconst (v := 2) C d_M_wall_64 (by decide) ?_
              refine g_icmp_eq (tgt := 74) C d_M_wall_65 (by decide) hf (fun c16 hf => ?_) (fun c16 hf => ?_)
              · refine g_aload_n C d_M_wall_74 rfl rfl ?_
                refine g_iload_n C d_M_wall_75 rfl rfl ?_
                refine g_iload_n C d_M_wall_76 rfl rfl ?_
                refine g_iload_n C d_M_wall_77 rfl rfl ?_
                refine g_cvV C k_M rfl mv_M_join ml_M_147 d_M_wall_78 hf (fun μ1 h => t_M_join C.2.2.2.2.2.2.2.2.1 h) rfl rfl (by decide) (Nat.le_of_ble_eq_true rfl) (fun μ17 hf => ?_)
                refine g_aload_n C d_M_wall_81 rfl rfl ?_
                refine g_iconst (v := 0) C d_M_wall_82 (by decide) ?_
                refine g_cvI C k_M rfl mv_M_walls ml_M_154 d_M_wall_83 hf (fun r μ1 h => t_M_walls C.2.2.2.2.2.2.2.2.1 h) rfl rfl (by decide) (Nat.le_of_ble_eq_true rfl) (fun r19 μ18 hf => ?_)
                exact g_iret C d_M_wall_86 hf
              · refine g_aload_n C d_M_wall_68 rfl rfl ?_
                refine g_iconst (v := 3) C d_M_wall_69 (by decide) ?_
                refine g_cvI C k_M rfl mv_M_meets ml_M_135 d_M_wall_70 hf (fun r μ1 h => t_M_meets C.2.2.2.2.2.2.2.2.1 h) rfl rfl (by decide) (Nat.le_of_ble_eq_true rfl) (fun r21 μ20 hf => ?_)
                exact g_iret C d_M_wall_73 hf
          · refine g_iconst (v := -1) C d_M_wall_45 (by decide) ?_
            exact g_iret C d_M_wall_46 hf
set_option maxHeartbeats 4000000 in
theorem t_M_breaks_B57 {ad : Nat → Nat} {dA : Nat → ClassId} {D : va_G} {p : Program} {l : Launch} {e : Env} {s : State} {m : MethodId} {args : Array Value} {below : List Frame} {meth : Method} {c : Code} {r : Int32} {μ' : Mm} (C : Cx CLS SHM ad dA D p s m args meth c c_M_breaks 5 R_M (some .int)) (N : Nat)   : ∀ (v1 : Int32) (v2 : Int32) (v3 : Int32) (s0 : Int32) (μ : Mm) (lv : Nat → Option Value), lv 0 = some (.ref (ad 0)) → lv 1 = some (.int v1) → lv 2 = some (.int v2) → lv 3 = some (.int v3) → f_M_breaks_B57 N v1 v2 v3 s0 μ = some (r, μ') → Go CLS SHM ad dA D p l e (rmD 2) s m args below meth c 5 (some (.int r)) μ' 57 lv [.int s0] μ := by
  intro v1 v2 v3 s0 μ lv hl0 hl1 hl2 hl3 hf
  unfold f_M_breaks_B57 at hf
  refine g_istore C d_M_breaks_57 (by decide) ?_
  refine g_aload_n C d_M_breaks_59 rfl (upG hl0 rfl) ?_
  refine g_getR (b := 6) (k := 11) C k_M (by decide) fl_M_26 rfl rfl d_M_breaks_60 ?_
  refine g_bipush (v := 16) C d_M_breaks_63 (by decide) ?_
  refine g_iload_n C d_M_breaks_65 rfl (upG hl1 rfl) ?_
  refine g_imul C d_M_breaks_66 ?_
  refine g_iload_n C d_M_breaks_67 rfl (upG hl2 rfl) ?_
  refine g_iadd C d_M_breaks_68 ?_
  refine g_iload_n C d_M_breaks_69 rfl (upG hl3 rfl) ?_
  refine g_zast C rfl d_M_breaks_70 hf (fun hf => ?_)
  refine g_aload_n C d_M_breaks_71 rfl (upG hl0 rfl) ?_
  refine g_getR (b := 6) (k := 11) C k_M (by decide) fl_M_26 rfl rfl d_M_breaks_72 ?_
  refine g_bipush (v := 16) C d_M_breaks_75 (by decide) ?_
  refine g_iload_n C d_M_breaks_77 rfl (upG hl2 rfl) ?_
  refine g_imul C d_M_breaks_78 ?_
  refine g_iload_n C d_M_breaks_79 rfl (upG hl1 rfl) ?_
  refine g_iadd C d_M_breaks_80 ?_
  refine g_iload_n C d_M_breaks_81 rfl (upG hl3 rfl) ?_
  refine g_zast C rfl d_M_breaks_82 hf (fun hf => ?_)
  refine g_iload C d_M_breaks_83 upS ?_
  exact g_iret C d_M_breaks_85 hf
set_option maxHeartbeats 4000000 in
theorem t_M_breaks {l : Launch} {ad : Nat → Nat} {dA : Nat → ClassId} {D : va_G} (hi : Inj SHM ad) {N : Nat} {a1 : Int32} {a2 : Int32} {a3 : Int32}  {μ μ' : Mm} {r : Int32} (hf : f_M_breaks N a1 a2 a3 μ = some (r, μ')) : Ct CLS l SHM ad dA D y_M_breaks c_M_breaks 5 (some .int) 2 [.ref (ad 0), .int a1, .int a2, .int a3] μ (some (.int r)) μ' := by
  unfold f_M_breaks at hf
  refine ct_of (by decide) hi (Nat.le_of_ble_eq_true rfl) ?_
  intro p e s m args below meth c C
  refine g_aload_n C d_M_breaks_0 rfl rfl ?_
  refine g_iload_n C d_M_breaks_1 rfl rfl ?_
  refine g_cvI C k_M rfl mv_M_isPost ml_M_151 d_M_breaks_2 hf (fun r μ1 h => t_M_isPost C.2.2.2.2.2.2.2.2.1 h) rfl rfl (by decide) (Nat.le_of_ble_eq_true rfl) (fun r2 μ1 hf => ?_)
  refine g_if_eq (tgt := 16) C d_M_breaks_5 (by decide) hf (fun c3 hf => ?_) (fun c3 hf => ?_)
  · refine g_iconst (v := -1) C d_M_breaks_16 (by decide) ?_
    exact g_iret C d_M_breaks_17 hf
  · refine g_aload_n C d_M_breaks_8 rfl rfl ?_
    refine g_iload_n C d_M_breaks_9 rfl rfl ?_
    refine g_cvI C k_M rfl mv_M_isPost ml_M_151 d_M_breaks_10 hf (fun r μ1 h => t_M_isPost C.2.2.2.2.2.2.2.2.1 h) rfl rfl (by decide) (Nat.le_of_ble_eq_true rfl) (fun r5 μ4 hf => ?_)
    refine g_if_ne (tgt := 18) C d_M_breaks_13 (by decide) hf (fun c6 hf => ?_) (fun c6 hf => ?_)
    · refine g_iconst (v := -1) C d_M_breaks_16 (by decide) ?_
      exact g_iret C d_M_breaks_17 hf
    · refine g_aload_n C d_M_breaks_18 rfl rfl ?_
      refine g_getR (b := 5) (k := 10) C k_M (by decide) fl_M_23 rfl rfl d_M_breaks_19 ?_
      refine g_bipush (v := 16) C d_M_breaks_22 (by decide) ?_
      refine g_iload_n C d_M_breaks_24 rfl rfl ?_
      refine g_imul C d_M_breaks_25 ?_
      refine g_iload_n C d_M_breaks_26 rfl rfl ?_
      refine g_iadd C d_M_breaks_27 ?_
      refine g_iald C rfl d_M_breaks_28 hf (fun hf => ?_)
      refine g_if_ne (tgt := 38) C d_M_breaks_29 (by decide) hf (fun c8 hf => ?_) (fun c8 hf => ?_)
      · refine g_aload_n C d_M_breaks_32 rfl rfl ?_
        refine g_iconst (v := 1) C d_M_breaks_33 (by decide) ?_
        refine g_cvI C k_M rfl mv_M_meets ml_M_135 d_M_breaks_34 hf (fun r μ1 h => t_M_meets C.2.2.2.2.2.2.2.2.1 h) rfl rfl (by decide) (Nat.le_of_ble_eq_true rfl) (fun r10 μ9 hf => ?_)
        exact g_iret C d_M_breaks_37 hf
      · refine g_aload_n C d_M_breaks_38 rfl rfl ?_
        refine g_getR (b := 6) (k := 11) C k_M (by decide) fl_M_26 rfl rfl d_M_breaks_39 ?_
        refine g_bipush (v := 16) C d_M_breaks_42 (by decide) ?_
        refine g_iload_n C d_M_breaks_44 rfl rfl ?_
        refine g_imul C d_M_breaks_45 ?_
        refine g_iload_n C d_M_breaks_46 rfl rfl ?_
        refine g_iadd C d_M_breaks_47 ?_
        refine g_zald C rfl d_M_breaks_48 hf (fun hf => ?_)
        refine g_if_eq (tgt := 56) C d_M_breaks_49 (by decide) hf (fun c12 hf => ?_) (fun c12 hf => ?_)
        · refine g_iconst (v := 0) C d_M_breaks_56 (by decide) ?_
          exact t_M_breaks_B57 C N _ _ _ _ _ _ rfl rfl rfl rfl hf
        · refine g_iconst (v := 1) C d_M_breaks_52 (by decide) ?_
          refine g_goto (tgt := 57) C d_M_breaks_53 (by decide) ?_
          exact t_M_breaks_B57 C N _ _ _ _ _ _ rfl rfl rfl rfl hf
set_option maxHeartbeats 4000000 in
theorem t_M_layFars_B193 {ad : Nat → Nat} {dA : Nat → ClassId} {D : va_G} {p : Program} {l : Launch} {e : Env} {s : State} {m : MethodId} {args : Array Value} {below : List Frame} {meth : Method} {c : Code} {μ' : Mm} (C : Cx CLS SHM ad dA D p s m args meth c c_M_layFars 5 R_M (none)) (N : Nat)   (k85 : Int32 → Mm → Option Mm) (hk85 : ∀ (v1 : Int32) (μ : Mm) (lv : Nat → Option Value), lv 0 = some (.ref (ad 0)) → lv 1 = some (.int v1) → k85 v1 μ = some μ' → Go CLS SHM ad dA D p l e (rmD 0) s m args below meth c 5 none μ' 85 lv [] μ) : ∀ (v1 : Int32) (μ : Mm) (lv : Nat → Option Value), lv 0 = some (.ref (ad 0)) → lv 1 = some (.int v1) → f_M_layFars_B193 N k85 v1 μ = some μ' → Go CLS SHM ad dA D p l e (rmD 0) s m args below meth c 5 none μ' 193 lv [] μ := by
  intro v1 μ lv hl0 hl1 hf
  unfold f_M_layFars_B193 at hf
  refine g_iinc (v := 1) C d_M_layFars_193 hl1 (by decide) (by decide) ?_
  refine g_goto (tgt := 85) C d_M_layFars_196 (by decide) ?_
  exact hk85 _ _ _ ((upG hl0 rfl)) upS hf
set_option maxHeartbeats 4000000 in
theorem t_M_layFars_B187 {ad : Nat → Nat} {dA : Nat → ClassId} {D : va_G} {p : Program} {l : Launch} {e : Env} {s : State} {m : MethodId} {args : Array Value} {below : List Frame} {meth : Method} {c : Code} {μ' : Mm} (C : Cx CLS SHM ad dA D p s m args meth c c_M_layFars 5 R_M (none)) (N : Nat)   (k85 : Int32 → Mm → Option Mm) (hk85 : ∀ (v1 : Int32) (μ : Mm) (lv : Nat → Option Value), lv 0 = some (.ref (ad 0)) → lv 1 = some (.int v1) → k85 v1 μ = some μ' → Go CLS SHM ad dA D p l e (rmD 0) s m args below meth c 5 none μ' 85 lv [] μ) (k95 : Int32 → Int32 → Mm → Option Mm) (hk95 : ∀ (v1 : Int32) (v2 : Int32) (μ : Mm) (lv : Nat → Option Value), lv 0 = some (.ref (ad 0)) → lv 1 = some (.int v1) → lv 2 = some (.int v2) → k95 v1 v2 μ = some μ' → Go CLS SHM ad dA D p l e (rmD 0) s m args below meth c 5 none μ' 95 lv [] μ) : ∀ (v1 : Int32) (v2 : Int32) (μ : Mm) (lv : Nat → Option Value), lv 0 = some (.ref (ad 0)) → lv 1 = some (.int v1) → lv 2 = some (.int v2) → f_M_layFars_B187 N k85 k95 v1 v2 μ = some μ' → Go CLS SHM ad dA D p l e (rmD 0) s m args below meth c 5 none μ' 187 lv [] μ := by
  intro v1 v2 μ lv hl0 hl1 hl2 hf
  unfold f_M_layFars_B187 at hf
  refine g_iinc (v := 1) C d_M_layFars_187 hl2 (by decide) (by decide) ?_
  refine g_goto (tgt := 95) C d_M_layFars_190 (by decide) ?_
  exact hk95 _ _ _ _ ((upG hl0 rfl)) ((upG hl1 rfl)) upS hf
set_option maxHeartbeats 4000000 in
theorem t_M_layFars_B180 {ad : Nat → Nat} {dA : Nat → ClassId} {D : va_G} {p : Program} {l : Launch} {e : Env} {s : State} {m : MethodId} {args : Array Value} {below : List Frame} {meth : Method} {c : Code} {μ' : Mm} (C : Cx CLS SHM ad dA D p s m args meth c c_M_layFars 5 R_M (none)) (N : Nat)   (k85 : Int32 → Mm → Option Mm) (hk85 : ∀ (v1 : Int32) (μ : Mm) (lv : Nat → Option Value), lv 0 = some (.ref (ad 0)) → lv 1 = some (.int v1) → k85 v1 μ = some μ' → Go CLS SHM ad dA D p l e (rmD 0) s m args below meth c 5 none μ' 85 lv [] μ) (k95 : Int32 → Int32 → Mm → Option Mm) (hk95 : ∀ (v1 : Int32) (v2 : Int32) (μ : Mm) (lv : Nat → Option Value), lv 0 = some (.ref (ad 0)) → lv 1 = some (.int v1) → lv 2 = some (.int v2) → k95 v1 v2 μ = some μ' → Go CLS SHM ad dA D p l e (rmD 0) s m args below meth c 5 none μ' 95 lv [] μ) (k105 : Int32 → Int32 → Int32 → Mm → Option Mm) (hk105 : ∀ (v1 : Int32) (v2 : Int32) (v3 : Int32) (μ : Mm) (lv : Nat → Option Value), lv 0 = some (.ref (ad 0)) → lv 1 = some (.int v1) → lv 2 = some (.int v2) → lv 3 = some (.int v3) → k105 v1 v2 v3 μ = some μ' → Go CLS SHM ad dA D p l e (rmD 0) s m args below meth c 5 none μ' 105 lv [] μ) : ∀ (v1 : Int32) (v2 : Int32) (v3 : Int32) (s1 : Int32) (s2 : Int32) (μ : Mm) (lv : Nat → Option Value), lv 0 = some (.ref (ad 0)) → lv 1 = some (.int v1) → lv 2 = some (.int v2) → lv 3 = some (.int v3) → f_M_layFars_B180 N k85 k95 k105 v1 v2 v3 s1 s2 μ = some μ' → Go CLS SHM ad dA D p l e (rmD 0) s m args below meth c 5 none μ' 180 lv [.int s2, .int s1, .ref (ad 9)] μ := by
  intro v1 v2 v3 s1 s2 μ lv hl0 hl1 hl2 hl3 hf
  unfold f_M_layFars_B180 at hf
  refine g_iast C rfl d_M_layFars_180 hf (fun hf => ?_)
  refine g_iinc (v := 1) C d_M_layFars_181 hl3 (by decide) (by decide) ?_
  refine g_goto (tgt := 105) C d_M_layFars_184 (by decide) ?_
  exact hk105 _ _ _ _ _ ((upG hl0 rfl)) ((upG hl1 rfl)) ((upG hl2 rfl)) upS hf
set_option maxHeartbeats 4000000 in
theorem t_M_layFars_L105 {ad : Nat → Nat} {dA : Nat → ClassId} {D : va_G} {p : Program} {l : Launch} {e : Env} {s : State} {m : MethodId} {args : Array Value} {below : List Frame} {meth : Method} {c : Code} {μ' : Mm} (C : Cx CLS SHM ad dA D p s m args meth c c_M_layFars 5 R_M (none)) (N : Nat)   (k85 : Int32 → Mm → Option Mm) (hk85 : ∀ (v1 : Int32) (μ : Mm) (lv : Nat → Option Value), lv 0 = some (.ref (ad 0)) → lv 1 = some (.int v1) → k85 v1 μ = some μ' → Go CLS SHM ad dA D p l e (rmD 0) s m args below meth c 5 none μ' 85 lv [] μ) (k95 : Int32 → Int32 → Mm → Option Mm) (hk95 : ∀ (v1 : Int32) (v2 : Int32) (μ : Mm) (lv : Nat → Option Value), lv 0 = some (.ref (ad 0)) → lv 1 = some (.int v1) → lv 2 = some (.int v2) → k95 v1 v2 μ = some μ' → Go CLS SHM ad dA D p l e (rmD 0) s m args below meth c 5 none μ' 95 lv [] μ) : ∀ (n : Nat) (v1 : Int32) (v2 : Int32) (v3 : Int32) (μ : Mm) (lv : Nat → Option Value), lv 0 = some (.ref (ad 0)) → lv 1 = some (.int v1) → lv 2 = some (.int v2) → lv 3 = some (.int v3) → f_M_layFars_L105 N k85 k95 n v1 v2 v3 μ = some μ' → Go CLS SHM ad dA D p l e (rmD 0) s m args below meth c 5 none μ' 105 lv [] μ := by
  intro n
  induction n with
  | zero => intro v1 v2 v3 μ lv hl0 hl1 hl2 hl3 hf; cases (show none = some _ from hf)
  | succ n ih =>
    intro v1 v2 v3 μ lv hl0 hl1 hl2 hl3 hf
    unfold f_M_layFars_L105 at hf
    refine g_iload_n C d_M_layFars_105 rfl hl3 ?_
    refine g_aload_n C d_M_layFars_106 rfl hl0 ?_
    refine g_getI (k := 9) C k_M (by decide) fl_M_111 rfl rfl d_M_layFars_107 ?_
    refine g_icmp_ge (tgt := 187) C d_M_layFars_110 (by decide) hf (fun c12 hf => ?_) (fun c12 hf => ?_)
    · exact t_M_layFars_B187 C N _ hk85 _ hk95 _ _ _ _ hl0 hl1 hl2 hf
    · refine g_aload_n C d_M_layFars_113 rfl hl0 ?_
      refine g_getR (b := 9) (k := 14) C k_M (by decide) fl_M_36 rfl rfl d_M_layFars_114 ?_
      refine g_bipush (v := 16) C d_M_layFars_117 (by decide) ?_
      refine g_iload_n C d_M_layFars_119 rfl hl2 ?_
      refine g_imul C d_M_layFars_120 ?_
      refine g_iload_n C d_M_layFars_121 rfl hl1 ?_
      refine g_iadd C d_M_layFars_122 ?_
      refine g_iald C rfl d_M_layFars_123 hf (fun hf => ?_)
      refine g_aload_n C d_M_layFars_124 rfl hl0 ?_
      refine g_getR (b := 9) (k := 14) C k_M (by decide) fl_M_36 rfl rfl d_M_layFars_125 ?_
      refine g_bipush (v := 16) C d_M_layFars_128 (by decide) ?_
      refine g_iload_n C d_M_layFars_130 rfl hl1 ?_
      refine g_imul C d_M_layFars_131 ?_
      refine g_iload_n C d_M_layFars_132 rfl hl3 ?_
      refine g_iadd C d_M_layFars_133 ?_
      refine g_iald C rfl d_M_layFars_134 hf (fun hf => ?_)
      refine g_iadd C d_M_layFars_135 ?_
      refine g_istore C d_M_layFars_136 (by decide) ?_
      refine g_aload_n C d_M_layFars_138 rfl (upG hl0 rfl) ?_
      refine g_getR (b := 9) (k := 14) C k_M (by decide) fl_M_36 rfl rfl d_M_layFars_139 ?_
      refine g_bipush (v := 16) C d_M_layFars_142 (by decide) ?_
      refine g_iload_n C d_M_layFars_144 rfl (upG hl2 rfl) ?_
      refine g_imul C d_M_layFars_145 ?_
      refine g_iload_n C d_M_layFars_146 rfl (upG hl3 rfl) ?_
      refine g_iadd C d_M_layFars_147 ?_
      refine g_iload C d_M_layFars_148 upS ?_
      refine g_aload_n C d_M_layFars_150 rfl (upG hl0 rfl) ?_
      refine g_getR (b := 9) (k := 14) C k_M (by decide) fl_M_36 rfl rfl d_M_layFars_151 ?_
      refine g_bipush (v := 16) C d_M_layFars_154 (by decide) ?_
      refine g_iload_n C d_M_layFars_156 rfl (upG hl2 rfl) ?_
      refine g_imul C d_M_layFars_157 ?_
      refine g_iload_n C d_M_layFars_158 rfl (upG hl3 rfl) ?_
      refine g_iadd C d_M_layFars_159 ?_
      refine g_iald C rfl d_M_layFars_160 hf (fun hf => ?_)
      refine g_icmp_ge (tgt := 169) C d_M_layFars_161 (by decide) hf (fun c17 hf => ?_) (fun c17 hf => ?_)
      · refine g_aload_n C d_M_layFars_169 rfl (upG hl0 rfl) ?_
        refine g_getR (b := 9) (k := 14) C k_M (by decide) fl_M_36 rfl rfl d_M_layFars_170 ?_
        refine g_bipush (v := 16) C d_M_layFars_173 (by decide) ?_
        refine g_iload_n C d_M_layFars_175 rfl (upG hl2 rfl) ?_
        refine g_imul C d_M_layFars_176 ?_
        refine g_iload_n C d_M_layFars_177 rfl (upG hl3 rfl) ?_
        refine g_iadd C d_M_layFars_178 ?_
        refine g_iald C rfl d_M_layFars_179 hf (fun hf => ?_)
        exact t_M_layFars_B180 C N _ hk85 _ hk95 _ ih _ _ _ _ _ _ _ ((upG hl0 rfl)) ((upG hl1 rfl)) ((upG hl2 rfl)) ((upG hl3 rfl)) hf
      · refine g_iload C d_M_layFars_164 upS ?_
        refine g_goto (tgt := 180) C d_M_layFars_166 (by decide) ?_
        exact t_M_layFars_B180 C N _ hk85 _ hk95 _ ih _ _ _ _ _ _ _ ((upG hl0 rfl)) ((upG hl1 rfl)) ((upG hl2 rfl)) ((upG hl3 rfl)) hf
set_option maxHeartbeats 4000000 in
theorem t_M_layFars_L95 {ad : Nat → Nat} {dA : Nat → ClassId} {D : va_G} {p : Program} {l : Launch} {e : Env} {s : State} {m : MethodId} {args : Array Value} {below : List Frame} {meth : Method} {c : Code} {μ' : Mm} (C : Cx CLS SHM ad dA D p s m args meth c c_M_layFars 5 R_M (none)) (N : Nat)   (k85 : Int32 → Mm → Option Mm) (hk85 : ∀ (v1 : Int32) (μ : Mm) (lv : Nat → Option Value), lv 0 = some (.ref (ad 0)) → lv 1 = some (.int v1) → k85 v1 μ = some μ' → Go CLS SHM ad dA D p l e (rmD 0) s m args below meth c 5 none μ' 85 lv [] μ) : ∀ (n : Nat) (v1 : Int32) (v2 : Int32) (μ : Mm) (lv : Nat → Option Value), lv 0 = some (.ref (ad 0)) → lv 1 = some (.int v1) → lv 2 = some (.int v2) → f_M_layFars_L95 N k85 n v1 v2 μ = some μ' → Go CLS SHM ad dA D p l e (rmD 0) s m args below meth c 5 none μ' 95 lv [] μ := by
  intro n
  induction n with
  | zero => intro v1 v2 μ lv hl0 hl1 hl2 hf; cases (show none = some _ from hf)
  | succ n ih =>
    intro v1 v2 μ lv hl0 hl1 hl2 hf
    unfold f_M_layFars_L95 at hf
    refine g_iload_n C d_M_layFars_95 rfl hl2 ?_
    refine g_aload_n C d_M_layFars_96 rfl hl0 ?_
    refine g_getI (k := 9) C k_M (by decide) fl_M_111 rfl rfl d_M_layFars_97 ?_
    refine g_icmp_ge (tgt := 193) C d_M_layFars_100 (by decide) hf (fun c11 hf => ?_) (fun c11 hf => ?_)
    · exact t_M_layFars_B193 C N _ hk85 _ _ _ hl0 hl1 hf
    · refine g_iconst (v := 0) C d_M_layFars_103 (by decide) ?_
      refine g_istore_n C d_M_layFars_104 rfl (by decide) ?_
      exact t_M_layFars_L105 C N _ hk85 _ ih N _ _ _ _ _ ((upG hl0 rfl)) ((upG hl1 rfl)) ((upG hl2 rfl)) upS hf
set_option maxHeartbeats 4000000 in
theorem t_M_layFars_L85 {ad : Nat → Nat} {dA : Nat → ClassId} {D : va_G} {p : Program} {l : Launch} {e : Env} {s : State} {m : MethodId} {args : Array Value} {below : List Frame} {meth : Method} {c : Code} {μ' : Mm} (C : Cx CLS SHM ad dA D p s m args meth c c_M_layFars 5 R_M (none)) (N : Nat)   : ∀ (n : Nat) (v1 : Int32) (μ : Mm) (lv : Nat → Option Value), lv 0 = some (.ref (ad 0)) → lv 1 = some (.int v1) → f_M_layFars_L85 N n v1 μ = some μ' → Go CLS SHM ad dA D p l e (rmD 0) s m args below meth c 5 none μ' 85 lv [] μ := by
  intro n
  induction n with
  | zero => intro v1 μ lv hl0 hl1 hf; cases (show none = some _ from hf)
  | succ n ih =>
    intro v1 μ lv hl0 hl1 hf
    unfold f_M_layFars_L85 at hf
    refine g_iload_n C d_M_layFars_85 rfl hl1 ?_
    refine g_aload_n C d_M_layFars_86 rfl hl0 ?_
    refine g_getI (k := 9) C k_M (by decide) fl_M_111 rfl rfl d_M_layFars_87 ?_
    refine g_icmp_ge (tgt := 199) C d_M_layFars_90 (by decide) hf (fun c10 hf => ?_) (fun c10 hf => ?_)
    · exact g_vret C d_M_layFars_199 hf
    · refine g_iconst (v := 0) C d_M_layFars_93 (by decide) ?_
      refine g_istore_n C d_M_layFars_94 rfl (by decide) ?_
      exact t_M_layFars_L95 C N _ ih N _ _ _ _ ((upG hl0 rfl)) ((upG hl1 rfl)) upS hf
set_option maxHeartbeats 4000000 in
theorem t_M_layFars_B83 {ad : Nat → Nat} {dA : Nat → ClassId} {D : va_G} {p : Program} {l : Launch} {e : Env} {s : State} {m : MethodId} {args : Array Value} {below : List Frame} {meth : Method} {c : Code} {μ' : Mm} (C : Cx CLS SHM ad dA D p s m args meth c c_M_layFars 5 R_M (none)) (N : Nat)   : ∀  (μ : Mm) (lv : Nat → Option Value), lv 0 = some (.ref (ad 0)) → f_M_layFars_B83 N μ = some μ' → Go CLS SHM ad dA D p l e (rmD 0) s m args below meth c 5 none μ' 83 lv [] μ := by
  intro μ lv hl0 hf
  unfold f_M_layFars_B83 at hf
  refine g_iconst (v := 0) C d_M_layFars_83 (by decide) ?_
  refine g_istore_n C d_M_layFars_84 rfl (by decide) ?_
  exact t_M_layFars_L85 C N N _ _ _ ((upG hl0 rfl)) upS hf
set_option maxHeartbeats 4000000 in
theorem t_M_layFars_B77 {ad : Nat → Nat} {dA : Nat → ClassId} {D : va_G} {p : Program} {l : Launch} {e : Env} {s : State} {m : MethodId} {args : Array Value} {below : List Frame} {meth : Method} {c : Code} {μ' : Mm} (C : Cx CLS SHM ad dA D p s m args meth c c_M_layFars 5 R_M (none)) (N : Nat)   (k2 : Int32 → Mm → Option Mm) (hk2 : ∀ (v1 : Int32) (μ : Mm) (lv : Nat → Option Value), lv 0 = some (.ref (ad 0)) → lv 1 = some (.int v1) → k2 v1 μ = some μ' → Go CLS SHM ad dA D p l e (rmD 0) s m args below meth c 5 none μ' 2 lv [] μ) : ∀ (v1 : Int32) (μ : Mm) (lv : Nat → Option Value), lv 0 = some (.ref (ad 0)) → lv 1 = some (.int v1) → f_M_layFars_B77 N k2 v1 μ = some μ' → Go CLS SHM ad dA D p l e (rmD 0) s m args below meth c 5 none μ' 77 lv [] μ := by
  intro v1 μ lv hl0 hl1 hf
  unfold f_M_layFars_B77 at hf
  refine g_iinc (v := 1) C d_M_layFars_77 hl1 (by decide) (by decide) ?_
  refine g_goto (tgt := 2) C d_M_layFars_80 (by decide) ?_
  exact hk2 _ _ _ ((upG hl0 rfl)) upS hf
set_option maxHeartbeats 4000000 in
theorem t_M_layFars_B70 {ad : Nat → Nat} {dA : Nat → ClassId} {D : va_G} {p : Program} {l : Launch} {e : Env} {s : State} {m : MethodId} {args : Array Value} {below : List Frame} {meth : Method} {c : Code} {μ' : Mm} (C : Cx CLS SHM ad dA D p s m args meth c c_M_layFars 5 R_M (none)) (N : Nat)   (k2 : Int32 → Mm → Option Mm) (hk2 : ∀ (v1 : Int32) (μ : Mm) (lv : Nat → Option Value), lv 0 = some (.ref (ad 0)) → lv 1 = some (.int v1) → k2 v1 μ = some μ' → Go CLS SHM ad dA D p l e (rmD 0) s m args below meth c 5 none μ' 2 lv [] μ) (k12 : Int32 → Int32 → Mm → Option Mm) (hk12 : ∀ (v1 : Int32) (v2 : Int32) (μ : Mm) (lv : Nat → Option Value), lv 0 = some (.ref (ad 0)) → lv 1 = some (.int v1) → lv 2 = some (.int v2) → k12 v1 v2 μ = some μ' → Go CLS SHM ad dA D p l e (rmD 0) s m args below meth c 5 none μ' 12 lv [] μ) : ∀ (v1 : Int32) (v2 : Int32) (s1 : Int32) (s2 : Int32) (μ : Mm) (lv : Nat → Option Value), lv 0 = some (.ref (ad 0)) → lv 1 = some (.int v1) → lv 2 = some (.int v2) → f_M_layFars_B70 N k2 k12 v1 v2 s1 s2 μ = some μ' → Go CLS SHM ad dA D p l e (rmD 0) s m args below meth c 5 none μ' 70 lv [.int s2, .int s1, .ref (ad 9)] μ := by
  intro v1 v2 s1 s2 μ lv hl0 hl1 hl2 hf
  unfold f_M_layFars_B70 at hf
  refine g_iast C rfl d_M_layFars_70 hf (fun hf => ?_)
  refine g_iinc (v := 1) C d_M_layFars_71 hl2 (by decide) (by decide) ?_
  refine g_goto (tgt := 12) C d_M_layFars_74 (by decide) ?_
  exact hk12 _ _ _ _ ((upG hl0 rfl)) ((upG hl1 rfl)) upS hf
set_option maxHeartbeats 4000000 in
theorem t_M_layFars_B68 {ad : Nat → Nat} {dA : Nat → ClassId} {D : va_G} {p : Program} {l : Launch} {e : Env} {s : State} {m : MethodId} {args : Array Value} {below : List Frame} {meth : Method} {c : Code} {μ' : Mm} (C : Cx CLS SHM ad dA D p s m args meth c c_M_layFars 5 R_M (none)) (N : Nat)   (k2 : Int32 → Mm → Option Mm) (hk2 : ∀ (v1 : Int32) (μ : Mm) (lv : Nat → Option Value), lv 0 = some (.ref (ad 0)) → lv 1 = some (.int v1) → k2 v1 μ = some μ' → Go CLS SHM ad dA D p l e (rmD 0) s m args below meth c 5 none μ' 2 lv [] μ) (k12 : Int32 → Int32 → Mm → Option Mm) (hk12 : ∀ (v1 : Int32) (v2 : Int32) (μ : Mm) (lv : Nat → Option Value), lv 0 = some (.ref (ad 0)) → lv 1 = some (.int v1) → lv 2 = some (.int v2) → k12 v1 v2 μ = some μ' → Go CLS SHM ad dA D p l e (rmD 0) s m args below meth c 5 none μ' 12 lv [] μ) : ∀ (v1 : Int32) (v2 : Int32) (s1 : Int32) (μ : Mm) (lv : Nat → Option Value), lv 0 = some (.ref (ad 0)) → lv 1 = some (.int v1) → lv 2 = some (.int v2) → f_M_layFars_B68 N k2 k12 v1 v2 s1 μ = some μ' → Go CLS SHM ad dA D p l e (rmD 0) s m args below meth c 5 none μ' 68 lv [.int s1, .ref (ad 9)] μ := by
  intro v1 v2 s1 μ lv hl0 hl1 hl2 hf
  unfold f_M_layFars_B68 at hf
  refine g_ldc C ck_M_158 d_M_layFars_68 ?_
  exact t_M_layFars_B70 C N _ hk2 _ hk12 _ _ _ _ _ _ hl0 hl1 hl2 hf
set_option maxHeartbeats 4000000 in
theorem t_M_layFars_L12 {ad : Nat → Nat} {dA : Nat → ClassId} {D : va_G} {p : Program} {l : Launch} {e : Env} {s : State} {m : MethodId} {args : Array Value} {below : List Frame} {meth : Method} {c : Code} {μ' : Mm} (C : Cx CLS SHM ad dA D p s m args meth c c_M_layFars 5 R_M (none)) (N : Nat)   (k2 : Int32 → Mm → Option Mm) (hk2 : ∀ (v1 : Int32) (μ : Mm) (lv : Nat → Option Value), lv 0 = some (.ref (ad 0)) → lv 1 = some (.int v1) → k2 v1 μ = some μ' → Go CLS SHM ad dA D p l e (rmD 0) s m args below meth c 5 none μ' 2 lv [] μ) : ∀ (n : Nat) (v1 : Int32) (v2 : Int32) (μ : Mm) (lv : Nat → Option Value), lv 0 = some (.ref (ad 0)) → lv 1 = some (.int v1) → lv 2 = some (.int v2) → f_M_layFars_L12 N k2 n v1 v2 μ = some μ' → Go CLS SHM ad dA D p l e (rmD 0) s m args below meth c 5 none μ' 12 lv [] μ := by
  intro n
  induction n with
  | zero => intro v1 v2 μ lv hl0 hl1 hl2 hf; cases (show none = some _ from hf)
  | succ n ih =>
    intro v1 v2 μ lv hl0 hl1 hl2 hf
    unfold f_M_layFars_L12 at hf
    refine g_iload_n C d_M_layFars_12 rfl hl2 ?_
    refine g_aload_n C d_M_layFars_13 rfl hl0 ?_
    refine g_getI (k := 9) C k_M (by decide) fl_M_111 rfl rfl d_M_layFars_14 ?_
    refine g_icmp_ge (tgt := 77) C d_M_layFars_17 (by decide) hf (fun c2 hf => ?_) (fun c2 hf => ?_)
    · exact t_M_layFars_B77 C N _ hk2 _ _ _ hl0 hl1 hf
    · refine g_bipush (v := 16) C d_M_layFars_20 (by decide) ?_
      refine g_iload_n C d_M_layFars_22 rfl hl1 ?_
      refine g_imul C d_M_layFars_23 ?_
      refine g_iload_n C d_M_layFars_24 rfl hl2 ?_
      refine g_iadd C d_M_layFars_25 ?_
      refine g_istore_n C d_M_layFars_26 rfl (by decide) ?_
      refine g_aload_n C d_M_layFars_27 rfl (upG hl0 rfl) ?_
      refine g_getR (b := 9) (k := 14) C k_M (by decide) fl_M_36 rfl rfl d_M_layFars_28 ?_
      refine g_iload_n C d_M_layFars_31 rfl upS ?_
      refine g_iload_n C d_M_layFars_32 rfl (upG hl1 rfl) ?_
      refine g_iload_n C d_M_layFars_33 rfl (upG hl2 rfl) ?_
      refine g_icmp_ne (tgt := 41) C d_M_layFars_34 (by decide) hf (fun c4 hf => ?_) (fun c4 hf => ?_)
      · refine g_iconst (v := 0) C d_M_layFars_37 (by decide) ?_
        refine g_goto (tgt := 70) C d_M_layFars_38 (by decide) ?_
        exact t_M_layFars_B70 C N _ hk2 _ ih _ _ _ _ _ _ ((upG hl0 rfl)) ((upG hl1 rfl)) ((upG hl2 rfl)) hf
      · refine g_aload_n C d_M_layFars_41 rfl (upG hl0 rfl) ?_
        refine g_getR (b := 5) (k := 10) C k_M (by decide) fl_M_23 rfl rfl d_M_layFars_42 ?_
        refine g_iload_n C d_M_layFars_45 rfl upS ?_
        refine g_iald C rfl d_M_layFars_46 hf (fun hf => ?_)
        refine g_if_le (tgt := 68) C d_M_layFars_47 (by decide) hf (fun c5 hf => ?_) (fun c5 hf => ?_)
        · exact t_M_layFars_B68 C N _ hk2 _ ih _ _ _ _ _ ((upG hl0 rfl)) ((upG hl1 rfl)) ((upG hl2 rfl)) hf
        · refine g_aload_n C d_M_layFars_50 rfl (upG hl0 rfl) ?_
          refine g_getR (b := 6) (k := 11) C k_M (by decide) fl_M_26 rfl rfl d_M_layFars_51 ?_
          refine g_iload_n C d_M_layFars_54 rfl upS ?_
          refine g_zald C rfl d_M_layFars_55 hf (fun hf => ?_)
          refine g_if_ne (tgt := 68) C d_M_layFars_56 (by decide) hf (fun c6 hf => ?_) (fun c6 hf => ?_)
          · refine g_aload_n C d_M_layFars_59 rfl (upG hl0 rfl) ?_
            refine g_getR (b := 5) (k := 10) C k_M (by decide) fl_M_23 rfl rfl d_M_layFars_60 ?_
            refine g_iload_n C d_M_layFars_63 rfl upS ?_
            refine g_iald C rfl d_M_layFars_64 hf (fun hf => ?_)
            refine g_goto (tgt := 70) C d_M_layFars_65 (by decide) ?_
            exact t_M_layFars_B70 C N _ hk2 _ ih _ _ _ _ _ _ ((upG hl0 rfl)) ((upG hl1 rfl)) ((upG hl2 rfl)) hf
          · exact t_M_layFars_B68 C N _ hk2 _ ih _ _ _ _ _ ((upG hl0 rfl)) ((upG hl1 rfl)) ((upG hl2 rfl)) hf
set_option maxHeartbeats 4000000 in
theorem t_M_layFars_L2 {ad : Nat → Nat} {dA : Nat → ClassId} {D : va_G} {p : Program} {l : Launch} {e : Env} {s : State} {m : MethodId} {args : Array Value} {below : List Frame} {meth : Method} {c : Code} {μ' : Mm} (C : Cx CLS SHM ad dA D p s m args meth c c_M_layFars 5 R_M (none)) (N : Nat)   : ∀ (n : Nat) (v1 : Int32) (μ : Mm) (lv : Nat → Option Value), lv 0 = some (.ref (ad 0)) → lv 1 = some (.int v1) → f_M_layFars_L2 N n v1 μ = some μ' → Go CLS SHM ad dA D p l e (rmD 0) s m args below meth c 5 none μ' 2 lv [] μ := by
  intro n
  induction n with
  | zero => intro v1 μ lv hl0 hl1 hf; cases (show none = some _ from hf)
  | succ n ih =>
    intro v1 μ lv hl0 hl1 hf
    unfold f_M_layFars_L2 at hf
    refine g_iload_n C d_M_layFars_2 rfl hl1 ?_
    refine g_aload_n C d_M_layFars_3 rfl hl0 ?_
    refine g_getI (k := 9) C k_M (by decide) fl_M_111 rfl rfl d_M_layFars_4 ?_
    refine g_icmp_ge (tgt := 83) C d_M_layFars_7 (by decide) hf (fun c1 hf => ?_) (fun c1 hf => ?_)
    · exact t_M_layFars_B83 C N _ _ hl0 hf
    · refine g_iconst (v := 0) C d_M_layFars_10 (by decide) ?_
      refine g_istore_n C d_M_layFars_11 rfl (by decide) ?_
      exact t_M_layFars_L12 C N _ ih N _ _ _ _ ((upG hl0 rfl)) ((upG hl1 rfl)) upS hf
set_option maxHeartbeats 4000000 in
theorem t_M_layFars {l : Launch} {ad : Nat → Nat} {dA : Nat → ClassId} {D : va_G} (hi : Inj SHM ad) {N : Nat}   {μ μ' : Mm} (hf : f_M_layFars N  μ = some μ') : Ct CLS l SHM ad dA D y_M_layFars c_M_layFars 5 (none) 0 [.ref (ad 0)] μ none μ' := by
  unfold f_M_layFars at hf
  refine ct_of (by decide) hi (Nat.le_of_ble_eq_true rfl) ?_
  intro p e s m args below meth c C
  refine g_iconst (v := 0) C d_M_layFars_0 (by decide) ?_
  refine g_istore_n C d_M_layFars_1 rfl (by decide) ?_
  exact t_M_layFars_L2 C N N _ _ _ ((upG rfl rfl)) upS hf
set_option maxHeartbeats 4000000 in
theorem t_M_far {l : Launch} {ad : Nat → Nat} {dA : Nat → ClassId} {D : va_G} (hi : Inj SHM ad) {N : Nat} {a1 : Int32} {a2 : Int32}  {μ μ' : Mm} {r : Int32} (hf : f_M_far N a1 a2 μ = some (r, μ')) : Ct CLS l SHM ad dA D y_M_far c_M_far 4 (some .int) 2 [.ref (ad 0), .int a1, .int a2] μ (some (.int r)) μ' := by
  unfold f_M_far at hf
  refine ct_of (by decide) hi (Nat.le_of_ble_eq_true rfl) ?_
  intro p e s m args below meth c C
  refine g_aload_n C d_M_far_0 rfl rfl ?_
  refine g_iload_n C d_M_far_1 rfl rfl ?_
  refine g_cvI C k_M rfl mv_M_isPost ml_M_151 d_M_far_2 hf (fun r μ1 h => t_M_isPost C.2.2.2.2.2.2.2.2.1 h) rfl rfl (by decide) (Nat.le_of_ble_eq_true rfl) (fun r2 μ1 hf => ?_)
  refine g_if_eq (tgt := 16) C d_M_far_5 (by decide) hf (fun c3 hf => ?_) (fun c3 hf => ?_)
  · refine g_iconst (v := -1) C d_M_far_16 (by decide) ?_
    exact g_iret C d_M_far_17 hf
  · refine g_aload_n C d_M_far_8 rfl rfl ?_
    refine g_iload_n C d_M_far_9 rfl rfl ?_
    refine g_cvI C k_M rfl mv_M_isPost ml_M_151 d_M_far_10 hf (fun r μ1 h => t_M_isPost C.2.2.2.2.2.2.2.2.1 h) rfl rfl (by decide) (Nat.le_of_ble_eq_true rfl) (fun r5 μ4 hf => ?_)
    refine g_if_ne (tgt := 18) C d_M_far_13 (by decide) hf (fun c6 hf => ?_) (fun c6 hf => ?_)
    · refine g_iconst (v := -1) C d_M_far_16 (by decide) ?_
      exact g_iret C d_M_far_17 hf
    · refine g_aload_n C d_M_far_18 rfl rfl ?_
      refine g_cvV C k_M rfl mv_M_layFars ml_M_159 d_M_far_19 hf (fun μ1 h => t_M_layFars C.2.2.2.2.2.2.2.2.1 h) rfl rfl (by decide) (Nat.le_of_ble_eq_true rfl) (fun μ7 hf => ?_)
      refine g_aload_n C d_M_far_22 rfl rfl ?_
      refine g_getR (b := 9) (k := 14) C k_M (by decide) fl_M_36 rfl rfl d_M_far_23 ?_
      refine g_bipush (v := 16) C d_M_far_26 (by decide) ?_
      refine g_iload_n C d_M_far_28 rfl rfl ?_
      refine g_imul C d_M_far_29 ?_
      refine g_iload_n C d_M_far_30 rfl rfl ?_
      refine g_iadd C d_M_far_31 ?_
      refine g_iald C rfl d_M_far_32 hf (fun hf => ?_)
      refine g_istore_n C d_M_far_33 rfl (by decide) ?_
      refine g_iload_n C d_M_far_34 rfl upS ?_
      refine g_ldc C ck_M_158 d_M_far_35 ?_
      refine g_icmp_lt (tgt := 45) C d_M_far_37 (by decide) hf (fun c10 hf => ?_) (fun c10 hf => ?_)
      · refine g_iload_n C d_M_far_45 rfl upS ?_
        exact g_iret C d_M_far_46 hf
      · refine g_bipush (v := -9) C d_M_far_40 (by decide) ?_
        refine g_goto (tgt := 46) C d_M_far_42 (by decide) ?_
        exact g_iret C d_M_far_46 hf
set_option maxHeartbeats 4000000 in
theorem t_M_worth {l : Launch} {ad : Nat → Nat} {dA : Nat → ClassId} {D : va_G} (hi : Inj SHM ad) {N : Nat} {a1 : Int32} {a2 : Int32}  {μ μ' : Mm} {r : Int32} (hf : f_M_worth N a1 a2 μ = some (r, μ')) : Ct CLS l SHM ad dA D y_M_worth c_M_worth 4 (some .int) 2 [.ref (ad 0), .int a1, .int a2] μ (some (.int r)) μ' := by
  unfold f_M_worth at hf
  refine ct_of (by decide) hi (Nat.le_of_ble_eq_true rfl) ?_
  intro p e s m args below meth c C
  refine g_aload_n C d_M_worth_0 rfl rfl ?_
  refine g_iload_n C d_M_worth_1 rfl rfl ?_
  refine g_cvI C k_M rfl mv_M_isPost ml_M_151 d_M_worth_2 hf (fun r μ1 h => t_M_isPost C.2.2.2.2.2.2.2.2.1 h) rfl rfl (by decide) (Nat.le_of_ble_eq_true rfl) (fun r2 μ1 hf => ?_)
  refine g_if_eq (tgt := 18) C d_M_worth_5 (by decide) hf (fun c3 hf => ?_) (fun c3 hf => ?_)
  · refine g_iconst (v := -1) C d_M_worth_18 (by decide) ?_
    exact g_iret C d_M_worth_19 hf
  · refine g_iload_n C d_M_worth_8 rfl rfl ?_
    refine g_iconst (v := 0) C d_M_worth_9 (by decide) ?_
    refine g_bipush (v := 9) C d_M_worth_10 (by decide) ?_
    refine g_csI C mv_M_in ml_M_117 d_M_worth_12 hf (fun r μ1 h => t_M_in C.2.2.2.2.2.2.2.2.1 h) rfl rfl (by decide) (Nat.le_of_ble_eq_true rfl) (fun r5 μ4 hf => ?_)
    refine g_if_ne (tgt := 20) C d_M_worth_15 (by decide) hf (fun c6 hf => ?_) (fun c6 hf => ?_)
    · refine g_iconst (v := -1) C d_M_worth_18 (by decide) ?_
      exact g_iret C d_M_worth_19 hf
    · refine g_aload_n C d_M_worth_20 rfl rfl ?_
      refine g_getR (b := 7) (k := 12) C k_M (by decide) fl_M_30 rfl rfl d_M_worth_21 ?_
      refine g_iload_n C d_M_worth_24 rfl rfl ?_
      refine g_iald C rfl d_M_worth_25 hf (fun hf => ?_)
      refine g_istore_n C d_M_worth_26 rfl (by decide) ?_
      refine g_aload_n C d_M_worth_27 rfl (upG rfl rfl) ?_
      refine g_getR (b := 7) (k := 12) C k_M (by decide) fl_M_30 rfl rfl d_M_worth_28 ?_
      refine g_iload_n C d_M_worth_31 rfl (upG rfl rfl) ?_
      refine g_iload_n C d_M_worth_32 rfl (upG rfl rfl) ?_
      refine g_iast C rfl d_M_worth_33 hf (fun hf => ?_)
      refine g_iload_n C d_M_worth_34 rfl upS ?_
      exact g_iret C d_M_worth_35 hf
set_option maxHeartbeats 4000000 in
theorem t_M_base_B24 {ad : Nat → Nat} {dA : Nat → ClassId} {D : va_G} {p : Program} {l : Launch} {e : Env} {s : State} {m : MethodId} {args : Array Value} {below : List Frame} {meth : Method} {c : Code} {r : Int32} {μ' : Mm} (C : Cx CLS SHM ad dA D p s m args meth c c_M_base 4 R_M (some .int)) (N : Nat)   : ∀ (v1 : Int32) (v2 : Int32) (s0 : Int32) (μ : Mm) (lv : Nat → Option Value), lv 0 = some (.ref (ad 0)) → lv 1 = some (.int v1) → lv 2 = some (.int v2) → f_M_base_B24 N v1 v2 s0 μ = some (r, μ') → Go CLS SHM ad dA D p l e (rmD 2) s m args below meth c 4 (some (.int r)) μ' 24 lv [.int s0] μ := by
  intro v1 v2 s0 μ lv hl0 hl1 hl2 hf
  unfold f_M_base_B24 at hf
  refine g_istore_n C d_M_base_24 rfl (by decide) ?_
  refine g_aload_n C d_M_base_25 rfl (upG hl0 rfl) ?_
  refine g_getR (b := 8) (k := 13) C k_M (by decide) fl_M_33 rfl rfl d_M_base_26 ?_
  refine g_iload_n C d_M_base_29 rfl (upG hl1 rfl) ?_
  refine g_iload_n C d_M_base_30 rfl (upG hl2 rfl) ?_
  refine g_zast C rfl d_M_base_31 hf (fun hf => ?_)
  refine g_iload_n C d_M_base_32 rfl upS ?_
  exact g_iret C d_M_base_33 hf
set_option maxHeartbeats 4000000 in
theorem t_M_base {l : Launch} {ad : Nat → Nat} {dA : Nat → ClassId} {D : va_G} (hi : Inj SHM ad) {N : Nat} {a1 : Int32} {a2 : Int32}  {μ μ' : Mm} {r : Int32} (hf : f_M_base N a1 a2 μ = some (r, μ')) : Ct CLS l SHM ad dA D y_M_base c_M_base 4 (some .int) 2 [.ref (ad 0), .int a1, .int a2] μ (some (.int r)) μ' := by
  unfold f_M_base at hf
  refine ct_of (by decide) hi (Nat.le_of_ble_eq_true rfl) ?_
  intro p e s m args below meth c C
  refine g_aload_n C d_M_base_0 rfl rfl ?_
  refine g_iload_n C d_M_base_1 rfl rfl ?_
  refine g_cvI C k_M rfl mv_M_isPost ml_M_151 d_M_base_2 hf (fun r μ1 h => t_M_isPost C.2.2.2.2.2.2.2.2.1 h) rfl rfl (by decide) (Nat.le_of_ble_eq_true rfl) (fun r2 μ1 hf => ?_)
  refine g_if_ne (tgt := 10) C d_M_base_5 (by decide) hf (fun c3 hf => ?_) (fun c3 hf => ?_)
  · refine g_iconst (v := -1) C d_M_base_8 (by decide) ?_
    exact g_iret C d_M_base_9 hf
  · refine g_aload_n C d_M_base_10 rfl rfl ?_
    refine g_getR (b := 8) (k := 13) C k_M (by decide) fl_M_33 rfl rfl d_M_base_11 ?_
    refine g_iload_n C d_M_base_14 rfl rfl ?_
    refine g_zald C rfl d_M_base_15 hf (fun hf => ?_)
    refine g_if_eq (tgt := 23) C d_M_base_16 (by decide) hf (fun c4 hf => ?_) (fun c4 hf => ?_)
    · refine g_iconst (v := 0) C d_M_base_23 (by decide) ?_
      exact t_M_base_B24 C N _ _ _ _ _ rfl rfl rfl hf
    · refine g_iconst (v := 1) C d_M_base_19 (by decide) ?_
      refine g_goto (tgt := 24) C d_M_base_20 (by decide) ?_
      exact t_M_base_B24 C N _ _ _ _ _ rfl rfl rfl hf
