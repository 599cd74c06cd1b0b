set_option maxHeartbeats 4000000 in
theorem t_W_mean {l : Launch} {ad : Nat → Nat} {dA : Nat → ClassId} {D : va_G} (hi : Inj SHX ad) {N : Nat} {a1 : Int32}  {μ μ' : Mm} {r : Int32} (hf : f_W_mean N a1 μ = some (r, μ')) : Ct CLS l SHX ad dA D y_W_mean c_W_mean 3 (some .int) 2 [.ref (ad 0), .int a1] μ (some (.int r)) μ' := by
  unfold f_W_mean at hf
  refine ct_of (by decide) hi (Nat.le_of_ble_eq_true rfl) ?_
  intro p e s m args below meth c C
  refine g_iload_n C d_W_mean_0 rfl rfl ?_
  refine g_csI C mv_W_isRow ml_W_71 d_W_mean_1 hf (fun r μ1 h => t_W_isRow C.2.2.2.2.2.2.2.2.1 h) rfl rfl (by decide) (Nat.le_of_ble_eq_true rfl) (fun r2 μ1 hf => ?_)
  refine g_if_ne (tgt := 9) C d_W_mean_4 (by decide) hf (fun c3 hf => ?_) (fun c3 hf => ?_)
  · refine g_iconst (v := -1) C d_W_mean_7 (by decide) ?_
    exact g_iret C d_W_mean_8 hf
  · refine g_aload_n C d_W_mean_9 rfl rfl ?_
    refine g_getR (b := 3) (k := 1) C k_W (by decide) fl_W_19 rfl rfl d_W_mean_10 ?_
    refine g_iload_n C d_W_mean_13 rfl rfl ?_
    refine g_cvI C k_Sf rfl mv_Sf_lacks ml_W_83 d_W_mean_14 hf (fun r μ1 h => t_Sf_lacks C.2.2.2.2.2.2.2.2.1 h) rfl rfl (by decide) (Nat.le_of_ble_eq_true rfl) (fun r5 μ4 hf => ?_)
    refine g_if_eq (tgt := 29) C d_W_mean_17 (by decide) hf (fun c6 hf => ?_) (fun c6 hf => ?_)
    · refine g_aload_n C d_W_mean_29 rfl rfl ?_
      refine g_getR (b := 3) (k := 1) C k_W (by decide) fl_W_19 rfl rfl d_W_mean_30 ?_
      refine g_iload_n C d_W_mean_33 rfl rfl ?_
      refine g_cvI C k_Sf rfl mv_Sf_sizeOf ml_W_86 d_W_mean_34 hf (fun r μ1 h => t_Sf_sizeOf C.2.2.2.2.2.2.2.2.1 h) rfl rfl (by decide) (Nat.le_of_ble_eq_true rfl) (fun r8 μ7 hf => ?_)
      refine g_istore_n C d_W_mean_37 rfl (by decide) ?_
      refine g_iload_n C d_W_mean_38 rfl upS ?_
      refine g_iconst (v := 1) C d_W_mean_39 (by decide) ?_
      refine g_icmp_ge (tgt := 52) C d_W_mean_40 (by decide) hf (fun c9 hf => ?_) (fun c9 hf => ?_)
      · refine g_aload_n C d_W_mean_52 rfl (upG rfl rfl) ?_
        refine g_getR (b := 3) (k := 1) C k_W (by decide) fl_W_19 rfl rfl d_W_mean_53 ?_
        refine g_iload_n C d_W_mean_56 rfl (upG rfl rfl) ?_
        refine g_cvI C k_Sf rfl mv_Sf_sumOf ml_W_109 d_W_mean_57 hf (fun r μ1 h => t_Sf_sumOf C.2.2.2.2.2.2.2.2.1 h) rfl rfl (by decide) (Nat.le_of_ble_eq_true rfl) (fun r11 μ10 hf => ?_)
        refine g_iload_n C d_W_mean_60 rfl upS ?_
        refine g_idiv C d_W_mean_61 hf (fun hf => ?_)
        exact g_iret C d_W_mean_62 hf
      · refine g_aload_n C d_W_mean_43 rfl (upG rfl rfl) ?_
        refine g_getR (b := 1) (k := 0) C k_W (by decide) fl_W_10 rfl rfl d_W_mean_44 ?_
        refine g_iconst (v := 4) C d_W_mean_47 (by decide) ?_
        refine g_cvI C k_Ta rfl mv_Ta_found ml_W_75 d_W_mean_48 hf (fun r μ1 h => t_Ta_found C.2.2.2.2.2.2.2.2.1 h) rfl rfl (by decide) (Nat.le_of_ble_eq_true rfl) (fun r13 μ12 hf => ?_)
        exact g_iret C d_W_mean_51 hf
    · refine g_aload_n C d_W_mean_20 rfl rfl ?_
      refine g_getR (b := 1) (k := 0) C k_W (by decide) fl_W_10 rfl rfl d_W_mean_21 ?_
      refine g_iconst (v := 1) C d_W_mean_24 (by decide) ?_
      refine g_cvI C k_Ta rfl mv_Ta_found ml_W_75 d_W_mean_25 hf (fun r μ1 h => t_Ta_found C.2.2.2.2.2.2.2.2.1 h) rfl rfl (by decide) (Nat.le_of_ble_eq_true rfl) (fun r15 μ14 hf => ?_)
      exact g_iret C d_W_mean_28 hf
set_option maxHeartbeats 4000000 in
theorem t_W_fence_B180 {ad : Nat → Nat} {dA : Nat → ClassId} {D : va_G} {p : Program} {l : Launch} {e : Env} {s : State} {m : MethodId} {args : Array Value} {below : List Frame} {meth : Method} {c : Code} {r : Int32} {μ' : Mm} (C : Cx CLS SHX ad dA D p s m args meth c c_W_fence 7 R_W (some .int)) (N : Nat)   : ∀  (μ : Mm) (lv : Nat → Option Value), lv 0 = some (.ref (ad 0)) → f_W_fence_B180 N μ = some (r, μ') → Go CLS SHX ad dA D p l e (rmD 3) s m args below meth c 7 (some (.int r)) μ' 180 lv [] μ := by
  intro μ lv hl0 hf
  unfold f_W_fence_B180 at hf
  refine g_aload_n C d_W_fence_180 rfl hl0 ?_
  refine g_getR (b := 6) (k := 2) C k_W (by decide) fl_W_26 rfl rfl d_W_fence_181 ?_
  refine g_getI (k := 1) C k_Gr (by decide) fl_W_118 rfl rfl d_W_fence_184 ?_
  exact g_iret C d_W_fence_187 hf
set_option maxHeartbeats 4000000 in
theorem t_W_fence_B161 {ad : Nat → Nat} {dA : Nat → ClassId} {D : va_G} {p : Program} {l : Launch} {e : Env} {s : State} {m : MethodId} {args : Array Value} {below : List Frame} {meth : Method} {c : Code} {r : Int32} {μ' : Mm} (C : Cx CLS SHX ad dA D p s m args meth c c_W_fence 7 R_W (some .int)) (N : Nat)   (k127 : Int32 → Int32 → Int32 → Mm → Option (Int32 × Mm)) (hk127 : ∀ (v1 : Int32) (v3 : Int32) (v6 : Int32) (μ : Mm) (lv : Nat → Option Value), lv 0 = some (.ref (ad 0)) → lv 1 = some (.int v1) → lv 3 = some (.int v3) → lv 6 = some (.int v6) → k127 v1 v3 v6 μ = some (r, μ') → Go CLS SHX ad dA D p l e (rmD 3) s m args below meth c 7 (some (.int r)) μ' 127 lv [] μ) : ∀ (v1 : Int32) (v3 : Int32) (v6 : Int32) (s1 : Int32) (s2 : Int32) (μ : Mm) (lv : Nat → Option Value), lv 0 = some (.ref (ad 0)) → lv 1 = some (.int v1) → lv 3 = some (.int v3) → lv 6 = some (.int v6) → f_W_fence_B161 N k127 v1 v3 v6 s1 s2 μ = some (r, μ') → Go CLS SHX ad dA D p l e (rmD 3) s m args below meth c 7 (some (.int r)) μ' 161 lv [.int s2, .int s1, .ref (ad 6)] μ := by
  intro v1 v3 v6 s1 s2 μ lv hl0 hl1 hl3 hl6 hf
  unfold f_W_fence_B161 at hf
  refine g_aload_n C d_W_fence_161 rfl hl0 ?_
  refine g_getR (b := 3) (k := 1) C k_W (by decide) fl_W_19 rfl rfl d_W_fence_162 ?_
  refine g_iload_n C d_W_fence_165 rfl hl1 ?_
  refine g_iload C d_W_fence_166 hl6 ?_
  refine g_cvI C k_Sf rfl mv_Sf_byteAt ml_W_89 d_W_fence_168 hf (fun r μ1 h => t_Sf_byteAt C.2.2.2.2.2.2.2.2.1 h) rfl rfl (by decide) (Nat.le_of_ble_eq_true rfl) (fun r24 μ23 hf => ?_)
  refine g_cvV C k_Gr rfl mv_Gr_build ml_W_122 d_W_fence_171 hf (fun μ1 h => t_Gr_build C.2.2.2.2.2.2.2.2.1 h) rfl rfl (by decide) (Nat.le_of_ble_eq_true rfl) (fun μ25 hf => ?_)
  refine g_iinc (v := 1) C d_W_fence_174 hl6 (by decide) (by decide) ?_
  refine g_goto (tgt := 127) C d_W_fence_177 (by decide) ?_
  exact hk127 _ _ _ _ _ ((upG hl0 rfl)) ((upG hl1 rfl)) ((upG hl3 rfl)) upS hf
set_option maxHeartbeats 4000000 in
theorem t_W_fence_L127 {ad : Nat → Nat} {dA : Nat → ClassId} {D : va_G} {p : Program} {l : Launch} {e : Env} {s : State} {m : MethodId} {args : Array Value} {below : List Frame} {meth : Method} {c : Code} {r : Int32} {μ' : Mm} (C : Cx CLS SHX ad dA D p s m args meth c c_W_fence 7 R_W (some .int)) (N : Nat)   : ∀ (n : Nat) (v1 : Int32) (v3 : Int32) (v6 : Int32) (μ : Mm) (lv : Nat → Option Value), lv 0 = some (.ref (ad 0)) → lv 1 = some (.int v1) → lv 3 = some (.int v3) → lv 6 = some (.int v6) → f_W_fence_L127 N n v1 v3 v6 μ = some (r, μ') → Go CLS SHX ad dA D p l e (rmD 3) s m args below meth c 7 (some (.int r)) μ' 127 lv [] μ := by
  intro n
  induction n with
  | zero => intro v1 v3 v6 μ lv hl0 hl1 hl3 hl6 hf; cases (show none = some _ from hf)
  | succ n ih =>
    intro v1 v3 v6 μ lv hl0 hl1 hl3 hl6 hf
    unfold f_W_fence_L127 at hf
    refine g_iload C d_W_fence_127 hl6 ?_
    refine g_iload_n C d_W_fence_129 rfl hl3 ?_
    refine g_icmp_ge (tgt := 180) C d_W_fence_130 (by decide) hf (fun c21 hf => ?_) (fun c21 hf => ?_)
    · exact t_W_fence_B180 C N _ _ hl0 hf
    · refine g_aload_n C d_W_fence_133 rfl hl0 ?_
      refine g_getR (b := 6) (k := 2) C k_W (by decide) fl_W_26 rfl rfl d_W_fence_134 ?_
      refine g_iload C d_W_fence_137 hl6 ?_
      refine g_iload C d_W_fence_139 hl6 ?_
      refine g_iconst (v := 1) C d_W_fence_141 (by decide) ?_
      refine g_iadd C d_W_fence_142 ?_
      refine g_aload_n C d_W_fence_143 rfl hl0 ?_
      refine g_getR (b := 6) (k := 2) C k_W (by decide) fl_W_26 rfl rfl d_W_fence_144 ?_
      refine g_getI (k := 1) C k_Gr (by decide) fl_W_118 rfl rfl d_W_fence_147 ?_
      refine g_icmp_ge (tgt := 160) C d_W_fence_150 (by decide) hf (fun c22 hf => ?_) (fun c22 hf => ?_)
      · refine g_iconst (v := 0) C d_W_fence_160 (by decide) ?_
        exact t_W_fence_B161 C N _ ih _ _ _ _ _ _ _ hl0 hl1 hl3 hl6 hf
      · refine g_iload C d_W_fence_153 hl6 ?_
        refine g_iconst (v := 1) C d_W_fence_155 (by decide) ?_
        refine g_iadd C d_W_fence_156 ?_
        refine g_goto (tgt := 161) C d_W_fence_157 (by decide) ?_
        exact t_W_fence_B161 C N _ ih _ _ _ _ _ _ _ hl0 hl1 hl3 hl6 hf
set_option maxHeartbeats 4000000 in
theorem t_W_fence_B121 {ad : Nat → Nat} {dA : Nat → ClassId} {D : va_G} {p : Program} {l : Launch} {e : Env} {s : State} {m : MethodId} {args : Array Value} {below : List Frame} {meth : Method} {c : Code} {r : Int32} {μ' : Mm} (C : Cx CLS SHX ad dA D p s m args meth c c_W_fence 7 R_W (some .int)) (N : Nat)   : ∀ (v1 : Int32) (v3 : Int32) (s1 : Int32) (s2 : Int32) (μ : Mm) (lv : Nat → Option Value), lv 0 = some (.ref (ad 0)) → lv 1 = some (.int v1) → lv 3 = some (.int v3) → f_W_fence_B121 N v1 v3 s1 s2 μ = some (r, μ') → Go CLS SHX ad dA D p l e (rmD 3) s m args below meth c 7 (some (.int r)) μ' 121 lv [.int s2, .int s1, .ref (ad 6)] μ := by
  intro v1 v3 s1 s2 μ lv hl0 hl1 hl3 hf
  unfold f_W_fence_B121 at hf
  refine g_cvV C k_Gr rfl mv_Gr_begin ml_W_115 d_W_fence_121 hf (fun μ1 h => t_Gr_begin C.2.2.2.2.2.2.2.2.1 h) rfl rfl (by decide) (Nat.le_of_ble_eq_true rfl) (fun μ20 hf => ?_)
  refine g_iconst (v := 0) C d_W_fence_124 (by decide) ?_
  refine g_istore C d_W_fence_125 (by decide) ?_
  exact t_W_fence_L127 C N N _ _ _ _ _ ((upG hl0 rfl)) ((upG hl1 rfl)) ((upG hl3 rfl)) upS hf
set_option maxHeartbeats 4000000 in
theorem t_W_fence_B110 {ad : Nat → Nat} {dA : Nat → ClassId} {D : va_G} {p : Program} {l : Launch} {e : Env} {s : State} {m : MethodId} {args : Array Value} {below : List Frame} {meth : Method} {c : Code} {r : Int32} {μ' : Mm} (C : Cx CLS SHX ad dA D p s m args meth c c_W_fence 7 R_W (some .int)) (N : Nat)   : ∀ (v1 : Int32) (v2 : Int32) (v3 : Int32) (s1 : Int32) (μ : Mm) (lv : Nat → Option Value), lv 0 = some (.ref (ad 0)) → lv 1 = some (.int v1) → lv 2 = some (.int v2) → lv 3 = some (.int v3) → f_W_fence_B110 N v1 v2 v3 s1 μ = some (r, μ') → Go CLS SHX ad dA D p l e (rmD 3) s m args below meth c 7 (some (.int r)) μ' 110 lv [.int s1, .ref (ad 6)] μ := by
  intro v1 v2 v3 s1 μ lv hl0 hl1 hl2 hl3 hf
  unfold f_W_fence_B110 at hf
  refine g_iload_n C d_W_fence_110 rfl hl2 ?_
  refine g_if_eq (tgt := 118) C d_W_fence_111 (by decide) hf (fun c19 hf => ?_) (fun c19 hf => ?_)
  · refine g_iload_n C d_W_fence_118 rfl hl3 ?_
    refine g_iconst (v := 1) C d_W_fence_119 (by decide) ?_
    refine g_iadd C d_W_fence_120 ?_
    exact t_W_fence_B121 C N _ _ _ _ _ _ hl0 hl1 hl3 hf
  · refine g_iload_n C d_W_fence_114 rfl hl3 ?_
    refine g_goto (tgt := 121) C d_W_fence_115 (by decide) ?_
    exact t_W_fence_B121 C N _ _ _ _ _ _ hl0 hl1 hl3 hf
set_option maxHeartbeats 4000000 in
theorem t_W_fence_B88 {ad : Nat → Nat} {dA : Nat → ClassId} {D : va_G} {p : Program} {l : Launch} {e : Env} {s : State} {m : MethodId} {args : Array Value} {below : List Frame} {meth : Method} {c : Code} {r : Int32} {μ' : Mm} (C : Cx CLS SHX ad dA D p s m args meth c c_W_fence 7 R_W (some .int)) (N : Nat)   : ∀  (μ : Mm) (lv : Nat → Option Value), lv 0 = some (.ref (ad 0)) → f_W_fence_B88 N μ = some (r, μ') → Go CLS SHX ad dA D p l e (rmD 3) s m args below meth c 7 (some (.int r)) μ' 88 lv [] μ := by
  intro μ lv hl0 hf
  unfold f_W_fence_B88 at hf
  refine g_aload_n C d_W_fence_88 rfl hl0 ?_
  refine g_getR (b := 1) (k := 0) C k_W (by decide) fl_W_10 rfl rfl d_W_fence_89 ?_
  refine g_iconst (v := 5) C d_W_fence_92 (by decide) ?_
  refine g_cvI C k_Ta rfl mv_Ta_found ml_W_75 d_W_fence_93 hf (fun r μ1 h => t_Ta_found C.2.2.2.2.2.2.2.2.1 h) rfl rfl (by decide) (Nat.le_of_ble_eq_true rfl) (fun r28 μ27 hf => ?_)
  exact g_iret C d_W_fence_96 hf
set_option maxHeartbeats 4000000 in
theorem t_W_fence_B60 {ad : Nat → Nat} {dA : Nat → ClassId} {D : va_G} {p : Program} {l : Launch} {e : Env} {s : State} {m : MethodId} {args : Array Value} {below : List Frame} {meth : Method} {c : Code} {r : Int32} {μ' : Mm} (C : Cx CLS SHX ad dA D p s m args meth c c_W_fence 7 R_W (some .int)) (N : Nat)   : ∀ (v1 : Int32) (v2 : Int32) (v3 : Int32) (v4 : Int32) (s0 : Int32) (μ : Mm) (lv : Nat → Option Value), lv 0 = some (.ref (ad 0)) → lv 1 = some (.int v1) → lv 2 = some (.int v2) → lv 3 = some (.int v3) → lv 4 = some (.int v4) → f_W_fence_B60 N v1 v2 v3 v4 s0 μ = some (r, μ') → Go CLS SHX ad dA D p l e (rmD 3) s m args below meth c 7 (some (.int r)) μ' 60 lv [.int s0] μ := by
  intro v1 v2 v3 v4 s0 μ lv hl0 hl1 hl2 hl3 hl4 hf
  unfold f_W_fence_B60 at hf
  refine g_istore C d_W_fence_60 (by decide) ?_
  refine g_iload_n C d_W_fence_62 rfl (upG hl3 rfl) ?_
  refine g_iload C d_W_fence_63 (upG hl4 rfl) ?_
  refine g_icmp_lt (tgt := 88) C d_W_fence_65 (by decide) hf (fun c13 hf => ?_) (fun c13 hf => ?_)
  · exact t_W_fence_B88 C N _ _ ((upG hl0 rfl)) hf
  · refine g_iload_n C d_W_fence_68 rfl (upG hl3 rfl) ?_
    refine g_iload C d_W_fence_69 upS ?_
    refine g_icmp_gt (tgt := 88) C d_W_fence_71 (by decide) hf (fun c14 hf => ?_) (fun c14 hf => ?_)
    · exact t_W_fence_B88 C N _ _ ((upG hl0 rfl)) hf
    · refine g_aload_n C d_W_fence_74 rfl (upG hl0 rfl) ?_
      refine g_getR (b := 3) (k := 1) C k_W (by decide) fl_W_19 rfl rfl d_W_fence_75 ?_
      refine g_iload_n C d_W_fence_78 rfl (upG hl1 rfl) ?_
      refine g_iconst (v := 1) C d_W_fence_79 (by decide) ?_
      refine g_bipush (v := 30) C d_W_fence_80 (by decide) ?_
      refine g_cvI C k_Sf rfl mv_Sf_allWithin ml_W_112 d_W_fence_82 hf (fun r μ1 h => t_Sf_allWithin C.2.2.2.2.2.2.2.2.1 h) rfl rfl (by decide) (Nat.le_of_ble_eq_true rfl) (fun r16 μ15 hf => ?_)
      refine g_if_ne (tgt := 97) C d_W_fence_85 (by decide) hf (fun c17 hf => ?_) (fun c17 hf => ?_)
      · exact t_W_fence_B88 C N _ _ ((upG hl0 rfl)) hf
      · refine g_aload_n C d_W_fence_97 rfl (upG hl0 rfl) ?_
        refine g_getR (b := 6) (k := 2) C k_W (by decide) fl_W_26 rfl rfl d_W_fence_98 ?_
        refine g_iload_n C d_W_fence_101 rfl (upG hl2 rfl) ?_
        refine g_if_eq (tgt := 109) C d_W_fence_102 (by decide) hf (fun c18 hf => ?_) (fun c18 hf => ?_)
        · refine g_iconst (v := 0) C d_W_fence_109 (by decide) ?_
          exact t_W_fence_B110 C N _ _ _ _ _ _ ((upG hl0 rfl)) ((upG hl1 rfl)) ((upG hl2 rfl)) ((upG hl3 rfl)) hf
        · refine g_iconst (v := 1) C d_W_fence_105 (by decide) ?_
          refine g_goto (tgt := 110) C d_W_fence_106 (by decide) ?_
          exact t_W_fence_B110 C N _ _ _ _ _ _ ((upG hl0 rfl)) ((upG hl1 rfl)) ((upG hl2 rfl)) ((upG hl3 rfl)) hf
set_option maxHeartbeats 4000000 in
theorem t_W_fence_B47 {ad : Nat → Nat} {dA : Nat → ClassId} {D : va_G} {p : Program} {l : Launch} {e : Env} {s : State} {m : MethodId} {args : Array Value} {below : List Frame} {meth : Method} {c : Code} {r : Int32} {μ' : Mm} (C : Cx CLS SHX ad dA D p s m args meth c c_W_fence 7 R_W (some .int)) (N : Nat)   : ∀ (v1 : Int32) (v2 : Int32) (v3 : Int32) (s0 : Int32) (μ : Mm) (lv : Nat → Option Value), lv 0 = some (.ref (ad 0)) → lv 1 = some (.int v1) → lv 2 = some (.int v2) → lv 3 = some (.int v3) → f_W_fence_B47 N v1 v2 v3 s0 μ = some (r, μ') → Go CLS SHX ad dA D p l e (rmD 3) s m args below meth c 7 (some (.int r)) μ' 47 lv [.int s0] μ := by
  intro v1 v2 v3 s0 μ lv hl0 hl1 hl2 hl3 hf
  unfold f_W_fence_B47 at hf
  refine g_istore C d_W_fence_47 (by decide) ?_
  refine g_iload_n C d_W_fence_49 rfl (upG hl2 rfl) ?_
  refine g_if_eq (tgt := 58) C d_W_fence_50 (by decide) hf (fun c12 hf => ?_) (fun c12 hf => ?_)
  · refine g_bipush (v := 15) C d_W_fence_58 (by decide) ?_
    exact t_W_fence_B60 C N _ _ _ _ _ _ _ ((upG hl0 rfl)) ((upG hl1 rfl)) ((upG hl2 rfl)) ((upG hl3 rfl)) upS hf
  · refine g_bipush (v := 16) C d_W_fence_53 (by decide) ?_
    refine g_goto (tgt := 60) C d_W_fence_55 (by decide) ?_
    exact t_W_fence_B60 C N _ _ _ _ _ _ _ ((upG hl0 rfl)) ((upG hl1 rfl)) ((upG hl2 rfl)) ((upG hl3 rfl)) upS hf
set_option maxHeartbeats 4000000 in
theorem t_W_fence {l : Launch} {ad : Nat → Nat} {dA : Nat → ClassId} {D : va_G} (hi : Inj SHX ad) {N : Nat} {a1 : Int32} {a2 : Int32}  {μ μ' : Mm} {r : Int32} (hf : f_W_fence N a1 a2 μ = some (r, μ')) : Ct CLS l SHX ad dA D y_W_fence c_W_fence 7 (some .int) 3 [.ref (ad 0), .int a1, .int a2] μ (some (.int r)) μ' := by
  unfold f_W_fence at hf
  refine ct_of (by decide) hi (Nat.le_of_ble_eq_true rfl) ?_
  intro p e s m args below meth c C
  refine g_iload_n C d_W_fence_0 rfl rfl ?_
  refine g_csI C mv_W_isRow ml_W_71 d_W_fence_1 hf (fun r μ1 h => t_W_isRow C.2.2.2.2.2.2.2.2.1 h) rfl rfl (by decide) (Nat.le_of_ble_eq_true rfl) (fun r2 μ1 hf => ?_)
  refine g_if_ne (tgt := 9) C d_W_fence_4 (by decide) hf (fun c3 hf => ?_) (fun c3 hf => ?_)
  · refine g_iconst (v := -1) C d_W_fence_7 (by decide) ?_
    exact g_iret C d_W_fence_8 hf
  · refine g_aload_n C d_W_fence_9 rfl rfl ?_
    refine g_getR (b := 3) (k := 1) C k_W (by decide) fl_W_19 rfl rfl d_W_fence_10 ?_
    refine g_iload_n C d_W_fence_13 rfl rfl ?_
    refine g_cvI C k_Sf rfl mv_Sf_lacks ml_W_83 d_W_fence_14 hf (fun r μ1 h => t_Sf_lacks C.2.2.2.2.2.2.2.2.1 h) rfl rfl (by decide) (Nat.le_of_ble_eq_true rfl) (fun r5 μ4 hf => ?_)
    refine g_if_eq (tgt := 29) C d_W_fence_17 (by decide) hf (fun c6 hf => ?_) (fun c6 hf => ?_)
    · refine g_aload_n C d_W_fence_29 rfl rfl ?_
      refine g_getR (b := 3) (k := 1) C k_W (by decide) fl_W_19 rfl rfl d_W_fence_30 ?_
      refine g_iload_n C d_W_fence_33 rfl rfl ?_
      refine g_cvI C k_Sf rfl mv_Sf_sizeOf ml_W_86 d_W_fence_34 hf (fun r μ1 h => t_Sf_sizeOf C.2.2.2.2.2.2.2.2.1 h) rfl rfl (by decide) (Nat.le_of_ble_eq_true rfl) (fun r8 μ7 hf => ?_)
      refine g_istore_n C d_W_fence_37 rfl (by decide) ?_
      refine g_iload_n C d_W_fence_38 rfl (upG rfl rfl) ?_
      refine g_if_eq (tgt := 46) C d_W_fence_39 (by decide) hf (fun c9 hf => ?_) (fun c9 hf => ?_)
      · refine g_iconst (v := 1) C d_W_fence_46 (by decide) ?_
        exact t_W_fence_B47 C N _ _ _ _ _ _ ((upG rfl rfl)) ((upG rfl rfl)) ((upG rfl rfl)) upS hf
      · refine g_iconst (v := 3) C d_W_fence_42 (by decide) ?_
        refine g_goto (tgt := 47) C d_W_fence_43 (by decide) ?_
        exact t_W_fence_B47 C N _ _ _ _ _ _ ((upG rfl rfl)) ((upG rfl rfl)) ((upG rfl rfl)) upS hf
    · refine g_aload_n C d_W_fence_20 rfl rfl ?_
      refine g_getR (b := 1) (k := 0) C k_W (by decide) fl_W_10 rfl rfl d_W_fence_21 ?_
      refine g_iconst (v := 1) C d_W_fence_24 (by decide) ?_
      refine g_cvI C k_Ta rfl mv_Ta_found ml_W_75 d_W_fence_25 hf (fun r μ1 h => t_Ta_found C.2.2.2.2.2.2.2.2.1 h) rfl rfl (by decide) (Nat.le_of_ble_eq_true rfl) (fun r11 μ10 hf => ?_)
      exact g_iret C d_W_fence_28 hf
set_option maxHeartbeats 4000000 in
theorem t_W_net {l : Launch} {ad : Nat → Nat} {dA : Nat → ClassId} {D : va_G} (hi : Inj SHX ad) {N : Nat} {a1 : Int32}  {μ μ' : Mm} {r : Int32} (hf : f_W_net N a1 μ = some (r, μ')) : Ct CLS l SHX ad dA D y_W_net c_W_net 2 (some .int) 2 [.ref (ad 0), .int a1] μ (some (.int r)) μ' := by
  unfold f_W_net at hf
  refine ct_of (by decide) hi (Nat.le_of_ble_eq_true rfl) ?_
  intro p e s m args below meth c C
  refine g_iload_n C d_W_net_0 rfl rfl ?_
  refine g_iconst (v := 1) C d_W_net_1 (by decide) ?_
  refine g_icmp_lt (tgt := 11) C d_W_net_2 (by decide) hf (fun c1 hf => ?_) (fun c1 hf => ?_)
  · refine g_iconst (v := -1) C d_W_net_11 (by decide) ?_
    exact g_iret C d_W_net_12 hf
  · refine g_iload_n C d_W_net_5 rfl rfl ?_
    refine g_bipush (v := 16) C d_W_net_6 (by decide) ?_
    refine g_icmp_le (tgt := 13) C d_W_net_8 (by decide) hf (fun c2 hf => ?_) (fun c2 hf => ?_)
    · refine g_aload_n C d_W_net_13 rfl rfl ?_
      refine g_getR (b := 6) (k := 2) C k_W (by decide) fl_W_26 rfl rfl d_W_net_14 ?_
      refine g_iconst (v := 2) C d_W_net_17 (by decide) ?_
      refine g_iload_n C d_W_net_18 rfl rfl ?_
      refine g_cvV C k_Gr rfl mv_Gr_begin ml_W_115 d_W_net_19 hf (fun μ1 h => t_Gr_begin C.2.2.2.2.2.2.2.2.1 h) rfl rfl (by decide) (Nat.le_of_ble_eq_true rfl) (fun μ3 hf => ?_)
      refine g_iload_n C d_W_net_22 rfl rfl ?_
      exact g_iret C d_W_net_23 hf
    · refine g_iconst (v := -1) C d_W_net_11 (by decide) ?_
      exact g_iret C d_W_net_12 hf
set_option maxHeartbeats 4000000 in
theorem t_W_wall {l : Launch} {ad : Nat → Nat} {dA : Nat → ClassId} {D : va_G} (hi : Inj SHX ad) {N : Nat} {a1 : Int32} {a2 : Int32} {a3 : Int32}  {μ μ' : Mm} {r : Int32} (hf : f_W_wall N a1 a2 a3 μ = some (r, μ')) : Ct CLS l SHX ad dA D y_W_wall c_W_wall 4 (some .int) 3 [.ref (ad 0), .int a1, .int a2, .int a3] μ (some (.int r)) μ' := by
  unfold f_W_wall at hf
  refine ct_of (by decide) hi (Nat.le_of_ble_eq_true rfl) ?_
  intro p e s m args below meth c C
  refine g_aload_n C d_W_wall_0 rfl rfl ?_
  refine g_getR (b := 6) (k := 2) C k_W (by decide) fl_W_26 rfl rfl d_W_wall_1 ?_
  refine g_iload_n C d_W_wall_4 rfl rfl ?_
  refine g_cvI C k_Gr rfl mv_Gr_has ml_W_125 d_W_wall_5 hf (fun r μ1 h => t_Gr_has C.2.2.2.2.2.2.2.2.1 h) rfl rfl (by decide) (Nat.le_of_ble_eq_true rfl) (fun r2 μ1 hf => ?_)
  refine g_if_eq (tgt := 50) C d_W_wall_8 (by decide) hf (fun c3 hf => ?_) (fun c3 hf => ?_)
  · refine g_iconst (v := -1) C d_W_wall_50 (by decide) ?_
    exact g_iret C d_W_wall_51 hf
  · refine g_aload_n C d_W_wall_11 rfl rfl ?_
    refine g_getR (b := 6) (k := 2) C k_W (by decide) fl_W_26 rfl rfl d_W_wall_12 ?_
    refine g_iload_n C d_W_wall_15 rfl rfl ?_
    refine g_cvI C k_Gr rfl mv_Gr_has ml_W_125 d_W_wall_16 hf (fun r μ1 h => t_Gr_has C.2.2.2.2.2.2.2.2.1 h) rfl rfl (by decide) (Nat.le_of_ble_eq_true rfl) (fun r5 μ4 hf => ?_)
    refine g_if_eq (tgt := 50) C d_W_wall_19 (by decide) hf (fun c6 hf => ?_) (fun c6 hf => ?_)
    · refine g_iconst (v := -1) C d_W_wall_50 (by decide) ?_
      exact g_iret C d_W_wall_51 hf
    · refine g_iload_n C d_W_wall_22 rfl rfl ?_
      refine g_iload_n C d_W_wall_23 rfl rfl ?_
      refine g_icmp_eq (tgt := 50) C d_W_wall_24 (by decide) hf (fun c7 hf => ?_) (fun c7 hf => ?_)
      · refine g_iconst (v := -1) C d_W_wall_50 (by decide) ?_
        exact g_iret C d_W_wall_51 hf
      · refine g_iload_n C d_W_wall_27 rfl rfl ?_
        refine g_iconst (v := 1) C d_W_wall_28 (by decide) ?_
        refine g_icmp_lt (tgt := 50) C d_W_wall_29 (by decide) hf (fun c8 hf => ?_) (fun c8 hf => ?_)
        · refine g_iconst (v := -1) C d_W_wall_50 (by decide) ?_
          exact g_iret C d_W_wall_51 hf
        · refine g_iload_n C d_W_wall_32 rfl rfl ?_
          refine g_bipush (v := 30) C d_W_wall_33 (by decide) ?_
          refine g_icmp_gt (tgt := 50) C d_W_wall_35 (by decide) hf (fun c9 hf => ?_) (fun c9 hf => ?_)
          · refine g_iconst (v := -1) C d_W_wall_50 (by decide) ?_
            exact g_iret C d_W_wall_51 hf
          · refine g_aload_n C d_W_wall_38 rfl rfl ?_
            refine g_getR (b := 6) (k := 2) C k_W (by decide) fl_W_26 rfl rfl d_W_wall_39 ?_
            refine g_iload_n C d_W_wall_42 rfl rfl ?_
            refine g_iload_n C d_W_wall_43 rfl rfl ?_
            refine g_cvI C k_Gr rfl mv_Gr_lengthOf ml_W_128 d_W_wall_44 hf (fun r μ1 h => t_Gr_lengthOf C.2.2.2.2.2.2.2.2.1 h) rfl rfl (by decide) (Nat.le_of_ble_eq_true rfl) (fun r11 μ10 hf => ?_)
            refine g_if_eq (tgt := 52) C d_W_wall_47 (by decide) hf (fun c12 hf => ?_) (fun c12 hf => ?_)
            · refine g_aload_n C d_W_wall_52 rfl rfl ?_
              refine g_getR (b := 6) (k := 2) C k_W (by decide) fl_W_26 rfl rfl d_W_wall_53 ?_
              refine g_getI (k := 2) C k_Gr (by decide) fl_W_131 rfl rfl d_W_wall_56 ?_
              refine g_bipush (v := 40) C d_W_wall_59 (by decide) ?_
              refine g_icmp_lt (tgt := 67) C d_W_wall_61 (by decide) hf (fun c13 hf => ?_) (fun c13 hf => ?_)
              · refine g_aload_n C d_W_wall_67 rfl rfl ?_
                refine g_getR (b := 6) (k := 2) C k_W (by decide) fl_W_26 rfl rfl d_W_wall_68 ?_
                refine g_getI (k := 0) C k_Gr (by decide) fl_W_134 rfl rfl d_W_wall_71 ?_
                refine g_iconst (v := 2) C d_W_wall_74 (by decide) ?_
                refine g_icmp_eq (tgt := 87) C d_W_wall_75 (by decide) hf (fun c14 hf => ?_) (fun c14 hf => ?_)
                · refine g_aload_n C d_W_wall_87 rfl rfl ?_
                  refine g_getR (b := 6) (k := 2) C k_W (by decide) fl_W_26 rfl rfl d_W_wall_88 ?_
                  refine g_iload_n C d_W_wall_91 rfl rfl ?_
                  refine g_iload_n C d_W_wall_92 rfl rfl ?_
                  refine g_iload_n C d_W_wall_93 rfl rfl ?_
                  refine g_cvV C k_Gr rfl mv_Gr_build ml_W_122 d_W_wall_94 hf (fun μ1 h => t_Gr_build C.2.2.2.2.2.2.2.2.1 h) rfl rfl (by decide) (Nat.le_of_ble_eq_true rfl) (fun μ15 hf => ?_)
                  refine g_aload_n C d_W_wall_97 rfl rfl ?_
                  refine g_getR (b := 6) (k := 2) C k_W (by decide) fl_W_26 rfl rfl d_W_wall_98 ?_
                  refine g_getI (k := 2) C k_Gr (by decide) fl_W_131 rfl rfl d_W_wall_101 ?_
                  exact g_iret C d_W_wall_104 hf
                · refine g_aload_n C d_W_wall_78 rfl rfl ?_
                  refine g_getR (b := 1) (k := 0) C k_W (by decide) fl_W_10 rfl rfl d_W_wall_79 ?_
                  refine g_iconst (v := 3) C d_W_wall_82 (by decide) ?_
                  refine g_cvI C k_Ta rfl mv_Ta_found ml_W_75 d_W_wall_83 hf (fun r μ1 h => t_Ta_found C.2.2.2.2.2.2.2.2.1 h) rfl rfl (by decide) (Nat.le_of_ble_eq_true rfl) (fun r17 μ16 hf => ?_)
                  exact g_iret C d_W_wall_86 hf
              · refine g_bipush (v := -2) C d_W_wall_64 (by decide) ?_
                exact g_iret C d_W_wall_66 hf
            · refine g_iconst (v := -1) C d_W_wall_50 (by decide) ?_
              exact g_iret C d_W_wall_51 hf
set_option maxHeartbeats 4000000 in
theorem t_W_breaks_B76 {ad : Nat → Nat} {dA : Nat → ClassId} {D : va_G} {p : Program} {l : Launch} {e : Env} {s : State} {m : MethodId} {args : Array Value} {below : List Frame} {meth : Method} {c : Code} {r : Int32} {μ' : Mm} (C : Cx CLS SHX ad dA D p s m args meth c c_W_breaks 6 R_W (some .int)) (N : Nat)   : ∀ (v5 : Int32) (μ : Mm) (lv : Nat → Option Value), lv 5 = some (.int v5) → f_W_breaks_B76 N v5 μ = some (r, μ') → Go CLS SHX ad dA D p l e (rmD 3) s m args below meth c 6 (some (.int r)) μ' 76 lv [] μ := by
  intro v5 μ lv hl5 hf
  unfold f_W_breaks_B76 at hf
  refine g_iload C d_W_breaks_76 hl5 ?_
  refine g_if_eq (tgt := 85) C d_W_breaks_78 (by decide) hf (fun c15 hf => ?_) (fun c15 hf => ?_)
  · refine g_iconst (v := 0) C d_W_breaks_85 (by decide) ?_
    exact g_iret C d_W_breaks_86 hf
  · refine g_iconst (v := 1) C d_W_breaks_81 (by decide) ?_
    refine g_goto (tgt := 86) C d_W_breaks_82 (by decide) ?_
    exact g_iret C d_W_breaks_86 hf
set_option maxHeartbeats 4000000 in
theorem t_W_breaks_B59 {ad : Nat → Nat} {dA : Nat → ClassId} {D : va_G} {p : Program} {l : Launch} {e : Env} {s : State} {m : MethodId} {args : Array Value} {below : List Frame} {meth : Method} {c : Code} {r : Int32} {μ' : Mm} (C : Cx CLS SHX ad dA D p s m args meth c c_W_breaks 6 R_W (some .int)) (N : Nat)   : ∀ (v1 : Int32) (v2 : Int32) (v3 : Int32) (s0 : Int32) (μ : Mm) (lv : Nat → Option Value), lv 0 = some (.ref (ad 0)) → lv 1 = some (.int v1) → lv 2 = some (.int v2) → lv 3 = some (.int v3) → f_W_breaks_B59 N v1 v2 v3 s0 μ = some (r, μ') → Go CLS SHX ad dA D p l e (rmD 3) s m args below meth c 6 (some (.int r)) μ' 59 lv [.int s0] μ := by
  intro v1 v2 v3 s0 μ lv hl0 hl1 hl2 hl3 hf
  unfold f_W_breaks_B59 at hf
  refine g_istore C d_W_breaks_59 (by decide) ?_
  refine g_iload C d_W_breaks_61 upS ?_
  refine g_iload_n C d_W_breaks_63 rfl (upG hl3 rfl) ?_
  refine g_icmp_eq (tgt := 76) C d_W_breaks_64 (by decide) hf (fun c13 hf => ?_) (fun c13 hf => ?_)
  · exact t_W_breaks_B76 C N _ _ _ upS hf
  · refine g_aload_n C d_W_breaks_67 rfl (upG hl0 rfl) ?_
    refine g_getR (b := 6) (k := 2) C k_W (by decide) fl_W_26 rfl rfl d_W_breaks_68 ?_
    refine g_iload_n C d_W_breaks_71 rfl (upG hl1 rfl) ?_
    refine g_iload_n C d_W_breaks_72 rfl (upG hl2 rfl) ?_
    refine g_cvV C k_Gr rfl mv_Gr_turnBroken ml_W_137 d_W_breaks_73 hf (fun μ1 h => t_Gr_turnBroken C.2.2.2.2.2.2.2.2.1 h) rfl rfl (by decide) (Nat.le_of_ble_eq_true rfl) (fun μ14 hf => ?_)
    exact t_W_breaks_B76 C N _ _ _ upS hf
set_option maxHeartbeats 4000000 in
theorem t_W_breaks {l : Launch} {ad : Nat → Nat} {dA : Nat → ClassId} {D : va_G} (hi : Inj SHX ad) {N : Nat} {a1 : Int32} {a2 : Int32} {a3 : Int32}  {μ μ' : Mm} {r : Int32} (hf : f_W_breaks N a1 a2 a3 μ = some (r, μ')) : Ct CLS l SHX ad dA D y_W_breaks c_W_breaks 6 (some .int) 3 [.ref (ad 0), .int a1, .int a2, .int a3] μ (some (.int r)) μ' := by
  unfold f_W_breaks at hf
  refine ct_of (by decide) hi (Nat.le_of_ble_eq_true rfl) ?_
  intro p e s m args below meth c C
  refine g_aload_n C d_W_breaks_0 rfl rfl ?_
  refine g_getR (b := 6) (k := 2) C k_W (by decide) fl_W_26 rfl rfl d_W_breaks_1 ?_
  refine g_iload_n C d_W_breaks_4 rfl rfl ?_
  refine g_cvI C k_Gr rfl mv_Gr_has ml_W_125 d_W_breaks_5 hf (fun r μ1 h => t_Gr_has C.2.2.2.2.2.2.2.2.1 h) rfl rfl (by decide) (Nat.le_of_ble_eq_true rfl) (fun r2 μ1 hf => ?_)
  refine g_if_eq (tgt := 22) C d_W_breaks_8 (by decide) hf (fun c3 hf => ?_) (fun c3 hf => ?_)
  · refine g_iconst (v := -1) C d_W_breaks_22 (by decide) ?_
    exact g_iret C d_W_breaks_23 hf
  · refine g_aload_n C d_W_breaks_11 rfl rfl ?_
    refine g_getR (b := 6) (k := 2) C k_W (by decide) fl_W_26 rfl rfl d_W_breaks_12 ?_
    refine g_iload_n C d_W_breaks_15 rfl rfl ?_
    refine g_cvI C k_Gr rfl mv_Gr_has ml_W_125 d_W_breaks_16 hf (fun r μ1 h => t_Gr_has C.2.2.2.2.2.2.2.2.1 h) rfl rfl (by decide) (Nat.le_of_ble_eq_true rfl) (fun r5 μ4 hf => ?_)
    refine g_if_ne (tgt := 24) C d_W_breaks_19 (by decide) hf (fun c6 hf => ?_) (fun c6 hf => ?_)
    · refine g_iconst (v := -1) C d_W_breaks_22 (by decide) ?_
      exact g_iret C d_W_breaks_23 hf
    · refine g_aload_n C d_W_breaks_24 rfl rfl ?_
      refine g_getR (b := 6) (k := 2) C k_W (by decide) fl_W_26 rfl rfl d_W_breaks_25 ?_
      refine g_iload_n C d_W_breaks_28 rfl rfl ?_
      refine g_iload_n C d_W_breaks_29 rfl rfl ?_
      refine g_cvI C k_Gr rfl mv_Gr_lengthOf ml_W_128 d_W_breaks_30 hf (fun r μ1 h => t_Gr_lengthOf C.2.2.2.2.2.2.2.2.1 h) rfl rfl (by decide) (Nat.le_of_ble_eq_true rfl) (fun r8 μ7 hf => ?_)
      refine g_istore C d_W_breaks_33 (by decide) ?_
      refine g_iload C d_W_breaks_35 upS ?_
      refine g_if_ne (tgt := 49) C d_W_breaks_37 (by decide) hf (fun c9 hf => ?_) (fun c9 hf => ?_)
      · refine g_aload_n C d_W_breaks_40 rfl (upG rfl rfl) ?_
        refine g_getR (b := 1) (k := 0) C k_W (by decide) fl_W_10 rfl rfl d_W_breaks_41 ?_
        refine g_iconst (v := 1) C d_W_breaks_44 (by decide) ?_
        refine g_cvI C k_Ta rfl mv_Ta_found ml_W_75 d_W_breaks_45 hf (fun r μ1 h => t_Ta_found C.2.2.2.2.2.2.2.2.1 h) rfl rfl (by decide) (Nat.le_of_ble_eq_true rfl) (fun r11 μ10 hf => ?_)
        exact g_iret C d_W_breaks_48 hf
      · refine g_iload C d_W_breaks_49 upS ?_
        refine g_if_ge (tgt := 58) C d_W_breaks_51 (by decide) hf (fun c12 hf => ?_) (fun c12 hf => ?_)
        · refine g_iconst (v := 0) C d_W_breaks_58 (by decide) ?_
          exact t_W_breaks_B59 C N _ _ _ _ _ _ ((upG rfl rfl)) ((upG rfl rfl)) ((upG rfl rfl)) ((upG rfl rfl)) hf
        · refine g_iconst (v := 1) C d_W_breaks_54 (by decide) ?_
          refine g_goto (tgt := 59) C d_W_breaks_55 (by decide) ?_
          exact t_W_breaks_B59 C N _ _ _ _ _ _ ((upG rfl rfl)) ((upG rfl rfl)) ((upG rfl rfl)) ((upG rfl rfl)) hf
set_option maxHeartbeats 4000000 in
theorem t_W_far {l : Launch} {ad : Nat → Nat} {dA : Nat → ClassId} {D : va_G} (hi : Inj SHX ad) {N : Nat} {a1 : Int32} {a2 : Int32}  {μ μ' : Mm} {r : Int32} (hf : f_W_far N a1 a2 μ = some (r, μ')) : Ct CLS l SHX ad dA D y_W_far c_W_far 3 (some .int) 2 [.ref (ad 0), .int a1, .int a2] μ (some (.int r)) μ' := by
  unfold f_W_far at hf
  refine ct_of (by decide) hi (Nat.le_of_ble_eq_true rfl) ?_
  intro p e s m args below meth c C
  refine g_aload_n C d_W_far_0 rfl rfl ?_
  refine g_getR (b := 6) (k := 2) C k_W (by decide) fl_W_26 rfl rfl d_W_far_1 ?_
  refine g_iload_n C d_W_far_4 rfl rfl ?_
  refine g_cvI C k_Gr rfl mv_Gr_has ml_W_125 d_W_far_5 hf (fun r μ1 h => t_Gr_has C.2.2.2.2.2.2.2.2.1 h) rfl rfl (by decide) (Nat.le_of_ble_eq_true rfl) (fun r2 μ1 hf => ?_)
  refine g_if_eq (tgt := 22) C d_W_far_8 (by decide) hf (fun c3 hf => ?_) (fun c3 hf => ?_)
  · refine g_iconst (v := -1) C d_W_far_22 (by decide) ?_
    exact g_iret C d_W_far_23 hf
  · refine g_aload_n C d_W_far_11 rfl rfl ?_
    refine g_getR (b := 6) (k := 2) C k_W (by decide) fl_W_26 rfl rfl d_W_far_12 ?_
    refine g_iload_n C d_W_far_15 rfl rfl ?_
    refine g_cvI C k_Gr rfl mv_Gr_has ml_W_125 d_W_far_16 hf (fun r μ1 h => t_Gr_has C.2.2.2.2.2.2.2.2.1 h) rfl rfl (by decide) (Nat.le_of_ble_eq_true rfl) (fun r5 μ4 hf => ?_)
    refine g_if_ne (tgt := 24) C d_W_far_19 (by decide) hf (fun c6 hf => ?_) (fun c6 hf => ?_)
    · refine g_iconst (v := -1) C d_W_far_22 (by decide) ?_
      exact g_iret C d_W_far_23 hf
    · refine g_aload_n C d_W_far_24 rfl rfl ?_
      refine g_getR (b := 6) (k := 2) C k_W (by decide) fl_W_26 rfl rfl d_W_far_25 ?_
      refine g_cvV C k_Gr rfl mv_Gr_measure ml_W_140 d_W_far_28 hf (fun μ1 h => t_Gr_measure C.2.2.2.2.2.2.2.2.1 h) rfl rfl (by decide) (Nat.le_of_ble_eq_true rfl) (fun μ7 hf => ?_)
      refine g_aload_n C d_W_far_31 rfl rfl ?_
      refine g_getR (b := 6) (k := 2) C k_W (by decide) fl_W_26 rfl rfl d_W_far_32 ?_
      refine g_iload_n C d_W_far_35 rfl rfl ?_
      refine g_iload_n C d_W_far_36 rfl rfl ?_
      refine g_cvI C k_Gr rfl mv_Gr_farOf ml_W_143 d_W_far_37 hf (fun r μ1 h => t_Gr_farOf C.2.2.2.2.2.2.2.2.1 h) rfl rfl (by decide) (Nat.le_of_ble_eq_true rfl) (fun r9 μ8 hf => ?_)
      exact g_iret C d_W_far_40 hf
set_option maxHeartbeats 4000000 in
theorem t_W_worth {l : Launch} {ad : Nat → Nat} {dA : Nat → ClassId} {D : va_G} (hi : Inj SHX ad) {N : Nat} {a1 : Int32} {a2 : Int32}  {μ μ' : Mm} {r : Int32} (hf : f_W_worth N a1 a2 μ = some (r, μ')) : Ct CLS l SHX ad dA D y_W_worth c_W_worth 3 (some .int) 1 [.ref (ad 0), .int a1, .int a2] μ (some (.int r)) μ' := by
  unfold f_W_worth at hf
  refine ct_of (by decide) hi (Nat.le_of_ble_eq_true rfl) ?_
  intro p e s m args below meth c C
  refine g_aload_n C d_W_worth_0 rfl rfl ?_
  refine g_getR (b := 6) (k := 2) C k_W (by decide) fl_W_26 rfl rfl d_W_worth_1 ?_
  refine g_iload_n C d_W_worth_4 rfl rfl ?_
  refine g_cvI C k_Gr rfl mv_Gr_has ml_W_125 d_W_worth_5 hf (fun r μ1 h => t_Gr_has C.2.2.2.2.2.2.2.2.1 h) rfl rfl (by decide) (Nat.le_of_ble_eq_true rfl) (fun r2 μ1 hf => ?_)
  refine g_if_eq (tgt := 21) C d_W_worth_8 (by decide) hf (fun c3 hf => ?_) (fun c3 hf => ?_)
  · refine g_iconst (v := -1) C d_W_worth_21 (by decide) ?_
    exact g_iret C d_W_worth_22 hf
  · refine g_iload_n C d_W_worth_11 rfl rfl ?_
    refine g_if_lt (tgt := 21) C d_W_worth_12 (by decide) hf (fun c4 hf => ?_) (fun c4 hf => ?_)
    · refine g_iconst (v := -1) C d_W_worth_21 (by decide) ?_
      exact g_iret C d_W_worth_22 hf
    · refine g_iload_n C d_W_worth_15 rfl rfl ?_
      refine g_bipush (v := 9) C d_W_worth_16 (by decide) ?_
      refine g_icmp_le (tgt := 23) C d_W_worth_18 (by decide) hf (fun c5 hf => ?_) (fun c5 hf => ?_)
      · refine g_aload_n C d_W_worth_23 rfl rfl ?_
        refine g_getR (b := 6) (k := 2) C k_W (by decide) fl_W_26 rfl rfl d_W_worth_24 ?_
        refine g_iload_n C d_W_worth_27 rfl rfl ?_
        refine g_iload_n C d_W_worth_28 rfl rfl ?_
        refine g_cvI C k_Gr rfl mv_Gr_changeWorth ml_W_146 d_W_worth_29 hf (fun r μ1 h => t_Gr_changeWorth C.2.2.2.2.2.2.2.2.1 h) rfl rfl (by decide) (Nat.le_of_ble_eq_true rfl) (fun r7 μ6 hf => ?_)
        exact g_iret C d_W_worth_32 hf
      · refine g_iconst (v := -1) C d_W_worth_21 (by decide) ?_
        exact g_iret C d_W_worth_22 hf
set_option maxHeartbeats 4000000 in
theorem t_W_base {l : Launch} {ad : Nat → Nat} {dA : Nat → ClassId} {D : va_G} (hi : Inj SHX ad) {N : Nat} {a1 : Int32} {a2 : Int32}  {μ μ' : Mm} {r : Int32} (hf : f_W_base N a1 a2 μ = some (r, μ')) : Ct CLS l SHX ad dA D y_W_base c_W_base 3 (some .int) 1 [.ref (ad 0), .int a1, .int a2] μ (some (.int r)) μ' := by
  unfold f_W_base at hf
  refine ct_of (by decide) hi (Nat.le_of_ble_eq_true rfl) ?_
  intro p e s m args below meth c C
  refine g_aload_n C d_W_base_0 rfl rfl ?_
  refine g_getR (b := 6) (k := 2) C k_W (by decide) fl_W_26 rfl rfl d_W_base_1 ?_
  refine g_iload_n C d_W_base_4 rfl rfl ?_
  refine g_cvI C k_Gr rfl mv_Gr_has ml_W_125 d_W_base_5 hf (fun r μ1 h => t_Gr_has C.2.2.2.2.2.2.2.2.1 h) rfl rfl (by decide) (Nat.le_of_ble_eq_true rfl) (fun r2 μ1 hf => ?_)
  refine g_if_ne (tgt := 13) C d_W_base_8 (by decide) hf (fun c3 hf => ?_) (fun c3 hf => ?_)
  · refine g_iconst (v := -1) C d_W_base_11 (by decide) ?_
    exact g_iret C d_W_base_12 hf
  · refine g_aload_n C d_W_base_13 rfl rfl ?_
    refine g_getR (b := 6) (k := 2) C k_W (by decide) fl_W_26 rfl rfl d_W_base_14 ?_
    refine g_iload_n C d_W_base_17 rfl rfl ?_
    refine g_iload_n C d_W_base_18 rfl rfl ?_
    refine g_cvI C k_Gr rfl mv_Gr_changeBase ml_W_149 d_W_base_19 hf (fun r μ1 h => t_Gr_changeBase C.2.2.2.2.2.2.2.2.1 h) rfl rfl (by decide) (Nat.le_of_ble_eq_true rfl) (fun r5 μ4 hf => ?_)
    refine g_if_eq (tgt := 29) C d_W_base_22 (by decide) hf (fun c6 hf => ?_) (fun c6 hf => ?_)
    · refine g_iconst (v := 0) C d_W_base_29 (by decide) ?_
      exact g_iret C d_W_base_30 hf
    · refine g_iconst (v := 1) C d_W_base_25 (by decide) ?_
      refine g_goto (tgt := 30) C d_W_base_26 (by decide) ?_
      exact g_iret C d_W_base_30 hf
set_option maxHeartbeats 4000000 in
theorem t_W_isWalkerAsTold {l : Launch} {ad : Nat → Nat} {dA : Nat → ClassId} {D : va_G} (hi : Inj SHX ad) {N : Nat} {a1 : Int32} {a2 : Int32} {a3 : Int32}  {μ μ' : Mm} {r : Int32} (hf : f_W_isWalkerAsTold N a1 a2 a3 μ = some (r, μ')) : Ct CLS l SHX ad dA D y_W_isWalkerAsTold c_W_isWalkerAsTold 4 (some .boolean) 1 [.ref (ad 0), .int a1, .int a2, .int a3] μ (some (.int r)) μ' := by
  unfold f_W_isWalkerAsTold at hf
  refine ct_of (by decide) hi (Nat.le_of_ble_eq_true rfl) ?_
  intro p e s m args below meth c C
  refine g_iload_n C d_W_isWalkerAsTold_0 rfl rfl ?_
  refine g_cas hf (fun e0 hf => ?_) (fun e0 hf => ?_)
  · refine g_tabIn (tgt := 32) C d_W_isWalkerAsTold_1 (by rw [e0]; decide) (by rw [e0]; decide) (by rw [e0]; rfl) (by decide) ?_
    refine g_iconst (v := 1) C d_W_isWalkerAsTold_32 (by decide) ?_
    exact g_zretc C d_W_isWalkerAsTold_33 rfl hf
  · skip
    refine g_cas hf (fun e1 hf => ?_) (fun e1 hf => ?_)
    · refine g_tabIn (tgt := 34) C d_W_isWalkerAsTold_1 (by rw [e1]; decide) (by rw [e1]; decide) (by rw [e1]; rfl) (by decide) ?_
      refine g_iload_n C d_W_isWalkerAsTold_34 rfl rfl ?_
      refine g_iconst (v := 1) C d_W_isWalkerAsTold_35 (by decide) ?_
      refine g_icmp_lt (tgt := 49) C d_W_isWalkerAsTold_36 (by decide) hf (fun c1 hf => ?_) (fun c1 hf => ?_)
      · refine g_iconst (v := 0) C d_W_isWalkerAsTold_49 (by decide) ?_
        exact g_zretc C d_W_isWalkerAsTold_50 rfl hf
      · refine g_iload_n C d_W_isWalkerAsTold_39 rfl rfl ?_
        refine g_bipush (v := 6) C d_W_isWalkerAsTold_40 (by decide) ?_
        refine g_icmp_gt (tgt := 49) C d_W_isWalkerAsTold_42 (by decide) hf (fun c2 hf => ?_) (fun c2 hf => ?_)
        · refine g_iconst (v := 0) C d_W_isWalkerAsTold_49 (by decide) ?_
          exact g_zretc C d_W_isWalkerAsTold_50 rfl hf
        · refine g_iconst (v := 1) C d_W_isWalkerAsTold_45 (by decide) ?_
          refine g_goto (tgt := 50) C d_W_isWalkerAsTold_46 (by decide) ?_
          exact g_zretc C d_W_isWalkerAsTold_50 rfl hf
    · skip
      refine g_cas hf (fun e2 hf => ?_) (fun e2 hf => ?_)
      · refine g_tabIn (tgt := 51) C d_W_isWalkerAsTold_1 (by rw [e2]; decide) (by rw [e2]; decide) (by rw [e2]; rfl) (by decide) ?_
        refine g_iload_n C d_W_isWalkerAsTold_51 rfl rfl ?_
        refine g_iconst (v := 1) C d_W_isWalkerAsTold_52 (by decide) ?_
        refine g_icmp_lt (tgt := 78) C d_W_isWalkerAsTold_53 (by decide) hf (fun c3 hf => ?_) (fun c3 hf => ?_)
        · refine g_iconst (v := 0) C d_W_isWalkerAsTold_78 (by decide) ?_
          exact g_zretc C d_W_isWalkerAsTold_79 rfl hf
        · refine g_iload_n C d_W_isWalkerAsTold_56 rfl rfl ?_
          refine g_bipush (v := 6) C d_W_isWalkerAsTold_57 (by decide) ?_
          refine g_icmp_gt (tgt := 78) C d_W_isWalkerAsTold_59 (by decide) hf (fun c4 hf => ?_) (fun c4 hf => ?_)
          · refine g_iconst (v := 0) C d_W_isWalkerAsTold_78 (by decide) ?_
            exact g_zretc C d_W_isWalkerAsTold_79 rfl hf
          · refine g_iload_n C d_W_isWalkerAsTold_62 rfl rfl ?_
            refine g_iconst (v := 1) C d_W_isWalkerAsTold_63 (by decide) ?_
            refine g_icmp_lt (tgt := 78) C d_W_isWalkerAsTold_64 (by decide) hf (fun c5 hf => ?_) (fun c5 hf => ?_)
            · refine g_iconst (v := 0) C d_W_isWalkerAsTold_78 (by decide) ?_
              exact g_zretc C d_W_isWalkerAsTold_79 rfl hf
            · refine g_iload_n C d_W_isWalkerAsTold_67 rfl rfl ?_
              refine g_sipush (v := 500) C d_W_isWalkerAsTold_68 (by decide) ?_
              refine g_icmp_gt (tgt := 78) C d_W_isWalkerAsTold_71 (by decide) hf (fun c6 hf => ?_) (fun c6 hf => ?_)
              · refine g_iconst (v := 0) C d_W_isWalkerAsTold_78 (by decide) ?_
                exact g_zretc C d_W_isWalkerAsTold_79 rfl hf
              · refine g_iconst (v := 1) C d_W_isWalkerAsTold_74 (by decide) ?_
                refine g_goto (tgt := 79) C d_W_isWalkerAsTold_75 (by decide) ?_
                exact g_zretc C d_W_isWalkerAsTold_79 rfl hf
      · skip
        refine g_cas hf (fun e3 hf => ?_) (fun e3 hf => ?_)
        · refine g_tabIn (tgt := 80) C d_W_isWalkerAsTold_1 (by rw [e3]; decide) (by rw [e3]; decide) (by rw [e3]; rfl) (by decide) ?_
          refine g_aload_n C d_W_isWalkerAsTold_80 rfl rfl ?_
          refine g_getR (b := 6) (k := 2) C k_W (by decide) fl_W_26 rfl rfl d_W_isWalkerAsTold_81 ?_
          refine g_iload_n C d_W_isWalkerAsTold_84 rfl rfl ?_
          refine g_cvI C k_Gr rfl mv_Gr_has ml_W_125 d_W_isWalkerAsTold_85 hf (fun r μ1 h => t_Gr_has C.2.2.2.2.2.2.2.2.1 h) rfl rfl (by decide) (Nat.le_of_ble_eq_true rfl) (fun r8 μ7 hf => ?_)
          exact g_zret C d_W_isWalkerAsTold_88 hf
        · skip
          have e0 := tni (k := 0) (0 : Int32) rfl e0
          have e1 := tni (k := 1) (1 : Int32) rfl e1
          have e2 := tni (k := 2) (2 : Int32) rfl e2
          have e3 := tni (k := 3) (3 : Int32) rfl e3
          refine g_tabOut (tgt := 89) C d_W_isWalkerAsTold_1 (by omega) (by decide) ?_
          refine g_iconst (v := 0) C d_W_isWalkerAsTold_89 (by decide) ?_
          exact g_zretc C d_W_isWalkerAsTold_90 rfl hf
set_option maxHeartbeats 4000000 in
theorem t_W_walker {l : Launch} {ad : Nat → Nat} {dA : Nat → ClassId} {D : va_G} (hi : Inj SHX ad) {N : Nat} {a1 : Int32} {a2 : Int32} {a3 : Int32}  {μ μ' : Mm} {r : Int32} (hf : f_W_walker N a1 a2 a3 μ = some (r, μ')) : Ct CLS l SHX ad dA D y_W_walker c_W_walker 4 (some .int) 2 [.ref (ad 0), .int a1, .int a2, .int a3] μ (some (.int r)) μ' := by
  unfold f_W_walker at hf
  refine ct_of (by decide) hi (Nat.le_of_ble_eq_true rfl) ?_
  intro p e s m args below meth c C
  refine g_aload_n C d_W_walker_0 rfl rfl ?_
  refine g_iload_n C d_W_walker_1 rfl rfl ?_
  refine g_iload_n C d_W_walker_2 rfl rfl ?_
  refine g_iload_n C d_W_walker_3 rfl rfl ?_
  refine g_cvI C k_W rfl mv_W_isWalkerAsTold ml_W_153 d_W_walker_4 hf (fun r μ1 h => t_W_isWalkerAsTold C.2.2.2.2.2.2.2.2.1 h) rfl rfl (by decide) (Nat.le_of_ble_eq_true rfl) (fun r2 μ1 hf => ?_)
  refine g_if_ne (tgt := 12) C d_W_walker_7 (by decide) hf (fun c3 hf => ?_) (fun c3 hf => ?_)
  · refine g_iconst (v := -1) C d_W_walker_10 (by decide) ?_
    exact g_iret C d_W_walker_11 hf
  · refine g_aload_n C d_W_walker_12 rfl rfl ?_
    refine g_getR (b := 11) (k := 3) C k_W (by decide) fl_W_35 rfl rfl d_W_walker_13 ?_
    refine g_getI (k := 1) C k_Cr (by decide) fl_W_156 rfl rfl d_W_walker_16 ?_
    refine g_bipush (v := 8) C d_W_walker_19 (by decide) ?_
    refine g_icmp_lt (tgt := 27) C d_W_walker_21 (by decide) hf (fun c4 hf => ?_) (fun c4 hf => ?_)
    · refine g_aload_n C d_W_walker_27 rfl rfl ?_
      refine g_getR (b := 11) (k := 3) C k_W (by decide) fl_W_35 rfl rfl d_W_walker_28 ?_
      refine g_iload_n C d_W_walker_31 rfl rfl ?_
      refine g_iload_n C d_W_walker_32 rfl rfl ?_
      refine g_iload_n C d_W_walker_33 rfl rfl ?_
      refine g_cvI C k_Cr rfl mv_Cr_add ml_W_159 d_W_walker_34 hf (fun r μ1 h => t_Cr_add C.2.2.2.2.2.2.2.2.1 h) rfl rfl (by decide) (Nat.le_of_ble_eq_true rfl) (fun r6 μ5 hf => ?_)
      exact g_iret C d_W_walker_37 hf
    · refine g_bipush (v := -2) C d_W_walker_24 (by decide) ?_
      exact g_iret C d_W_walker_26 hf
set_option maxHeartbeats 4000000 in
theorem t_W_home {l : Launch} {ad : Nat → Nat} {dA : Nat → ClassId} {D : va_G} (hi : Inj SHX ad) {N : Nat} {a1 : Int32}  {μ μ' : Mm} {r : Int32} (hf : f_W_home N a1 μ = some (r, μ')) : Ct CLS l SHX ad dA D y_W_home c_W_home 2 (some .int) 1 [.ref (ad 0), .int a1] μ (some (.int r)) μ' := by
  unfold f_W_home at hf
  refine ct_of (by decide) hi (Nat.le_of_ble_eq_true rfl) ?_
  intro p e s m args below meth c C
  refine g_aload_n C d_W_home_0 rfl rfl ?_
  refine g_getR (b := 11) (k := 3) C k_W (by decide) fl_W_35 rfl rfl d_W_home_1 ?_
  refine g_iload_n C d_W_home_4 rfl rfl ?_
  refine g_cvI C k_Cr rfl mv_Cr_has ml_W_163 d_W_home_5 hf (fun r μ1 h => t_Cr_has C.2.2.2.2.2.2.2.2.1 h) rfl rfl (by decide) (Nat.le_of_ble_eq_true rfl) (fun r2 μ1 hf => ?_)
  refine g_if_ne (tgt := 13) C d_W_home_8 (by decide) hf (fun c3 hf => ?_) (fun c3 hf => ?_)
  · refine g_iconst (v := -1) C d_W_home_11 (by decide) ?_
    exact g_iret C d_W_home_12 hf
  · refine g_aload_n C d_W_home_13 rfl rfl ?_
    refine g_getR (b := 11) (k := 3) C k_W (by decide) fl_W_35 rfl rfl d_W_home_14 ?_
    refine g_iload_n C d_W_home_17 rfl rfl ?_
    refine g_cvI C k_Cr rfl mv_Cr_lacks ml_W_164 d_W_home_18 hf (fun r μ1 h => t_Cr_lacks C.2.2.2.2.2.2.2.2.1 h) rfl rfl (by decide) (Nat.le_of_ble_eq_true rfl) (fun r5 μ4 hf => ?_)
    refine g_if_eq (tgt := 33) C d_W_home_21 (by decide) hf (fun c6 hf => ?_) (fun c6 hf => ?_)
    · refine g_aload_n C d_W_home_33 rfl rfl ?_
      refine g_getR (b := 11) (k := 3) C k_W (by decide) fl_W_35 rfl rfl d_W_home_34 ?_
      refine g_iload_n C d_W_home_37 rfl rfl ?_
      refine g_cvW C k_Cr rfl mv_Cr_changing ml_W_165 d_W_home_38 hf (fun r μ1 h => t_Cr_changing C.2.2.2.2.2.2.2.2.1 h) rfl rfl (by decide) (Nat.le_of_ble_eq_true rfl) (fun r8 μ7 hf => ?_)
      obtain ⟨hw9, hf⟩ := chk8 hf
      refine g_iconst (v := 1) C d_W_home_41 (by decide) ?_
      refine g_putZc (k := 6) C k_Wk (by decide) fl_W_169 (shW _ hw9) rfl rfl rfl d_W_home_42 rfl ?_
      refine g_iconst (v := 1) C d_W_home_45 (by decide) ?_
      exact g_iret C d_W_home_46 hf
    · refine g_aload_n C d_W_home_24 rfl rfl ?_
      refine g_getR (b := 1) (k := 0) C k_W (by decide) fl_W_10 rfl rfl d_W_home_25 ?_
      refine g_iconst (v := 1) C d_W_home_28 (by decide) ?_
      refine g_cvI C k_Ta rfl mv_Ta_found ml_W_75 d_W_home_29 hf (fun r μ1 h => t_Ta_found C.2.2.2.2.2.2.2.2.1 h) rfl rfl (by decide) (Nat.le_of_ble_eq_true rfl) (fun r12 μ11 hf => ?_)
      exact g_iret C d_W_home_32 hf
set_option maxHeartbeats 4000000 in
theorem t_W_view {l : Launch} {ad : Nat → Nat} {dA : Nat → ClassId} {D : va_G} (hi : Inj SHX ad) {N : Nat} {a1 : Int32} {a2 : Int32}  {μ μ' : Mm} {r : Int32} (hf : f_W_view N a1 a2 μ = some (r, μ')) : Ct CLS l SHX ad dA D y_W_view c_W_view 5 (some .int) 1 [.ref (ad 0), .int a1, .int a2] μ (some (.int r)) μ' := by
  unfold f_W_view at hf
  refine ct_of (by decide) hi (Nat.le_of_ble_eq_true rfl) ?_
  intro p e s m args below meth c C
  refine g_aload_n C d_W_view_0 rfl rfl ?_
  refine g_getR (b := 11) (k := 3) C k_W (by decide) fl_W_35 rfl rfl d_W_view_1 ?_
  refine g_iload_n C d_W_view_4 rfl rfl ?_
  refine g_cvI C k_Cr rfl mv_Cr_has ml_W_163 d_W_view_5 hf (fun r μ1 h => t_Cr_has C.2.2.2.2.2.2.2.2.1 h) rfl rfl (by decide) (Nat.le_of_ble_eq_true rfl) (fun r2 μ1 hf => ?_)
  refine g_if_eq (tgt := 21) C d_W_view_8 (by decide) hf (fun c3 hf => ?_) (fun c3 hf => ?_)
  · refine g_iconst (v := -1) C d_W_view_21 (by decide) ?_
    exact g_iret C d_W_view_22 hf
  · refine g_iload_n C d_W_view_11 rfl rfl ?_
    refine g_if_lt (tgt := 21) C d_W_view_12 (by decide) hf (fun c4 hf => ?_) (fun c4 hf => ?_)
    · refine g_iconst (v := -1) C d_W_view_21 (by decide) ?_
      exact g_iret C d_W_view_22 hf
    · refine g_iload_n C d_W_view_15 rfl rfl ?_
      refine g_bipush (v := 40) C d_W_view_16 (by decide) ?_
      refine g_icmp_le (tgt := 23) C d_W_view_18 (by decide) hf (fun c5 hf => ?_) (fun c5 hf => ?_)
      · refine g_aload_n C d_W_view_23 rfl rfl ?_
        refine g_getR (b := 11) (k := 3) C k_W (by decide) fl_W_35 rfl rfl d_W_view_24 ?_
        refine g_iload_n C d_W_view_27 rfl rfl ?_
        refine g_cvI C k_Cr rfl mv_Cr_lacks ml_W_164 d_W_view_28 hf (fun r μ1 h => t_Cr_lacks C.2.2.2.2.2.2.2.2.1 h) rfl rfl (by decide) (Nat.le_of_ble_eq_true rfl) (fun r7 μ6 hf => ?_)
        refine g_if_eq (tgt := 43) C d_W_view_31 (by decide) hf (fun c8 hf => ?_) (fun c8 hf => ?_)
        · refine g_aload_n C d_W_view_43 rfl rfl ?_
          refine g_getR (b := 11) (k := 3) C k_W (by decide) fl_W_35 rfl rfl d_W_view_44 ?_
          refine g_iload_n C d_W_view_47 rfl rfl ?_
          refine g_cvW C k_Cr rfl mv_Cr_changing ml_W_165 d_W_view_48 hf (fun r μ1 h => t_Cr_changing C.2.2.2.2.2.2.2.2.1 h) rfl rfl (by decide) (Nat.le_of_ble_eq_true rfl) (fun r10 μ9 hf => ?_)
          obtain ⟨hw11, hf⟩ := chk8 hf
          refine g_astore_n C d_W_view_51 rfl (by decide) ?_
          refine g_aload_n C d_W_view_52 rfl upS ?_
          refine g_getI (k := 4) C k_Wk (by decide) fl_W_175 (shW _ hw11) rfl d_W_view_53 ?_
          refine g_istore C d_W_view_56 (by decide) ?_
          refine g_aload_n C d_W_view_58 rfl (upG upS rfl) ?_
          refine g_iload_n C d_W_view_59 rfl (upG (upG rfl rfl) rfl) ?_
          refine g_putI (k := 4) C k_Wk (by decide) fl_W_175 (shW _ hw11) rfl rfl rfl d_W_view_60 ?_
          refine g_iload C d_W_view_63 upS ?_
          exact g_iret C d_W_view_65 hf
        · refine g_aload_n C d_W_view_34 rfl rfl ?_
          refine g_getR (b := 1) (k := 0) C k_W (by decide) fl_W_10 rfl rfl d_W_view_35 ?_
          refine g_iconst (v := 1) C d_W_view_38 (by decide) ?_
          refine g_cvI C k_Ta rfl mv_Ta_found ml_W_75 d_W_view_39 hf (fun r μ1 h => t_Ta_found C.2.2.2.2.2.2.2.2.1 h) rfl rfl (by decide) (Nat.le_of_ble_eq_true rfl) (fun r15 μ14 hf => ?_)
          exact g_iret C d_W_view_42 hf
      · refine g_iconst (v := -1) C d_W_view_21 (by decide) ?_
        exact g_iret C d_W_view_22 hf
set_option maxHeartbeats 4000000 in
theorem t_W_lose {l : Launch} {ad : Nat → Nat} {dA : Nat → ClassId} {D : va_G} (hi : Inj SHX ad) {N : Nat} {a1 : Int32} {a2 : Int32}  {μ μ' : Mm} {r : Int32} (hf : f_W_lose N a1 a2 μ = some (r, μ')) : Ct CLS l SHX ad dA D y_W_lose c_W_lose 5 (some .int) 1 [.ref (ad 0), .int a1, .int a2] μ (some (.int r)) μ' := by
  unfold f_W_lose at hf
  refine ct_of (by decide) hi (Nat.le_of_ble_eq_true rfl) ?_
  intro p e s m args below meth c C
  refine g_aload_n C d_W_lose_0 rfl rfl ?_
  refine g_getR (b := 11) (k := 3) C k_W (by decide) fl_W_35 rfl rfl d_W_lose_1 ?_
  refine g_iload_n C d_W_lose_4 rfl rfl ?_
  refine g_cvI C k_Cr rfl mv_Cr_has ml_W_163 d_W_lose_5 hf (fun r μ1 h => t_Cr_has C.2.2.2.2.2.2.2.2.1 h) rfl rfl (by decide) (Nat.le_of_ble_eq_true rfl) (fun r2 μ1 hf => ?_)
  refine g_if_ne (tgt := 13) C d_W_lose_8 (by decide) hf (fun c3 hf => ?_) (fun c3 hf => ?_)
  · refine g_iconst (v := -1) C d_W_lose_11 (by decide) ?_
    exact g_iret C d_W_lose_12 hf
  · refine g_aload_n C d_W_lose_13 rfl rfl ?_
    refine g_getR (b := 11) (k := 3) C k_W (by decide) fl_W_35 rfl rfl d_W_lose_14 ?_
    refine g_iload_n C d_W_lose_17 rfl rfl ?_
    refine g_cvI C k_Cr rfl mv_Cr_lacks ml_W_164 d_W_lose_18 hf (fun r μ1 h => t_Cr_lacks C.2.2.2.2.2.2.2.2.1 h) rfl rfl (by decide) (Nat.le_of_ble_eq_true rfl) (fun r5 μ4 hf => ?_)
    refine g_if_eq (tgt := 33) C d_W_lose_21 (by decide) hf (fun c6 hf => ?_) (fun c6 hf => ?_)
    · refine g_aload_n C d_W_lose_33 rfl rfl ?_
      refine g_getR (b := 11) (k := 3) C k_W (by decide) fl_W_35 rfl rfl d_W_lose_34 ?_
      refine g_iload_n C d_W_lose_37 rfl rfl ?_
      refine g_cvW C k_Cr rfl mv_Cr_changing ml_W_165 d_W_lose_38 hf (fun r μ1 h => t_Cr_changing C.2.2.2.2.2.2.2.2.1 h) rfl rfl (by decide) (Nat.le_of_ble_eq_true rfl) (fun r8 μ7 hf => ?_)
      obtain ⟨hw9, hf⟩ := chk8 hf
      refine g_astore_n C d_W_lose_41 rfl (by decide) ?_
      refine g_aload_n C d_W_lose_42 rfl upS ?_
      refine g_getI (k := 5) C k_Wk (by decide) fl_W_178 (shW _ hw9) rfl d_W_lose_43 ?_
      refine g_istore C d_W_lose_46 (by decide) ?_
      refine g_aload_n C d_W_lose_48 rfl (upG upS rfl) ?_
      refine g_iload_n C d_W_lose_49 rfl (upG (upG rfl rfl) rfl) ?_
      refine g_putZ (k := 5) C k_Wk (by decide) fl_W_178 (shW _ hw9) rfl rfl rfl d_W_lose_50 hf (fun hf => ?_)
      refine g_iload C d_W_lose_53 upS ?_
      refine g_if_eq (tgt := 62) C d_W_lose_55 (by decide) hf (fun c12 hf => ?_) (fun c12 hf => ?_)
      · refine g_iconst (v := 0) C d_W_lose_62 (by decide) ?_
        exact g_iret C d_W_lose_63 hf
      · refine g_iconst (v := 1) C d_W_lose_58 (by decide) ?_
        refine g_goto (tgt := 63) C d_W_lose_59 (by decide) ?_
        exact g_iret C d_W_lose_63 hf
    · refine g_aload_n C d_W_lose_24 rfl rfl ?_
      refine g_getR (b := 1) (k := 0) C k_W (by decide) fl_W_10 rfl rfl d_W_lose_25 ?_
      refine g_iconst (v := 1) C d_W_lose_28 (by decide) ?_
      refine g_cvI C k_Ta rfl mv_Ta_found ml_W_75 d_W_lose_29 hf (fun r μ1 h => t_Ta_found C.2.2.2.2.2.2.2.2.1 h) rfl rfl (by decide) (Nat.le_of_ble_eq_true rfl) (fun r14 μ13 hf => ?_)
      exact g_iret C d_W_lose_32 hf
set_option maxHeartbeats 4000000 in
theorem t_W_told {l : Launch} {ad : Nat → Nat} {dA : Nat → ClassId} {D : va_G} (hi : Inj SHX ad) {N : Nat} {a1 : Int32} {a2 : Int32}  {μ μ' : Mm} {r : Int32} (hf : f_W_told N a1 a2 μ = some (r, μ')) : Ct CLS l SHX ad dA D y_W_told c_W_told 3 (some .int) 5 [.ref (ad 0), .int a1, .int a2] μ (some (.int r)) μ' := by
  unfold f_W_told at hf
  refine ct_of (by decide) hi (Nat.le_of_ble_eq_true rfl) ?_
  intro p e s m args below meth c C
  refine g_aload_n C d_W_told_0 rfl rfl ?_
  refine g_getR (b := 11) (k := 3) C k_W (by decide) fl_W_35 rfl rfl d_W_told_1 ?_
  refine g_iload_n C d_W_told_4 rfl rfl ?_
  refine g_cvI C k_Cr rfl mv_Cr_has ml_W_163 d_W_told_5 hf (fun r μ1 h => t_Cr_has C.2.2.2.2.2.2.2.2.1 h) rfl rfl (by decide) (Nat.le_of_ble_eq_true rfl) (fun r2 μ1 hf => ?_)
  refine g_if_eq (tgt := 21) C d_W_told_8 (by decide) hf (fun c3 hf => ?_) (fun c3 hf => ?_)
  · refine g_iconst (v := -1) C d_W_told_21 (by decide) ?_
    exact g_iret C d_W_told_22 hf
  · refine g_iload_n C d_W_told_11 rfl rfl ?_
    refine g_if_lt (tgt := 21) C d_W_told_12 (by decide) hf (fun c4 hf => ?_) (fun c4 hf => ?_)
    · refine g_iconst (v := -1) C d_W_told_21 (by decide) ?_
      exact g_iret C d_W_told_22 hf
    · refine g_iload_n C d_W_told_15 rfl rfl ?_
      refine g_bipush (v := 6) C d_W_told_16 (by decide) ?_
      refine g_icmp_le (tgt := 23) C d_W_told_18 (by decide) hf (fun c5 hf => ?_) (fun c5 hf => ?_)
      · refine g_aload_n C d_W_told_23 rfl rfl ?_
        refine g_getR (b := 11) (k := 3) C k_W (by decide) fl_W_35 rfl rfl d_W_told_24 ?_
        refine g_iload_n C d_W_told_27 rfl rfl ?_
        refine g_cvI C k_Cr rfl mv_Cr_lacks ml_W_164 d_W_told_28 hf (fun r μ1 h => t_Cr_lacks C.2.2.2.2.2.2.2.2.1 h) rfl rfl (by decide) (Nat.le_of_ble_eq_true rfl) (fun r7 μ6 hf => ?_)
        refine g_if_eq (tgt := 43) C d_W_told_31 (by decide) hf (fun c8 hf => ?_) (fun c8 hf => ?_)
        · refine g_aload_n C d_W_told_43 rfl rfl ?_
          refine g_getR (b := 11) (k := 3) C k_W (by decide) fl_W_35 rfl rfl d_W_told_44 ?_
          refine g_cvV C k_Cr rfl mv_Cr_refresh ml_W_181 d_W_told_47 hf (fun μ1 h => t_Cr_refresh C.2.2.2.2.2.2.2.2.1 h) rfl rfl (by decide) (Nat.le_of_ble_eq_true rfl) (fun μ9 hf => ?_)
          refine g_aload_n C d_W_told_50 rfl rfl ?_
          refine g_getR (b := 11) (k := 3) C k_W (by decide) fl_W_35 rfl rfl d_W_told_51 ?_
          refine g_iload_n C d_W_told_54 rfl rfl ?_
          refine g_iload_n C d_W_told_55 rfl rfl ?_
          refine g_cvI C k_Cr rfl mv_Cr_tell ml_W_184 d_W_told_56 hf (fun r μ1 h => t_Cr_tell C.2.2.2.2.2.2.2.2.1 h) rfl rfl (by decide) (Nat.le_of_ble_eq_true rfl) (fun r11 μ10 hf => ?_)
          exact g_iret C d_W_told_59 hf
        · refine g_aload_n C d_W_told_34 rfl rfl ?_
          refine g_getR (b := 1) (k := 0) C k_W (by decide) fl_W_10 rfl rfl d_W_told_35 ?_
          refine g_iconst (v := 1) C d_W_told_38 (by decide) ?_
          refine g_cvI C k_Ta rfl mv_Ta_found ml_W_75 d_W_told_39 hf (fun r μ1 h => t_Ta_found C.2.2.2.2.2.2.2.2.1 h) rfl rfl (by decide) (Nat.le_of_ble_eq_true rfl) (fun r13 μ12 hf => ?_)
          exact g_iret C d_W_told_42 hf
      · refine g_iconst (v := -1) C d_W_told_21 (by decide) ?_
        exact g_iret C d_W_told_22 hf
set_option maxHeartbeats 4000000 in
theorem t_W_mark {l : Launch} {ad : Nat → Nat} {dA : Nat → ClassId} {D : va_G} (hi : Inj SHX ad) {N : Nat} {a1 : Int32} {a2 : Int32}  {μ μ' : Mm} {r : Int32} (hf : f_W_mark N a1 a2 μ = some (r, μ')) : Ct CLS l SHX ad dA D y_W_mark c_W_mark 4 (some .int) 1 [.ref (ad 0), .int a1, .int a2] μ (some (.int r)) μ' := by
  unfold f_W_mark at hf
  refine ct_of (by decide) hi (Nat.le_of_ble_eq_true rfl) ?_
  intro p e s m args below meth c C
  refine g_aload_n C d_W_mark_0 rfl rfl ?_
  refine g_getR (b := 11) (k := 3) C k_W (by decide) fl_W_35 rfl rfl d_W_mark_1 ?_
  refine g_iload_n C d_W_mark_4 rfl rfl ?_
  refine g_cvI C k_Cr rfl mv_Cr_has ml_W_163 d_W_mark_5 hf (fun r μ1 h => t_Cr_has C.2.2.2.2.2.2.2.2.1 h) rfl rfl (by decide) (Nat.le_of_ble_eq_true rfl) (fun r2 μ1 hf => ?_)
  refine g_if_eq (tgt := 20) C d_W_mark_8 (by decide) hf (fun c3 hf => ?_) (fun c3 hf => ?_)
  · refine g_iconst (v := -1) C d_W_mark_20 (by decide) ?_
    exact g_iret C d_W_mark_21 hf
  · refine g_iload_n C d_W_mark_11 rfl rfl ?_
    refine g_if_lt (tgt := 20) C d_W_mark_12 (by decide) hf (fun c4 hf => ?_) (fun c4 hf => ?_)
    · refine g_iconst (v := -1) C d_W_mark_20 (by decide) ?_
      exact g_iret C d_W_mark_21 hf
    · refine g_iload_n C d_W_mark_15 rfl rfl ?_
      refine g_iconst (v := 3) C d_W_mark_16 (by decide) ?_
      refine g_icmp_le (tgt := 22) C d_W_mark_17 (by decide) hf (fun c5 hf => ?_) (fun c5 hf => ?_)
      · refine g_aload_n C d_W_mark_22 rfl rfl ?_
        refine g_getR (b := 11) (k := 3) C k_W (by decide) fl_W_35 rfl rfl d_W_mark_23 ?_
        refine g_iload_n C d_W_mark_26 rfl rfl ?_
        refine g_cvI C k_Cr rfl mv_Cr_lacks ml_W_164 d_W_mark_27 hf (fun r μ1 h => t_Cr_lacks C.2.2.2.2.2.2.2.2.1 h) rfl rfl (by decide) (Nat.le_of_ble_eq_true rfl) (fun r7 μ6 hf => ?_)
        refine g_if_eq (tgt := 42) C d_W_mark_30 (by decide) hf (fun c8 hf => ?_) (fun c8 hf => ?_)
        · refine g_aload_n C d_W_mark_42 rfl rfl ?_
          refine g_getR (b := 11) (k := 3) C k_W (by decide) fl_W_35 rfl rfl d_W_mark_43 ?_
          refine g_iload_n C d_W_mark_46 rfl rfl ?_
          refine g_cvW C k_Cr rfl mv_Cr_get ml_W_187 d_W_mark_47 hf (fun r μ1 h => t_Cr_get C.2.2.2.2.2.2.2.2.1 h) rfl rfl (by decide) (Nat.le_of_ble_eq_true rfl) (fun r10 μ9 hf => ?_)
          obtain ⟨hw11, hf⟩ := chk8 hf
          refine g_astore_n C d_W_mark_50 rfl (by decide) ?_
          refine g_aload_n C d_W_mark_51 rfl upS ?_
          refine g_iload_n C d_W_mark_52 rfl (upG rfl rfl) ?_
          refine g_cvI C k_Wk (shW _ hw11) mv_Wk_isOf ml_W_190 d_W_mark_53 hf (fun r μ1 h => t_Wk_isOf C.2.2.2.2.2.2.2.2.1 hw11 h) rfl rfl (by decide) (Nat.le_of_ble_eq_true rfl) (fun r13 μ12 hf => ?_)
          refine g_if_ne (tgt := 68) C d_W_mark_56 (by decide) hf (fun c14 hf => ?_) (fun c14 hf => ?_)
          · refine g_aload_n C d_W_mark_59 rfl (upG rfl rfl) ?_
            refine g_getR (b := 1) (k := 0) C k_W (by decide) fl_W_10 rfl rfl d_W_mark_60 ?_
            refine g_iconst (v := 3) C d_W_mark_63 (by decide) ?_
            refine g_cvI C k_Ta rfl mv_Ta_found ml_W_75 d_W_mark_64 hf (fun r μ1 h => t_Ta_found C.2.2.2.2.2.2.2.2.1 h) rfl rfl (by decide) (Nat.le_of_ble_eq_true rfl) (fun r16 μ15 hf => ?_)
            exact g_iret C d_W_mark_67 hf
          · refine g_aload_n C d_W_mark_68 rfl upS ?_
            refine g_iload_n C d_W_mark_69 rfl (upG rfl rfl) ?_
            refine g_cvI C k_Wk (shW _ hw11) mv_Wk_markOf ml_W_193 d_W_mark_70 hf (fun r μ1 h => t_Wk_markOf C.2.2.2.2.2.2.2.2.1 hw11 h) rfl rfl (by decide) (Nat.le_of_ble_eq_true rfl) (fun r18 μ17 hf => ?_)
            exact g_iret C d_W_mark_73 hf
        · refine g_aload_n C d_W_mark_33 rfl rfl ?_
          refine g_getR (b := 1) (k := 0) C k_W (by decide) fl_W_10 rfl rfl d_W_mark_34 ?_
          refine g_iconst (v := 1) C d_W_mark_37 (by decide) ?_
          refine g_cvI C k_Ta rfl mv_Ta_found ml_W_75 d_W_mark_38 hf (fun r μ1 h => t_Ta_found C.2.2.2.2.2.2.2.2.1 h) rfl rfl (by decide) (Nat.le_of_ble_eq_true rfl) (fun r20 μ19 hf => ?_)
          exact g_iret C d_W_mark_41 hf
      · refine g_iconst (v := -1) C d_W_mark_20 (by decide) ?_
        exact g_iret C d_W_mark_21 hf
set_option maxHeartbeats 4000000 in
theorem t_W_writePlan_B103 {ad : Nat → Nat} {dA : Nat → ClassId} {D : va_G} {p : Program} {l : Launch} {e : Env} {s : State} {m : MethodId} {args : Array Value} {below : List Frame} {meth : Method} {c : Code} {μ' : Mm} (C : Cx CLS SHX ad dA D p s m args meth c c_W_writePlan 7 R_W (none)) (N : Nat)   (k46 : Nat → Int32 → Int32 → Int32 → Int32 → Mm → Option Mm) (hk46 : ∀ (v1 : Nat) (v2 : Int32) (v3 : Int32) (v5 : Int32) (v6 : Int32) (μ : Mm) (lv : Nat → Option Value), v1 < 8 → lv 0 = some (.ref (ad 0)) → lv 1 = some (.ref (ad (WK v1))) → lv 2 = some (.int v2) → lv 3 = some (.int v3) → lv 5 = some (.int v5) → lv 6 = some (.int v6) → k46 v1 v2 v3 v5 v6 μ = some μ' → Go CLS SHX ad dA D p l e (rmD 1) s m args below meth c 7 none μ' 46 lv [] μ) : ∀ (v1 : Nat) (v2 : Int32) (v3 : Int32) (v5 : Int32) (v6 : Int32) (s0 : Nat) (s1 : Int32) (s2 : Int32) (μ : Mm) (lv : Nat → Option Value), v1 < 8 → s0 < 8 → lv 0 = some (.ref (ad 0)) → lv 1 = some (.ref (ad (WK v1))) → lv 2 = some (.int v2) → lv 3 = some (.int v3) → lv 5 = some (.int v5) → lv 6 = some (.int v6) → f_W_writePlan_B103 N k46 v1 v2 v3 v5 v6 s0 s1 s2 μ = some μ' → Go CLS SHX ad dA D p l e (rmD 1) s m args below meth c 7 none μ' 103 lv [.int s2, .int s1, .ref (ad (WK s0 + 2))] μ := by
  intro v1 v2 v3 v5 v6 s0 s1 s2 μ lv hv1 hs0 hl0 hl1 hl2 hl3 hl5 hl6 hf
  unfold f_W_writePlan_B103 at hf
  refine g_iast C (shW2 _ hs0) d_W_writePlan_103 hf (fun hf => ?_)
  refine g_iinc (v := 1) C d_W_writePlan_104 hl6 (by decide) (by decide) ?_
  refine g_goto (tgt := 46) C d_W_writePlan_107 (by decide) ?_
  exact hk46 _ _ _ _ _ _ _ hv1 ((upG hl0 rfl)) ((upG hl1 rfl)) ((upG hl2 rfl)) ((upG hl3 rfl)) ((upG hl5 rfl)) upS hf
set_option maxHeartbeats 4000000 in
theorem t_W_writePlan_L46 {ad : Nat → Nat} {dA : Nat → ClassId} {D : va_G} {p : Program} {l : Launch} {e : Env} {s : State} {m : MethodId} {args : Array Value} {below : List Frame} {meth : Method} {c : Code} {μ' : Mm} (C : Cx CLS SHX ad dA D p s m args meth c c_W_writePlan 7 R_W (none)) (N : Nat)   : ∀ (n : Nat) (v1 : Nat) (v2 : Int32) (v3 : Int32) (v5 : Int32) (v6 : Int32) (μ : Mm) (lv : Nat → Option Value), v1 < 8 → lv 0 = some (.ref (ad 0)) → lv 1 = some (.ref (ad (WK v1))) → lv 2 = some (.int v2) → lv 3 = some (.int v3) → lv 5 = some (.int v5) → lv 6 = some (.int v6) → f_W_writePlan_L46 N n v1 v2 v3 v5 v6 μ = some μ' → Go CLS SHX ad dA D p l e (rmD 1) s m args below meth c 7 none μ' 46 lv [] μ := by
  intro n
  induction n with
  | zero => intro v1 v2 v3 v5 v6 μ lv hv1 hl0 hl1 hl2 hl3 hl5 hl6 hf; cases (show none = some _ from hf)
  | succ n ih =>
    intro v1 v2 v3 v5 v6 μ lv hv1 hl0 hl1 hl2 hl3 hl5 hl6 hf
    unfold f_W_writePlan_L46 at hf
    refine g_iload C d_W_writePlan_46 hl6 ?_
    refine g_aload_n C d_W_writePlan_48 rfl hl1 ?_
    refine g_getI (k := 8) C k_Wk (by decide) fl_W_204 (shW _ hv1) rfl d_W_writePlan_49 ?_
    refine g_icmp_ge (tgt := 110) C d_W_writePlan_52 (by decide) hf (fun c10 hf => ?_) (fun c10 hf => ?_)
    · exact g_vret C d_W_writePlan_110 hf
    · refine g_aload_n C d_W_writePlan_55 rfl hl1 ?_
      refine g_getR (b := WK _ + 1) (k := 9) C k_Wk (by decide) fl_W_211 (shW _ hv1) rfl d_W_writePlan_56 ?_
      refine g_iload C d_W_writePlan_59 hl6 ?_
      refine g_aload_n C d_W_writePlan_61 rfl hl0 ?_
      refine g_getR (b := 3) (k := 1) C k_W (by decide) fl_W_19 rfl rfl d_W_writePlan_62 ?_
      refine g_iload_n C d_W_writePlan_65 rfl hl2 ?_
      refine g_iload C d_W_writePlan_66 hl6 ?_
      refine g_cvI C k_Sf rfl mv_Sf_byteAt ml_W_89 d_W_writePlan_68 hf (fun r μ1 h => t_Sf_byteAt C.2.2.2.2.2.2.2.2.1 h) rfl rfl (by decide) (Nat.le_of_ble_eq_true rfl) (fun r12 μ11 hf => ?_)
      refine g_iast C (shW1 _ hv1) d_W_writePlan_71 hf (fun hf => ?_)
      refine g_aload_n C d_W_writePlan_72 rfl hl1 ?_
      refine g_getR (b := WK _ + 2) (k := 10) C k_Wk (by decide) fl_W_207 (shW _ hv1) rfl d_W_writePlan_73 ?_
      refine g_iload C d_W_writePlan_76 hl6 ?_
      refine g_iload C d_W_writePlan_78 hl6 ?_
      refine g_iload C d_W_writePlan_80 hl5 ?_
      refine g_icmp_ge (tgt := 102) C d_W_writePlan_82 (by decide) hf (fun c14 hf => ?_) (fun c14 hf => ?_)
      · refine g_iconst (v := 0) C d_W_writePlan_102 (by decide) ?_
        exact t_W_writePlan_B103 C N _ ih _ _ _ _ _ _ _ _ _ _ hv1 hv1 hl0 hl1 hl2 hl3 hl5 hl6 hf
      · refine g_iconst (v := 0) C d_W_writePlan_85 (by decide) ?_
        refine g_aload_n C d_W_writePlan_86 rfl hl0 ?_
        refine g_getR (b := 3) (k := 1) C k_W (by decide) fl_W_19 rfl rfl d_W_writePlan_87 ?_
        refine g_iload_n C d_W_writePlan_90 rfl hl3 ?_
        refine g_iload C d_W_writePlan_91 hl6 ?_
        refine g_cvI C k_Sf rfl mv_Sf_byteAt ml_W_89 d_W_writePlan_93 hf (fun r μ1 h => t_Sf_byteAt C.2.2.2.2.2.2.2.2.1 h) rfl rfl (by decide) (Nat.le_of_ble_eq_true rfl) (fun r16 μ15 hf => ?_)
        refine g_csI C mv_Jm_max_7cf53 ml_W_387 d_W_writePlan_96 hf (fun r μ1 h => t_Jm_max_7cf53 C.2.2.2.2.2.2.2.2.1 h) rfl rfl (by decide) (Nat.le_of_ble_eq_true rfl) (fun r18 μ17 hf => ?_)
        refine g_goto (tgt := 103) C d_W_writePlan_99 (by decide) ?_
        exact t_W_writePlan_B103 C N _ ih _ _ _ _ _ _ _ _ _ _ hv1 hv1 hl0 hl1 hl2 hl3 hl5 hl6 hf
set_option maxHeartbeats 4000000 in
theorem t_W_writePlan_B41 {ad : Nat → Nat} {dA : Nat → ClassId} {D : va_G} {p : Program} {l : Launch} {e : Env} {s : State} {m : MethodId} {args : Array Value} {below : List Frame} {meth : Method} {c : Code} {μ' : Mm} (C : Cx CLS SHX ad dA D p s m args meth c c_W_writePlan 7 R_W (none)) (N : Nat)   : ∀ (v1 : Nat) (v2 : Int32) (v3 : Int32) (s0 : Int32) (μ : Mm) (lv : Nat → Option Value), v1 < 8 → lv 0 = some (.ref (ad 0)) → lv 1 = some (.ref (ad (WK v1))) → lv 2 = some (.int v2) → lv 3 = some (.int v3) → f_W_writePlan_B41 N v1 v2 v3 s0 μ = some μ' → Go CLS SHX ad dA D p l e (rmD 1) s m args below meth c 7 none μ' 41 lv [.int s0] μ := by
  intro v1 v2 v3 s0 μ lv hv1 hl0 hl1 hl2 hl3 hf
  unfold f_W_writePlan_B41 at hf
  refine g_istore C d_W_writePlan_41 (by decide) ?_
  refine g_iconst (v := 0) C d_W_writePlan_43 (by decide) ?_
  refine g_istore C d_W_writePlan_44 (by decide) ?_
  exact t_W_writePlan_L46 C N N _ _ _ _ _ _ _ hv1 ((upG (upG hl0 rfl) rfl)) ((upG (upG hl1 rfl) rfl)) ((upG (upG hl2 rfl) rfl)) ((upG (upG hl3 rfl) rfl)) ((upG upS rfl)) upS hf
set_option maxHeartbeats 4000000 in
theorem t_W_writePlan {l : Launch} {ad : Nat → Nat} {dA : Nat → ClassId} {D : va_G} (hi : Inj SHX ad) {N : Nat} {a1 : Nat} {a2 : Int32} {a3 : Int32} {a4 : Int32} (ha1 : a1 < 8) {μ μ' : Mm} (hf : f_W_writePlan N a1 a2 a3 a4 μ = some μ') : Ct CLS l SHX ad dA D y_W_writePlan c_W_writePlan 7 (none) 1 [.ref (ad 0), .ref (ad (WK a1)), .int a2, .int a3, .int a4] μ none μ' := by
  unfold f_W_writePlan at hf
  refine ct_of (by decide) hi (Nat.le_of_ble_eq_true rfl) ?_
  intro p e s m args below meth c C
  refine g_aload_n C d_W_writePlan_0 rfl rfl ?_
  refine g_aload_n C d_W_writePlan_1 rfl rfl ?_
  refine g_getR (b := 3) (k := 1) C k_W (by decide) fl_W_19 rfl rfl d_W_writePlan_2 ?_
  refine g_iload_n C d_W_writePlan_5 rfl rfl ?_
  refine g_cvI C k_Sf rfl mv_Sf_sizeOf ml_W_86 d_W_writePlan_6 hf (fun r μ1 h => t_Sf_sizeOf C.2.2.2.2.2.2.2.2.1 h) rfl rfl (by decide) (Nat.le_of_ble_eq_true rfl) (fun r2 μ1 hf => ?_)
  refine g_bipush (v := 24) C d_W_writePlan_9 (by decide) ?_
  refine g_csI C mv_Jm_min_7cf53 ml_W_292 d_W_writePlan_11 hf (fun r μ1 h => t_Jm_min_7cf53 C.2.2.2.2.2.2.2.2.1 h) rfl rfl (by decide) (Nat.le_of_ble_eq_true rfl) (fun r4 μ3 hf => ?_)
  refine g_putI (k := 8) C k_Wk (by decide) fl_W_204 (shW _ ha1) rfl rfl rfl d_W_writePlan_14 ?_
  refine g_aload_n C d_W_writePlan_17 rfl rfl ?_
  refine g_iload C d_W_writePlan_18 rfl ?_
  refine g_putI (k := 7) C k_Wk (by decide) fl_W_384 (shW _ ha1) rfl rfl rfl d_W_writePlan_20 ?_
  refine g_iload_n C d_W_writePlan_23 rfl rfl ?_
  refine g_bipush (v := -9) C d_W_writePlan_24 (by decide) ?_
  refine g_icmp_ne (tgt := 33) C d_W_writePlan_26 (by decide) hf (fun c7 hf => ?_) (fun c7 hf => ?_)
  · refine g_iconst (v := 0) C d_W_writePlan_29 (by decide) ?_
    refine g_goto (tgt := 41) C d_W_writePlan_30 (by decide) ?_
    exact t_W_writePlan_B41 C N _ _ _ _ _ _ ha1 rfl rfl rfl rfl hf
  · refine g_aload_n C d_W_writePlan_33 rfl rfl ?_
    refine g_getR (b := 3) (k := 1) C k_W (by decide) fl_W_19 rfl rfl d_W_writePlan_34 ?_
    refine g_iload_n C d_W_writePlan_37 rfl rfl ?_
    refine g_cvI C k_Sf rfl mv_Sf_sizeOf ml_W_86 d_W_writePlan_38 hf (fun r μ1 h => t_Sf_sizeOf C.2.2.2.2.2.2.2.2.1 h) rfl rfl (by decide) (Nat.le_of_ble_eq_true rfl) (fun r9 μ8 hf => ?_)
    exact t_W_writePlan_B41 C N _ _ _ _ _ _ ha1 rfl rfl rfl rfl hf
set_option maxHeartbeats 4000000 in
theorem t_W_plan_B186 {ad : Nat → Nat} {dA : Nat → ClassId} {D : va_G} {p : Program} {l : Launch} {e : Env} {s : State} {m : MethodId} {args : Array Value} {below : List Frame} {meth : Method} {c : Code} {r : Int32} {μ' : Mm} (C : Cx CLS SHX ad dA D p s m args meth c c_W_plan 7 R_W (some .int)) (N : Nat)   : ∀  (μ : Mm) (lv : Nat → Option Value), lv 0 = some (.ref (ad 0)) → f_W_plan_B186 N μ = some (r, μ') → Go CLS SHX ad dA D p l e (rmD 2) s m args below meth c 7 (some (.int r)) μ' 186 lv [] μ := by
  intro μ lv hl0 hf
  unfold f_W_plan_B186 at hf
  refine g_aload_n C d_W_plan_186 rfl hl0 ?_
  refine g_getR (b := 1) (k := 0) C k_W (by decide) fl_W_10 rfl rfl d_W_plan_187 ?_
  refine g_iconst (v := 2) C d_W_plan_190 (by decide) ?_
  refine g_cvI C k_Ta rfl mv_Ta_found ml_W_75 d_W_plan_191 hf (fun r μ1 h => t_Ta_found C.2.2.2.2.2.2.2.2.1 h) rfl rfl (by decide) (Nat.le_of_ble_eq_true rfl) (fun r47 μ46 hf => ?_)
  exact g_iret C d_W_plan_194 hf
set_option maxHeartbeats 4000000 in
theorem t_W_plan_B152 {ad : Nat → Nat} {dA : Nat → ClassId} {D : va_G} {p : Program} {l : Launch} {e : Env} {s : State} {m : MethodId} {args : Array Value} {below : List Frame} {meth : Method} {c : Code} {r : Int32} {μ' : Mm} (C : Cx CLS SHX ad dA D p s m args meth c c_W_plan 7 R_W (some .int)) (N : Nat)   : ∀  (μ : Mm) (lv : Nat → Option Value), lv 0 = some (.ref (ad 0)) → f_W_plan_B152 N μ = some (r, μ') → Go CLS SHX ad dA D p l e (rmD 2) s m args below meth c 7 (some (.int r)) μ' 152 lv [] μ := by
  intro μ lv hl0 hf
  unfold f_W_plan_B152 at hf
  refine g_aload_n C d_W_plan_152 rfl hl0 ?_
  refine g_getR (b := 1) (k := 0) C k_W (by decide) fl_W_10 rfl rfl d_W_plan_153 ?_
  refine g_iconst (v := 5) C d_W_plan_156 (by decide) ?_
  refine g_cvI C k_Ta rfl mv_Ta_found ml_W_75 d_W_plan_157 hf (fun r μ1 h => t_Ta_found C.2.2.2.2.2.2.2.2.1 h) rfl rfl (by decide) (Nat.le_of_ble_eq_true rfl) (fun r49 μ48 hf => ?_)
  exact g_iret C d_W_plan_160 hf
set_option maxHeartbeats 4000000 in
theorem t_W_plan_B105 {ad : Nat → Nat} {dA : Nat → ClassId} {D : va_G} {p : Program} {l : Launch} {e : Env} {s : State} {m : MethodId} {args : Array Value} {below : List Frame} {meth : Method} {c : Code} {r : Int32} {μ' : Mm} (C : Cx CLS SHX ad dA D p s m args meth c c_W_plan 7 R_W (some .int)) (N : Nat)   : ∀ (v1 : Int32) (v2 : Int32) (v3 : Int32) (v4 : Int32) (μ : Mm) (lv : Nat → Option Value), lv 0 = some (.ref (ad 0)) → lv 1 = some (.int v1) → lv 2 = some (.int v2) → lv 3 = some (.int v3) → lv 4 = some (.int v4) → f_W_plan_B105 N v1 v2 v3 v4 μ = some (r, μ') → Go CLS SHX ad dA D p l e (rmD 2) s m args below meth c 7 (some (.int r)) μ' 105 lv [] μ := by
  intro v1 v2 v3 v4 μ lv hl0 hl1 hl2 hl3 hl4 hf
  unfold f_W_plan_B105 at hf
  refine g_aload_n C d_W_plan_105 rfl hl0 ?_
  refine g_getR (b := 11) (k := 3) C k_W (by decide) fl_W_35 rfl rfl d_W_plan_106 ?_
  refine g_iload_n C d_W_plan_109 rfl hl1 ?_
  refine g_cvW C k_Cr rfl mv_Cr_get ml_W_187 d_W_plan_110 hf (fun r μ1 h => t_Cr_get C.2.2.2.2.2.2.2.2.1 h) rfl rfl (by decide) (Nat.le_of_ble_eq_true rfl) (fun r27 μ26 hf => ?_)
  obtain ⟨hw28, hf⟩ := chk8 hf
  refine g_getI (k := 0) C k_Wk (by decide) fl_W_196 (shW _ hw28) rfl d_W_plan_113 ?_
  refine g_iconst (v := 3) C d_W_plan_116 (by decide) ?_
  refine g_icmp_ne (tgt := 129) C d_W_plan_117 (by decide) hf (fun c29 hf => ?_) (fun c29 hf => ?_)
  · refine g_aload_n C d_W_plan_120 rfl hl0 ?_
    refine g_getR (b := 1) (k := 0) C k_W (by decide) fl_W_10 rfl rfl d_W_plan_121 ?_
    refine g_iconst (v := 3) C d_W_plan_124 (by decide) ?_
    refine g_cvI C k_Ta rfl mv_Ta_found ml_W_75 d_W_plan_125 hf (fun r μ1 h => t_Ta_found C.2.2.2.2.2.2.2.2.1 h) rfl rfl (by decide) (Nat.le_of_ble_eq_true rfl) (fun r31 μ30 hf => ?_)
    exact g_iret C d_W_plan_128 hf
  · refine g_aload_n C d_W_plan_129 rfl hl0 ?_
    refine g_getR (b := 3) (k := 1) C k_W (by decide) fl_W_19 rfl rfl d_W_plan_130 ?_
    refine g_iload_n C d_W_plan_133 rfl hl2 ?_
    refine g_cvI C k_Sf rfl mv_Sf_sizeOf ml_W_86 d_W_plan_134 hf (fun r μ1 h => t_Sf_sizeOf C.2.2.2.2.2.2.2.2.1 h) rfl rfl (by decide) (Nat.le_of_ble_eq_true rfl) (fun r33 μ32 hf => ?_)
    refine g_istore C d_W_plan_137 (by decide) ?_
    refine g_iload C d_W_plan_139 upS ?_
    refine g_iconst (v := 2) C d_W_plan_141 (by decide) ?_
    refine g_icmp_lt (tgt := 152) C d_W_plan_142 (by decide) hf (fun c34 hf => ?_) (fun c34 hf => ?_)
    · exact t_W_plan_B152 C N _ _ ((upG hl0 rfl)) hf
    · refine g_iload C d_W_plan_145 upS ?_
      refine g_bipush (v := 24) C d_W_plan_147 (by decide) ?_
      refine g_icmp_le (tgt := 161) C d_W_plan_149 (by decide) hf (fun c35 hf => ?_) (fun c35 hf => ?_)
      · refine g_aload_n C d_W_plan_161 rfl (upG hl0 rfl) ?_
        refine g_getR (b := 3) (k := 1) C k_W (by decide) fl_W_19 rfl rfl d_W_plan_162 ?_
        refine g_iload_n C d_W_plan_165 rfl (upG hl2 rfl) ?_
        refine g_iconst (v := 0) C d_W_plan_166 (by decide) ?_
        refine g_bipush (v := 15) C d_W_plan_167 (by decide) ?_
        refine g_cvI C k_Sf rfl mv_Sf_allWithin ml_W_112 d_W_plan_169 hf (fun r μ1 h => t_Sf_allWithin C.2.2.2.2.2.2.2.2.1 h) rfl rfl (by decide) (Nat.le_of_ble_eq_true rfl) (fun r37 μ36 hf => ?_)
        refine g_if_eq (tgt := 186) C d_W_plan_172 (by decide) hf (fun c38 hf => ?_) (fun c38 hf => ?_)
        · exact t_W_plan_B186 C N _ _ ((upG hl0 rfl)) hf
        · refine g_aload_n C d_W_plan_175 rfl (upG hl0 rfl) ?_
          refine g_getR (b := 3) (k := 1) C k_W (by decide) fl_W_19 rfl rfl d_W_plan_176 ?_
          refine g_iload_n C d_W_plan_179 rfl (upG hl2 rfl) ?_
          refine g_cvI C k_Sf rfl mv_Sf_hasTwins ml_W_197 d_W_plan_180 hf (fun r μ1 h => t_Sf_hasTwins C.2.2.2.2.2.2.2.2.1 h) rfl rfl (by decide) (Nat.le_of_ble_eq_true rfl) (fun r40 μ39 hf => ?_)
          refine g_if_eq (tgt := 195) C d_W_plan_183 (by decide) hf (fun c41 hf => ?_) (fun c41 hf => ?_)
          · refine g_aload_n C d_W_plan_195 rfl (upG hl0 rfl) ?_
            refine g_aload_n C d_W_plan_196 rfl (upG hl0 rfl) ?_
            refine g_getR (b := 11) (k := 3) C k_W (by decide) fl_W_35 rfl rfl d_W_plan_197 ?_
            refine g_iload_n C d_W_plan_200 rfl (upG hl1 rfl) ?_
            refine g_cvW C k_Cr rfl mv_Cr_changing ml_W_165 d_W_plan_201 hf (fun r μ1 h => t_Cr_changing C.2.2.2.2.2.2.2.2.1 h) rfl rfl (by decide) (Nat.le_of_ble_eq_true rfl) (fun r43 μ42 hf => ?_)
            obtain ⟨hw44, hf⟩ := chk8 hf
            refine g_iload_n C d_W_plan_204 rfl (upG hl2 rfl) ?_
            refine g_iload_n C d_W_plan_205 rfl (upG hl3 rfl) ?_
            refine g_iload C d_W_plan_206 (upG hl4 rfl) ?_
            refine g_cvV C k_W rfl mv_W_writePlan ml_W_200 d_W_plan_208 hf (fun μ1 h => t_W_writePlan C.2.2.2.2.2.2.2.2.1 hw44 h) rfl rfl (by decide) (Nat.le_of_ble_eq_true rfl) (fun μ45 hf => ?_)
            refine g_iload C d_W_plan_211 upS ?_
            exact g_iret C d_W_plan_213 hf
          · exact t_W_plan_B186 C N _ _ ((upG hl0 rfl)) hf
      · exact t_W_plan_B152 C N _ _ ((upG hl0 rfl)) hf
set_option maxHeartbeats 4000000 in
theorem t_W_plan_B96 {ad : Nat → Nat} {dA : Nat → ClassId} {D : va_G} {p : Program} {l : Launch} {e : Env} {s : State} {m : MethodId} {args : Array Value} {below : List Frame} {meth : Method} {c : Code} {r : Int32} {μ' : Mm} (C : Cx CLS SHX ad dA D p s m args meth c c_W_plan 7 R_W (some .int)) (N : Nat)   : ∀  (μ : Mm) (lv : Nat → Option Value), lv 0 = some (.ref (ad 0)) → f_W_plan_B96 N μ = some (r, μ') → Go CLS SHX ad dA D p l e (rmD 2) s m args below meth c 7 (some (.int r)) μ' 96 lv [] μ := by
  intro μ lv hl0 hf
  unfold f_W_plan_B96 at hf
  refine g_aload_n C d_W_plan_96 rfl hl0 ?_
  refine g_getR (b := 1) (k := 0) C k_W (by decide) fl_W_10 rfl rfl d_W_plan_97 ?_
  refine g_iconst (v := 1) C d_W_plan_100 (by decide) ?_
  refine g_cvI C k_Ta rfl mv_Ta_found ml_W_75 d_W_plan_101 hf (fun r μ1 h => t_Ta_found C.2.2.2.2.2.2.2.2.1 h) rfl rfl (by decide) (Nat.le_of_ble_eq_true rfl) (fun r25 μ24 hf => ?_)
  exact g_iret C d_W_plan_104 hf
set_option maxHeartbeats 4000000 in
theorem t_W_plan_B43 {ad : Nat → Nat} {dA : Nat → ClassId} {D : va_G} {p : Program} {l : Launch} {e : Env} {s : State} {m : MethodId} {args : Array Value} {below : List Frame} {meth : Method} {c : Code} {r : Int32} {μ' : Mm} (C : Cx CLS SHX ad dA D p s m args meth c c_W_plan 7 R_W (some .int)) (N : Nat)   : ∀ (v1 : Int32) (v2 : Int32) (v3 : Int32) (v4 : Int32) (v5 : Int32) (μ : Mm) (lv : Nat → Option Value), lv 0 = some (.ref (ad 0)) → lv 1 = some (.int v1) → lv 2 = some (.int v2) → lv 3 = some (.int v3) → lv 4 = some (.int v4) → lv 5 = some (.int v5) → f_W_plan_B43 N v1 v2 v3 v4 v5 μ = some (r, μ') → Go CLS SHX ad dA D p l e (rmD 2) s m args below meth c 7 (some (.int r)) μ' 43 lv [] μ := by
  intro v1 v2 v3 v4 v5 μ lv hl0 hl1 hl2 hl3 hl4 hl5 hf
  unfold f_W_plan_B43 at hf
  refine g_iload C d_W_plan_43 hl4 ?_
  refine g_if_lt (tgt := 56) C d_W_plan_45 (by decide) hf (fun c12 hf => ?_) (fun c12 hf => ?_)
  · refine g_iconst (v := -1) C d_W_plan_56 (by decide) ?_
    exact g_iret C d_W_plan_57 hf
  · refine g_iload C d_W_plan_48 hl4 ?_
    refine g_sipush (v := 14400) C d_W_plan_50 (by decide) ?_
    refine g_icmp_lt (tgt := 58) C d_W_plan_53 (by decide) hf (fun c13 hf => ?_) (fun c13 hf => ?_)
    · refine g_aload_n C d_W_plan_58 rfl hl0 ?_
      refine g_getR (b := 11) (k := 3) C k_W (by decide) fl_W_35 rfl rfl d_W_plan_59 ?_
      refine g_iload_n C d_W_plan_62 rfl hl1 ?_
      refine g_cvI C k_Cr rfl mv_Cr_lacks ml_W_164 d_W_plan_63 hf (fun r μ1 h => t_Cr_lacks C.2.2.2.2.2.2.2.2.1 h) rfl rfl (by decide) (Nat.le_of_ble_eq_true rfl) (fun r15 μ14 hf => ?_)
      refine g_if_ne (tgt := 96) C d_W_plan_66 (by decide) hf (fun c16 hf => ?_) (fun c16 hf => ?_)
      · refine g_aload_n C d_W_plan_69 rfl hl0 ?_
        refine g_getR (b := 3) (k := 1) C k_W (by decide) fl_W_19 rfl rfl d_W_plan_70 ?_
        refine g_iload_n C d_W_plan_73 rfl hl2 ?_
        refine g_cvI C k_Sf rfl mv_Sf_lacks ml_W_83 d_W_plan_74 hf (fun r μ1 h => t_Sf_lacks C.2.2.2.2.2.2.2.2.1 h) rfl rfl (by decide) (Nat.le_of_ble_eq_true rfl) (fun r18 μ17 hf => ?_)
        refine g_if_ne (tgt := 96) C d_W_plan_77 (by decide) hf (fun c19 hf => ?_) (fun c19 hf => ?_)
        · refine g_iload C d_W_plan_80 hl5 ?_
          refine g_if_eq (tgt := 105) C d_W_plan_82 (by decide) hf (fun c20 hf => ?_) (fun c20 hf => ?_)
          · exact t_W_plan_B105 C N _ _ _ _ _ _ hl0 hl1 hl2 hl3 hl4 hf
          · refine g_aload_n C d_W_plan_85 rfl hl0 ?_
            refine g_getR (b := 3) (k := 1) C k_W (by decide) fl_W_19 rfl rfl d_W_plan_86 ?_
            refine g_iload_n C d_W_plan_89 rfl hl3 ?_
            refine g_cvI C k_Sf rfl mv_Sf_lacks ml_W_83 d_W_plan_90 hf (fun r μ1 h => t_Sf_lacks C.2.2.2.2.2.2.2.2.1 h) rfl rfl (by decide) (Nat.le_of_ble_eq_true rfl) (fun r22 μ21 hf => ?_)
            refine g_if_eq (tgt := 105) C d_W_plan_93 (by decide) hf (fun c23 hf => ?_) (fun c23 hf => ?_)
            · exact t_W_plan_B105 C N _ _ _ _ _ _ hl0 hl1 hl2 hl3 hl4 hf
            · exact t_W_plan_B96 C N _ _ hl0 hf
        · exact t_W_plan_B96 C N _ _ hl0 hf
      · exact t_W_plan_B96 C N _ _ hl0 hf
    · refine g_iconst (v := -1) C d_W_plan_56 (by decide) ?_
      exact g_iret C d_W_plan_57 hf
set_option maxHeartbeats 4000000 in
theorem t_W_plan_B11 {ad : Nat → Nat} {dA : Nat → ClassId} {D : va_G} {p : Program} {l : Launch} {e : Env} {s : State} {m : MethodId} {args : Array Value} {below : List Frame} {meth : Method} {c : Code} {r : Int32} {μ' : Mm} (C : Cx CLS SHX ad dA D p s m args meth c c_W_plan 7 R_W (some .int)) (N : Nat)   : ∀ (v1 : Int32) (v2 : Int32) (v3 : Int32) (v4 : Int32) (s0 : Int32) (μ : Mm) (lv : Nat → Option Value), lv 0 = some (.ref (ad 0)) → lv 1 = some (.int v1) → lv 2 = some (.int v2) → lv 3 = some (.int v3) → lv 4 = some (.int v4) → f_W_plan_B11 N v1 v2 v3 v4 s0 μ = some (r, μ') → Go CLS SHX ad dA D p l e (rmD 2) s m args below meth c 7 (some (.int r)) μ' 11 lv [.int s0] μ := by
  intro v1 v2 v3 v4 s0 μ lv hl0 hl1 hl2 hl3 hl4 hf
  unfold f_W_plan_B11 at hf
  refine g_istore C d_W_plan_11 (by decide) ?_
  refine g_aload_n C d_W_plan_13 rfl (upG hl0 rfl) ?_
  refine g_getR (b := 11) (k := 3) C k_W (by decide) fl_W_35 rfl rfl d_W_plan_14 ?_
  refine g_iload_n C d_W_plan_17 rfl (upG hl1 rfl) ?_
  refine g_cvI C k_Cr rfl mv_Cr_has ml_W_163 d_W_plan_18 hf (fun r μ1 h => t_Cr_has C.2.2.2.2.2.2.2.2.1 h) rfl rfl (by decide) (Nat.le_of_ble_eq_true rfl) (fun r3 μ2 hf => ?_)
  refine g_if_eq (tgt := 56) C d_W_plan_21 (by decide) hf (fun c4 hf => ?_) (fun c4 hf => ?_)
  · refine g_iconst (v := -1) C d_W_plan_56 (by decide) ?_
    exact g_iret C d_W_plan_57 hf
  · refine g_iload_n C d_W_plan_24 rfl (upG hl2 rfl) ?_
    refine g_csI C mv_W_isRow ml_W_71 d_W_plan_25 hf (fun r μ1 h => t_W_isRow C.2.2.2.2.2.2.2.2.1 h) rfl rfl (by decide) (Nat.le_of_ble_eq_true rfl) (fun r6 μ5 hf => ?_)
    refine g_if_eq (tgt := 56) C d_W_plan_28 (by decide) hf (fun c7 hf => ?_) (fun c7 hf => ?_)
    · refine g_iconst (v := -1) C d_W_plan_56 (by decide) ?_
      exact g_iret C d_W_plan_57 hf
    · refine g_iload C d_W_plan_31 upS ?_
      refine g_if_eq (tgt := 43) C d_W_plan_33 (by decide) hf (fun c8 hf => ?_) (fun c8 hf => ?_)
      · exact t_W_plan_B43 C N _ _ _ _ _ _ _ ((upG hl0 rfl)) ((upG hl1 rfl)) ((upG hl2 rfl)) ((upG hl3 rfl)) ((upG hl4 rfl)) upS hf
      · refine g_iload_n C d_W_plan_36 rfl (upG hl3 rfl) ?_
        refine g_csI C mv_W_isRow ml_W_71 d_W_plan_37 hf (fun r μ1 h => t_W_isRow C.2.2.2.2.2.2.2.2.1 h) rfl rfl (by decide) (Nat.le_of_ble_eq_true rfl) (fun r10 μ9 hf => ?_)
        refine g_if_eq (tgt := 56) C d_W_plan_40 (by decide) hf (fun c11 hf => ?_) (fun c11 hf => ?_)
        · refine g_iconst (v := -1) C d_W_plan_56 (by decide) ?_
          exact g_iret C d_W_plan_57 hf
        · exact t_W_plan_B43 C N _ _ _ _ _ _ _ ((upG hl0 rfl)) ((upG hl1 rfl)) ((upG hl2 rfl)) ((upG hl3 rfl)) ((upG hl4 rfl)) upS hf
set_option maxHeartbeats 4000000 in
theorem t_W_plan {l : Launch} {ad : Nat → Nat} {dA : Nat → ClassId} {D : va_G} (hi : Inj SHX ad) {N : Nat} {a1 : Int32} {a2 : Int32} {a3 : Int32} {a4 : Int32}  {μ μ' : Mm} {r : Int32} (hf : f_W_plan N a1 a2 a3 a4 μ = some (r, μ')) : Ct CLS l SHX ad dA D y_W_plan c_W_plan 7 (some .int) 2 [.ref (ad 0), .int a1, .int a2, .int a3, .int a4] μ (some (.int r)) μ' := by
  unfold f_W_plan at hf
  refine ct_of (by decide) hi (Nat.le_of_ble_eq_true rfl) ?_
  intro p e s m args below meth c C
  refine g_iload_n C d_W_plan_0 rfl rfl ?_
  refine g_bipush (v := -9) C d_W_plan_1 (by decide) ?_
  refine g_icmp_eq (tgt := 10) C d_W_plan_3 (by decide) hf (fun c1 hf => ?_) (fun c1 hf => ?_)
  · refine g_iconst (v := 0) C d_W_plan_10 (by decide) ?_
    exact t_W_plan_B11 C N _ _ _ _ _ _ _ rfl rfl rfl rfl rfl hf
  · refine g_iconst (v := 1) C d_W_plan_6 (by decide) ?_
    refine g_goto (tgt := 11) C d_W_plan_7 (by decide) ?_
    exact t_W_plan_B11 C N _ _ _ _ _ _ _ rfl rfl rfl rfl rfl hf
set_option maxHeartbeats 4000000 in
theorem t_W_unplan {l : Launch} {ad : Nat → Nat} {dA : Nat → ClassId} {D : va_G} (hi : Inj SHX ad) {N : Nat} {a1 : Int32}  {μ μ' : Mm} {r : Int32} (hf : f_W_unplan N a1 μ = some (r, μ')) : Ct CLS l SHX ad dA D y_W_unplan c_W_unplan 4 (some .int) 1 [.ref (ad 0), .int a1] μ (some (.int r)) μ' := by
  unfold f_W_unplan at hf
  refine ct_of (by decide) hi (Nat.le_of_ble_eq_true rfl) ?_
  intro p e s m args below meth c C
  refine g_aload_n C d_W_unplan_0 rfl rfl ?_
  refine g_getR (b := 11) (k := 3) C k_W (by decide) fl_W_35 rfl rfl d_W_unplan_1 ?_
  refine g_iload_n C d_W_unplan_4 rfl rfl ?_
  refine g_cvI C k_Cr rfl mv_Cr_has ml_W_163 d_W_unplan_5 hf (fun r μ1 h => t_Cr_has C.2.2.2.2.2.2.2.2.1 h) rfl rfl (by decide) (Nat.le_of_ble_eq_true rfl) (fun r2 μ1 hf => ?_)
  refine g_if_ne (tgt := 13) C d_W_unplan_8 (by decide) hf (fun c3 hf => ?_) (fun c3 hf => ?_)
  · refine g_iconst (v := -1) C d_W_unplan_11 (by decide) ?_
    exact g_iret C d_W_unplan_12 hf
  · refine g_aload_n C d_W_unplan_13 rfl rfl ?_
    refine g_getR (b := 11) (k := 3) C k_W (by decide) fl_W_35 rfl rfl d_W_unplan_14 ?_
    refine g_iload_n C d_W_unplan_17 rfl rfl ?_
    refine g_cvI C k_Cr rfl mv_Cr_lacks ml_W_164 d_W_unplan_18 hf (fun r μ1 h => t_Cr_lacks C.2.2.2.2.2.2.2.2.1 h) rfl rfl (by decide) (Nat.le_of_ble_eq_true rfl) (fun r5 μ4 hf => ?_)
    refine g_if_eq (tgt := 33) C d_W_unplan_21 (by decide) hf (fun c6 hf => ?_) (fun c6 hf => ?_)
    · refine g_aload_n C d_W_unplan_33 rfl rfl ?_
      refine g_getR (b := 11) (k := 3) C k_W (by decide) fl_W_35 rfl rfl d_W_unplan_34 ?_
      refine g_iload_n C d_W_unplan_37 rfl rfl ?_
      refine g_cvW C k_Cr rfl mv_Cr_changing ml_W_165 d_W_unplan_38 hf (fun r μ1 h => t_Cr_changing C.2.2.2.2.2.2.2.2.1 h) rfl rfl (by decide) (Nat.le_of_ble_eq_true rfl) (fun r8 μ7 hf => ?_)
      obtain ⟨hw9, hf⟩ := chk8 hf
      refine g_astore_n C d_W_unplan_41 rfl (by decide) ?_
      refine g_aload_n C d_W_unplan_42 rfl upS ?_
      refine g_getI (k := 8) C k_Wk (by decide) fl_W_204 (shW _ hw9) rfl d_W_unplan_43 ?_
      refine g_istore_n C d_W_unplan_46 rfl (by decide) ?_
      refine g_aload_n C d_W_unplan_47 rfl (upG upS rfl) ?_
      refine g_iconst (v := 0) C d_W_unplan_48 (by decide) ?_
      refine g_putI (k := 8) C k_Wk (by decide) fl_W_204 (shW _ hw9) rfl rfl rfl d_W_unplan_49 ?_
      refine g_iload_n C d_W_unplan_52 rfl upS ?_
      exact g_iret C d_W_unplan_53 hf
    · refine g_aload_n C d_W_unplan_24 rfl rfl ?_
      refine g_getR (b := 1) (k := 0) C k_W (by decide) fl_W_10 rfl rfl d_W_unplan_25 ?_
      refine g_iconst (v := 1) C d_W_unplan_28 (by decide) ?_
      refine g_cvI C k_Ta rfl mv_Ta_found ml_W_75 d_W_unplan_29 hf (fun r μ1 h => t_Ta_found C.2.2.2.2.2.2.2.2.1 h) rfl rfl (by decide) (Nat.le_of_ble_eq_true rfl) (fun r13 μ12 hf => ?_)
      exact g_iret C d_W_unplan_32 hf
set_option maxHeartbeats 4000000 in
theorem t_W_planned_B56 {ad : Nat → Nat} {dA : Nat → ClassId} {D : va_G} {p : Program} {l : Launch} {e : Env} {s : State} {m : MethodId} {args : Array Value} {below : List Frame} {meth : Method} {c : Code} {r : Int32} {μ' : Mm} (C : Cx CLS SHX ad dA D p s m args meth c c_W_planned 5 R_W (some .int)) (N : Nat)   : ∀  (μ : Mm) (lv : Nat → Option Value), lv 0 = some (.ref (ad 0)) → f_W_planned_B56 N μ = some (r, μ') → Go CLS SHX ad dA D p l e (rmD 1) s m args below meth c 5 (some (.int r)) μ' 56 lv [] μ := by
  intro μ lv hl0 hf
  unfold f_W_planned_B56 at hf
  refine g_aload_n C d_W_planned_56 rfl hl0 ?_
  refine g_getR (b := 1) (k := 0) C k_W (by decide) fl_W_10 rfl rfl d_W_planned_57 ?_
  refine g_iconst (v := 2) C d_W_planned_60 (by decide) ?_
  refine g_cvI C k_Ta rfl mv_Ta_found ml_W_75 d_W_planned_61 hf (fun r μ1 h => t_Ta_found C.2.2.2.2.2.2.2.2.1 h) rfl rfl (by decide) (Nat.le_of_ble_eq_true rfl) (fun r16 μ15 hf => ?_)
  exact g_iret C d_W_planned_64 hf
set_option maxHeartbeats 4000000 in
theorem t_W_planned {l : Launch} {ad : Nat → Nat} {dA : Nat → ClassId} {D : va_G} (hi : Inj SHX ad) {N : Nat} {a1 : Int32} {a2 : Int32} {a3 : Int32}  {μ μ' : Mm} {r : Int32} (hf : f_W_planned N a1 a2 a3 μ = some (r, μ')) : Ct CLS l SHX ad dA D y_W_planned c_W_planned 5 (some .int) 1 [.ref (ad 0), .int a1, .int a2, .int a3] μ (some (.int r)) μ' := by
  unfold f_W_planned at hf
  refine ct_of (by decide) hi (Nat.le_of_ble_eq_true rfl) ?_
  intro p e s m args below meth c C
  refine g_aload_n C d_W_planned_0 rfl rfl ?_
  refine g_getR (b := 11) (k := 3) C k_W (by decide) fl_W_35 rfl rfl d_W_planned_1 ?_
  refine g_iload_n C d_W_planned_4 rfl rfl ?_
  refine g_cvI C k_Cr rfl mv_Cr_has ml_W_163 d_W_planned_5 hf (fun r μ1 h => t_Cr_has C.2.2.2.2.2.2.2.2.1 h) rfl rfl (by decide) (Nat.le_of_ble_eq_true rfl) (fun r2 μ1 hf => ?_)
  refine g_if_ne (tgt := 13) C d_W_planned_8 (by decide) hf (fun c3 hf => ?_) (fun c3 hf => ?_)
  · refine g_iconst (v := -1) C d_W_planned_11 (by decide) ?_
    exact g_iret C d_W_planned_12 hf
  · refine g_aload_n C d_W_planned_13 rfl rfl ?_
    refine g_getR (b := 11) (k := 3) C k_W (by decide) fl_W_35 rfl rfl d_W_planned_14 ?_
    refine g_iload_n C d_W_planned_17 rfl rfl ?_
    refine g_cvI C k_Cr rfl mv_Cr_lacks ml_W_164 d_W_planned_18 hf (fun r μ1 h => t_Cr_lacks C.2.2.2.2.2.2.2.2.1 h) rfl rfl (by decide) (Nat.le_of_ble_eq_true rfl) (fun r5 μ4 hf => ?_)
    refine g_if_eq (tgt := 33) C d_W_planned_21 (by decide) hf (fun c6 hf => ?_) (fun c6 hf => ?_)
    · refine g_aload_n C d_W_planned_33 rfl rfl ?_
      refine g_getR (b := 11) (k := 3) C k_W (by decide) fl_W_35 rfl rfl d_W_planned_34 ?_
      refine g_iload_n C d_W_planned_37 rfl rfl ?_
      refine g_cvW C k_Cr rfl mv_Cr_get ml_W_187 d_W_planned_38 hf (fun r μ1 h => t_Cr_get C.2.2.2.2.2.2.2.2.1 h) rfl rfl (by decide) (Nat.le_of_ble_eq_true rfl) (fun r8 μ7 hf => ?_)
      obtain ⟨hw9, hf⟩ := chk8 hf
      refine g_astore C d_W_planned_41 (by decide) ?_
      refine g_iload_n C d_W_planned_43 rfl (upG rfl rfl) ?_
      refine g_if_lt (tgt := 56) C d_W_planned_44 (by decide) hf (fun c10 hf => ?_) (fun c10 hf => ?_)
      · exact t_W_planned_B56 C N _ _ ((upG rfl rfl)) hf
      · refine g_iload_n C d_W_planned_47 rfl (upG rfl rfl) ?_
        refine g_aload C d_W_planned_48 upS ?_
        refine g_getI (k := 8) C k_Wk (by decide) fl_W_204 (shW _ hw9) rfl d_W_planned_50 ?_
        refine g_icmp_lt (tgt := 65) C d_W_planned_53 (by decide) hf (fun c11 hf => ?_) (fun c11 hf => ?_)
        · refine g_iload_n C d_W_planned_65 rfl (upG rfl rfl) ?_
          refine g_if_eq (tgt := 79) C d_W_planned_66 (by decide) hf (fun c12 hf => ?_) (fun c12 hf => ?_)
          · refine g_aload C d_W_planned_79 upS ?_
            refine g_getR (b := WK _ + 1) (k := 9) C k_Wk (by decide) fl_W_211 (shW _ hw9) rfl d_W_planned_81 ?_
            refine g_iload_n C d_W_planned_84 rfl (upG rfl rfl) ?_
            refine g_iald C (shW1 _ hw9) d_W_planned_85 hf (fun hf => ?_)
            exact g_iret C d_W_planned_86 hf
          · refine g_aload C d_W_planned_69 upS ?_
            refine g_getR (b := WK _ + 2) (k := 10) C k_Wk (by decide) fl_W_207 (shW _ hw9) rfl d_W_planned_71 ?_
            refine g_iload_n C d_W_planned_74 rfl (upG rfl rfl) ?_
            refine g_iald C (shW2 _ hw9) d_W_planned_75 hf (fun hf => ?_)
            refine g_goto (tgt := 86) C d_W_planned_76 (by decide) ?_
            exact g_iret C d_W_planned_86 hf
        · exact t_W_planned_B56 C N _ _ ((upG rfl rfl)) hf
    · refine g_aload_n C d_W_planned_24 rfl rfl ?_
      refine g_getR (b := 1) (k := 0) C k_W (by decide) fl_W_10 rfl rfl d_W_planned_25 ?_
      refine g_iconst (v := 1) C d_W_planned_28 (by decide) ?_
      refine g_cvI C k_Ta rfl mv_Ta_found ml_W_75 d_W_planned_29 hf (fun r μ1 h => t_Ta_found C.2.2.2.2.2.2.2.2.1 h) rfl rfl (by decide) (Nat.le_of_ble_eq_true rfl) (fun r14 μ13 hf => ?_)
      exact g_iret C d_W_planned_32 hf
set_option maxHeartbeats 4000000 in
theorem t_W_fit {l : Launch} {ad : Nat → Nat} {dA : Nat → ClassId} {D : va_G} (hi : Inj SHX ad) {N : Nat} {a1 : Int32}  {μ μ' : Mm} {r : Int32} (hf : f_W_fit N a1 μ = some (r, μ')) : Ct CLS l SHX ad dA D y_W_fit c_W_fit 2 (some .int) 3 [.ref (ad 0), .int a1] μ (some (.int r)) μ' := by
  unfold f_W_fit at hf
  refine ct_of (by decide) hi (Nat.le_of_ble_eq_true rfl) ?_
  intro p e s m args below meth c C
  refine g_aload_n C d_W_fit_0 rfl rfl ?_
  refine g_getR (b := 11) (k := 3) C k_W (by decide) fl_W_35 rfl rfl d_W_fit_1 ?_
  refine g_iload_n C d_W_fit_4 rfl rfl ?_
  refine g_cvI C k_Cr rfl mv_Cr_has ml_W_163 d_W_fit_5 hf (fun r μ1 h => t_Cr_has C.2.2.2.2.2.2.2.2.1 h) rfl rfl (by decide) (Nat.le_of_ble_eq_true rfl) (fun r2 μ1 hf => ?_)
  refine g_if_ne (tgt := 13) C d_W_fit_8 (by decide) hf (fun c3 hf => ?_) (fun c3 hf => ?_)
  · refine g_iconst (v := -1) C d_W_fit_11 (by decide) ?_
    exact g_iret C d_W_fit_12 hf
  · refine g_aload_n C d_W_fit_13 rfl rfl ?_
    refine g_getR (b := 11) (k := 3) C k_W (by decide) fl_W_35 rfl rfl d_W_fit_14 ?_
    refine g_iload_n C d_W_fit_17 rfl rfl ?_
    refine g_cvI C k_Cr rfl mv_Cr_lacks ml_W_164 d_W_fit_18 hf (fun r μ1 h => t_Cr_lacks C.2.2.2.2.2.2.2.2.1 h) rfl rfl (by decide) (Nat.le_of_ble_eq_true rfl) (fun r5 μ4 hf => ?_)
    refine g_if_eq (tgt := 33) C d_W_fit_21 (by decide) hf (fun c6 hf => ?_) (fun c6 hf => ?_)
    · refine g_aload_n C d_W_fit_33 rfl rfl ?_
      refine g_getR (b := 11) (k := 3) C k_W (by decide) fl_W_35 rfl rfl d_W_fit_34 ?_
      refine g_iload_n C d_W_fit_37 rfl rfl ?_
      refine g_cvW C k_Cr rfl mv_Cr_get ml_W_187 d_W_fit_38 hf (fun r μ1 h => t_Cr_get C.2.2.2.2.2.2.2.2.1 h) rfl rfl (by decide) (Nat.le_of_ble_eq_true rfl) (fun r8 μ7 hf => ?_)
      obtain ⟨hw9, hf⟩ := chk8 hf
      refine g_aload_n C d_W_fit_41 rfl rfl ?_
      refine g_getR (b := 6) (k := 2) C k_W (by decide) fl_W_26 rfl rfl d_W_fit_42 ?_
      refine g_cvI C k_Wk (shW _ hw9) mv_Wk_faultOn ml_W_213 d_W_fit_45 hf (fun r μ1 h => t_Wk_faultOn C.2.2.2.2.2.2.2.2.1 hw9 h) rfl rfl (by decide) (Nat.le_of_ble_eq_true rfl) (fun r11 μ10 hf => ?_)
      exact g_iret C d_W_fit_48 hf
    · refine g_aload_n C d_W_fit_24 rfl rfl ?_
      refine g_getR (b := 1) (k := 0) C k_W (by decide) fl_W_10 rfl rfl d_W_fit_25 ?_
      refine g_iconst (v := 1) C d_W_fit_28 (by decide) ?_
      refine g_cvI C k_Ta rfl mv_Ta_found ml_W_75 d_W_fit_29 hf (fun r μ1 h => t_Ta_found C.2.2.2.2.2.2.2.2.1 h) rfl rfl (by decide) (Nat.le_of_ble_eq_true rfl) (fun r13 μ12 hf => ?_)
      exact g_iret C d_W_fit_32 hf
set_option maxHeartbeats 4000000 in
theorem t_W_isTime {l : Launch} {ad : Nat → Nat} {dA : Nat → ClassId} {D : va_G} (hi : Inj SHX ad) {N : Nat} {a1 : Int32}  {μ μ' : Mm} {r : Int32} (hf : f_W_isTime N a1 μ = some (r, μ')) : Ct CLS l SHX ad dA D y_W_isTime c_W_isTime 1 (some .boolean) 0 [.int a1] μ (some (.int r)) μ' := by
  unfold f_W_isTime at hf
  refine ct_of (by decide) hi (Nat.le_of_ble_eq_true rfl) ?_
  intro p e s m args below meth c C
  refine g_iload_n C d_W_isTime_0 rfl rfl ?_
  refine g_if_lt (tgt := 15) C d_W_isTime_1 (by decide) hf (fun c1 hf => ?_) (fun c1 hf => ?_)
  · refine g_iconst (v := 0) C d_W_isTime_15 (by decide) ?_
    exact g_zretc C d_W_isTime_16 rfl hf
  · refine g_iload_n C d_W_isTime_4 rfl rfl ?_
    refine g_ldcw C ck_W_383 d_W_isTime_5 ?_
    refine g_icmp_gt (tgt := 15) C d_W_isTime_8 (by decide) hf (fun c2 hf => ?_) (fun c2 hf => ?_)
    · refine g_iconst (v := 0) C d_W_isTime_15 (by decide) ?_
      exact g_zretc C d_W_isTime_16 rfl hf
    · refine g_iconst (v := 1) C d_W_isTime_11 (by decide) ?_
      refine g_goto (tgt := 16) C d_W_isTime_12 (by decide) ?_
      exact g_zretc C d_W_isTime_16 rfl hf
set_option maxHeartbeats 4000000 in
theorem t_W_where {l : Launch} {ad : Nat → Nat} {dA : Nat → ClassId} {D : va_G} (hi : Inj SHX ad) {N : Nat} {a1 : Int32} {a2 : Int32} {a3 : Int32}  {μ μ' : Mm} {r : Int32} (hf : f_W_where N a1 a2 a3 μ = some (r, μ')) : Ct CLS l SHX ad dA D y_W_where c_W_where 4 (some .int) 5 [.ref (ad 0), .int a1, .int a2, .int a3] μ (some (.int r)) μ' := by
  unfold f_W_where at hf
  refine ct_of (by decide) hi (Nat.le_of_ble_eq_true rfl) ?_
  intro p e s m args below meth c C
  refine g_aload_n C d_W_where_0 rfl rfl ?_
  refine g_getR (b := 11) (k := 3) C k_W (by decide) fl_W_35 rfl rfl d_W_where_1 ?_
  refine g_iload_n C d_W_where_4 rfl rfl ?_
  refine g_cvI C k_Cr rfl mv_Cr_has ml_W_163 d_W_where_5 hf (fun r μ1 h => t_Cr_has C.2.2.2.2.2.2.2.2.1 h) rfl rfl (by decide) (Nat.le_of_ble_eq_true rfl) (fun r2 μ1 hf => ?_)
  refine g_if_eq (tgt := 27) C d_W_where_8 (by decide) hf (fun c3 hf => ?_) (fun c3 hf => ?_)
  · refine g_iconst (v := -1) C d_W_where_27 (by decide) ?_
    exact g_iret C d_W_where_28 hf
  · refine g_iload_n C d_W_where_11 rfl rfl ?_
    refine g_csI C mv_W_isTime ml_W_217 d_W_where_12 hf (fun r μ1 h => t_W_isTime C.2.2.2.2.2.2.2.2.1 h) rfl rfl (by decide) (Nat.le_of_ble_eq_true rfl) (fun r5 μ4 hf => ?_)
    refine g_if_eq (tgt := 27) C d_W_where_15 (by decide) hf (fun c6 hf => ?_) (fun c6 hf => ?_)
    · refine g_iconst (v := -1) C d_W_where_27 (by decide) ?_
      exact g_iret C d_W_where_28 hf
    · refine g_iload_n C d_W_where_18 rfl rfl ?_
      refine g_if_lt (tgt := 27) C d_W_where_19 (by decide) hf (fun c7 hf => ?_) (fun c7 hf => ?_)
      · refine g_iconst (v := -1) C d_W_where_27 (by decide) ?_
        exact g_iret C d_W_where_28 hf
      · refine g_iload_n C d_W_where_22 rfl rfl ?_
        refine g_iconst (v := 2) C d_W_where_23 (by decide) ?_
        refine g_icmp_le (tgt := 29) C d_W_where_24 (by decide) hf (fun c8 hf => ?_) (fun c8 hf => ?_)
        · refine g_aload_n C d_W_where_29 rfl rfl ?_
          refine g_getR (b := 11) (k := 3) C k_W (by decide) fl_W_35 rfl rfl d_W_where_30 ?_
          refine g_iload_n C d_W_where_33 rfl rfl ?_
          refine g_cvI C k_Cr rfl mv_Cr_lacks ml_W_164 d_W_where_34 hf (fun r μ1 h => t_Cr_lacks C.2.2.2.2.2.2.2.2.1 h) rfl rfl (by decide) (Nat.le_of_ble_eq_true rfl) (fun r10 μ9 hf => ?_)
          refine g_if_eq (tgt := 49) C d_W_where_37 (by decide) hf (fun c11 hf => ?_) (fun c11 hf => ?_)
          · refine g_aload_n C d_W_where_49 rfl rfl ?_
            refine g_getR (b := 11) (k := 3) C k_W (by decide) fl_W_35 rfl rfl d_W_where_50 ?_
            refine g_cvV C k_Cr rfl mv_Cr_refresh ml_W_181 d_W_where_53 hf (fun μ1 h => t_Cr_refresh C.2.2.2.2.2.2.2.2.1 h) rfl rfl (by decide) (Nat.le_of_ble_eq_true rfl) (fun μ12 hf => ?_)
            refine g_aload_n C d_W_where_56 rfl rfl ?_
            refine g_getR (b := 11) (k := 3) C k_W (by decide) fl_W_35 rfl rfl d_W_where_57 ?_
            refine g_iload_n C d_W_where_60 rfl rfl ?_
            refine g_cvI C k_Cr rfl mv_Cr_goes ml_W_220 d_W_where_61 hf (fun r μ1 h => t_Cr_goes C.2.2.2.2.2.2.2.2.1 h) rfl rfl (by decide) (Nat.le_of_ble_eq_true rfl) (fun r14 μ13 hf => ?_)
            refine g_if_ne (tgt := 70) C d_W_where_64 (by decide) hf (fun c15 hf => ?_) (fun c15 hf => ?_)
            · refine g_bipush (v := -4) C d_W_where_67 (by decide) ?_
              exact g_iret C d_W_where_69 hf
            · refine g_aload_n C d_W_where_70 rfl rfl ?_
              refine g_getR (b := 11) (k := 3) C k_W (by decide) fl_W_35 rfl rfl d_W_where_71 ?_
              refine g_iload_n C d_W_where_74 rfl rfl ?_
              refine g_cvW C k_Cr rfl mv_Cr_get ml_W_187 d_W_where_75 hf (fun r μ1 h => t_Cr_get C.2.2.2.2.2.2.2.2.1 h) rfl rfl (by decide) (Nat.le_of_ble_eq_true rfl) (fun r17 μ16 hf => ?_)
              obtain ⟨hw18, hf⟩ := chk8 hf
              refine g_iload_n C d_W_where_78 rfl rfl ?_
              refine g_iload_n C d_W_where_79 rfl rfl ?_
              refine g_cvI C k_Wk (shW _ hw18) mv_Wk_placeAt ml_W_223 d_W_where_80 hf (fun r μ1 h => t_Wk_placeAt C.2.2.2.2.2.2.2.2.1 hw18 h) rfl rfl (by decide) (Nat.le_of_ble_eq_true rfl) (fun r20 μ19 hf => ?_)
              exact g_iret C d_W_where_83 hf
          · refine g_aload_n C d_W_where_40 rfl rfl ?_
            refine g_getR (b := 1) (k := 0) C k_W (by decide) fl_W_10 rfl rfl d_W_where_41 ?_
            refine g_iconst (v := 1) C d_W_where_44 (by decide) ?_
            refine g_cvI C k_Ta rfl mv_Ta_found ml_W_75 d_W_where_45 hf (fun r μ1 h => t_Ta_found C.2.2.2.2.2.2.2.2.1 h) rfl rfl (by decide) (Nat.le_of_ble_eq_true rfl) (fun r22 μ21 hf => ?_)
            exact g_iret C d_W_where_48 hf
        · refine g_iconst (v := -1) C d_W_where_27 (by decide) ?_
          exact g_iret C d_W_where_28 hf
set_option maxHeartbeats 4000000 in
theorem t_W_joint {l : Launch} {ad : Nat → Nat} {dA : Nat → ClassId} {D : va_G} (hi : Inj SHX ad) {N : Nat}   {μ μ' : Mm} {r : Int32} (hf : f_W_joint N  μ = some (r, μ')) : Ct CLS l SHX ad dA D y_W_joint c_W_joint 1 (some .int) 5 [.ref (ad 0)] μ (some (.int r)) μ' := by
  unfold f_W_joint at hf
  refine ct_of (by decide) hi (Nat.le_of_ble_eq_true rfl) ?_
  intro p e s m args below meth c C
  refine g_aload_n C d_W_joint_0 rfl rfl ?_
  refine g_getR (b := 11) (k := 3) C k_W (by decide) fl_W_35 rfl rfl d_W_joint_1 ?_
  refine g_cvV C k_Cr rfl mv_Cr_refresh ml_W_181 d_W_joint_4 hf (fun μ1 h => t_Cr_refresh C.2.2.2.2.2.2.2.2.1 h) rfl rfl (by decide) (Nat.le_of_ble_eq_true rfl) (fun μ1 hf => ?_)
  refine g_aload_n C d_W_joint_7 rfl rfl ?_
  refine g_getR (b := 11) (k := 3) C k_W (by decide) fl_W_35 rfl rfl d_W_joint_8 ?_
  refine g_aload_n C d_W_joint_11 rfl rfl ?_
  refine g_getR (b := 11) (k := 3) C k_W (by decide) fl_W_35 rfl rfl d_W_joint_12 ?_
  refine g_getI (k := 2) C k_Cr (by decide) fl_W_226 rfl rfl d_W_joint_15 ?_
  refine g_cvI C k_Cr rfl mv_Cr_jointOf ml_W_229 d_W_joint_18 hf (fun r μ1 h => t_Cr_jointOf C.2.2.2.2.2.2.2.2.1 h) rfl rfl (by decide) (Nat.le_of_ble_eq_true rfl) (fun r3 μ2 hf => ?_)
  exact g_iret C d_W_joint_21 hf
set_option maxHeartbeats 4000000 in
theorem t_Ji_bitCount_0f7a4 {CL : List vw_C} {SH : List Shp} {l : Launch} {ad : Nat → Nat} {dA : Nat → ClassId} {D : va_G} (hi : Inj SH ad) {N : Nat} {a1 : Int32}  {μ μ' : Mm} {r : Int32} (hf : f_Ji_bitCount_0f7a4 N a1 μ = some (r, μ')) : Ct CL l SH ad dA D y_Ji_bitCount_0f7a4 c_Ji_bitCount_0f7a4 1 (some .int) 0 [.int a1] μ (some (.int r)) μ' := by
  unfold f_Ji_bitCount_0f7a4 at hf
  refine ct_of (by decide) hi (Nat.le_of_ble_eq_true rfl) ?_
  intro p e s m args below meth c C
  refine g_iload_n C d_Ji_bitCount_0f7a4_0 rfl rfl ?_
  refine g_iload_n C d_Ji_bitCount_0f7a4_1 rfl rfl ?_
  refine g_iconst (v := 1) C d_Ji_bitCount_0f7a4_2 (by decide) ?_
  refine g_iushr C d_Ji_bitCount_0f7a4_3 ?_
  refine g_ldcw C ck_Ji_265 d_Ji_bitCount_0f7a4_4 ?_
  refine g_iand C d_Ji_bitCount_0f7a4_7 ?_
  refine g_isub C d_Ji_bitCount_0f7a4_8 ?_
  refine g_istore_n C d_Ji_bitCount_0f7a4_9 rfl (by decide) ?_
  refine g_iload_n C d_Ji_bitCount_0f7a4_10 rfl upS ?_
  refine g_ldcw C ck_Ji_266 d_Ji_bitCount_0f7a4_11 ?_
  refine g_iand C d_Ji_bitCount_0f7a4_14 ?_
  refine g_iload_n C d_Ji_bitCount_0f7a4_15 rfl upS ?_
  refine g_iconst (v := 2) C d_Ji_bitCount_0f7a4_16 (by decide) ?_
  refine g_iushr C d_Ji_bitCount_0f7a4_17 ?_
  refine g_ldcw C ck_Ji_266 d_Ji_bitCount_0f7a4_18 ?_
  refine g_iand C d_Ji_bitCount_0f7a4_21 ?_
  refine g_iadd C d_Ji_bitCount_0f7a4_22 ?_
  refine g_istore_n C d_Ji_bitCount_0f7a4_23 rfl (by decide) ?_
  refine g_iload_n C d_Ji_bitCount_0f7a4_24 rfl upS ?_
  refine g_iload_n C d_Ji_bitCount_0f7a4_25 rfl upS ?_
  refine g_iconst (v := 4) C d_Ji_bitCount_0f7a4_26 (by decide) ?_
  refine g_iushr C d_Ji_bitCount_0f7a4_27 ?_
  refine g_iadd C d_Ji_bitCount_0f7a4_28 ?_
  refine g_ldcw C ck_Ji_267 d_Ji_bitCount_0f7a4_29 ?_
  refine g_iand C d_Ji_bitCount_0f7a4_32 ?_
  refine g_istore_n C d_Ji_bitCount_0f7a4_33 rfl (by decide) ?_
  refine g_iload_n C d_Ji_bitCount_0f7a4_34 rfl upS ?_
  refine g_iload_n C d_Ji_bitCount_0f7a4_35 rfl upS ?_
  refine g_bipush (v := 8) C d_Ji_bitCount_0f7a4_36 (by decide) ?_
  refine g_iushr C d_Ji_bitCount_0f7a4_38 ?_
  refine g_iadd C d_Ji_bitCount_0f7a4_39 ?_
  refine g_istore_n C d_Ji_bitCount_0f7a4_40 rfl (by decide) ?_
  refine g_iload_n C d_Ji_bitCount_0f7a4_41 rfl upS ?_
  refine g_iload_n C d_Ji_bitCount_0f7a4_42 rfl upS ?_
  refine g_bipush (v := 16) C d_Ji_bitCount_0f7a4_43 (by decide) ?_
  refine g_iushr C d_Ji_bitCount_0f7a4_45 ?_
  refine g_iadd C d_Ji_bitCount_0f7a4_46 ?_
  refine g_istore_n C d_Ji_bitCount_0f7a4_47 rfl (by decide) ?_
  refine g_iload_n C d_Ji_bitCount_0f7a4_48 rfl upS ?_
  refine g_bipush (v := 63) C d_Ji_bitCount_0f7a4_49 (by decide) ?_
  refine g_iand C d_Ji_bitCount_0f7a4_51 ?_
  exact g_iret C d_Ji_bitCount_0f7a4_52 hf
set_option maxHeartbeats 4000000 in
theorem t_W_seen {l : Launch} {ad : Nat → Nat} {dA : Nat → ClassId} {D : va_G} (hi : Inj SHX ad) {N : Nat} {a1 : Int32}  {μ μ' : Mm} {r : Int32} (hf : f_W_seen N a1 μ = some (r, μ')) : Ct CLS l SHX ad dA D y_W_seen c_W_seen 2 (some .int) 6 [.ref (ad 0), .int a1] μ (some (.int r)) μ' := by
  unfold f_W_seen at hf
  refine ct_of (by decide) hi (Nat.le_of_ble_eq_true rfl) ?_
  intro p e s m args below meth c C
  refine g_iload_n C d_W_seen_0 rfl rfl ?_
  refine g_csI C mv_W_isTime ml_W_217 d_W_seen_1 hf (fun r μ1 h => t_W_isTime C.2.2.2.2.2.2.2.2.1 h) rfl rfl (by decide) (Nat.le_of_ble_eq_true rfl) (fun r2 μ1 hf => ?_)
  refine g_if_ne (tgt := 9) C d_W_seen_4 (by decide) hf (fun c3 hf => ?_) (fun c3 hf => ?_)
  · refine g_iconst (v := -1) C d_W_seen_7 (by decide) ?_
    exact g_iret C d_W_seen_8 hf
  · refine g_aload_n C d_W_seen_9 rfl rfl ?_
    refine g_cvI C k_W rfl mv_W_joint ml_W_232 d_W_seen_10 hf (fun r μ1 h => t_W_joint C.2.2.2.2.2.2.2.2.1 h) rfl rfl (by decide) (Nat.le_of_ble_eq_true rfl) (fun r5 μ4 hf => ?_)
    refine g_iconst (v := 1) C d_W_seen_13 (by decide) ?_
    refine g_icmp_ge (tgt := 20) C d_W_seen_14 (by decide) hf (fun c6 hf => ?_) (fun c6 hf => ?_)
    · refine g_aload_n C d_W_seen_20 rfl rfl ?_
      refine g_getR (b := 1) (k := 0) C k_W (by decide) fl_W_10 rfl rfl d_W_seen_21 ?_
      refine g_aload_n C d_W_seen_24 rfl rfl ?_
      refine g_getR (b := 11) (k := 3) C k_W (by decide) fl_W_35 rfl rfl d_W_seen_25 ?_
      refine g_iload_n C d_W_seen_28 rfl rfl ?_
      refine g_cvI C k_Cr rfl mv_Cr_seenAt ml_W_236 d_W_seen_29 hf (fun r μ1 h => t_Cr_seenAt C.2.2.2.2.2.2.2.2.1 h) rfl rfl (by decide) (Nat.le_of_ble_eq_true rfl) (fun r8 μ7 hf => ?_)
      refine g_putI (k := 2) C k_Ta (by decide) fl_W_239 rfl rfl rfl rfl d_W_seen_32 ?_
      refine g_aload_n C d_W_seen_35 rfl rfl ?_
      refine g_getR (b := 1) (k := 0) C k_W (by decide) fl_W_10 rfl rfl d_W_seen_36 ?_
      refine g_getI (k := 2) C k_Ta (by decide) fl_W_239 rfl rfl d_W_seen_39 ?_
      refine g_csI C mv_Ji_bitCount_0f7a4 ml_W_242 d_W_seen_42 hf (fun r μ1 h => t_Ji_bitCount_0f7a4 C.2.2.2.2.2.2.2.2.1 h) rfl rfl (by decide) (Nat.le_of_ble_eq_true rfl) (fun r11 μ10 hf => ?_)
      exact g_iret C d_W_seen_45 hf
    · refine g_bipush (v := -6) C d_W_seen_17 (by decide) ?_
      exact g_iret C d_W_seen_19 hf
