set_option maxHeartbeats 4000000 in
theorem t_M_walker_B154 {ad : Nat → Nat} {dA : Nat → ClassId} {D : va_G} {p : Program} {l : Launch} {e : Env} {s : State} {m : MethodId} {args : Array Value} {below : List Frame} {meth : Method} {c : Code} {r : Int32} {μ' : Mm} (C : Cx CLS SHM ad dA D p s m args meth c c_M_walker 6 R_M (some .int)) (N : Nat)   : ∀ (v5 : Int32) (s1 : Int32) (s2 : Int32) (μ : Mm) (lv : Nat → Option Value), lv 0 = some (.ref (ad 0)) → lv 5 = some (.int v5) → f_M_walker_B154 N v5 s1 s2 μ = some (r, μ') → Go CLS SHM ad dA D p l e (rmD 2) s m args below meth c 6 (some (.int r)) μ' 154 lv [.int s2, .int s1, .ref (ad 13)] μ := by
  intro v5 s1 s2 μ lv hl0 hl5 hf
  unfold f_M_walker_B154 at hf
  refine g_iast C rfl d_M_walker_154 hf (fun hf => ?_)
  refine g_aload_n C d_M_walker_155 rfl hl0 ?_
  refine g_getR (b := 14) (k := 20) C k_M (by decide) fl_M_51 rfl rfl d_M_walker_156 ?_
  refine g_iload C d_M_walker_159 hl5 ?_
  refine g_iconst (v := 0) C d_M_walker_161 (by decide) ?_
  refine g_iast C rfl d_M_walker_162 hf (fun hf => ?_)
  refine g_aload_n C d_M_walker_163 rfl hl0 ?_
  refine g_getR (b := 15) (k := 21) C k_M (by decide) fl_M_54 rfl rfl d_M_walker_164 ?_
  refine g_iload C d_M_walker_167 hl5 ?_
  refine g_iconst (v := 0) C d_M_walker_169 (by decide) ?_
  refine g_zast C rfl d_M_walker_170 hf (fun hf => ?_)
  refine g_aload_n C d_M_walker_171 rfl hl0 ?_
  refine g_getR (b := 16) (k := 22) C k_M (by decide) fl_M_57 rfl rfl d_M_walker_172 ?_
  refine g_iload C d_M_walker_175 hl5 ?_
  refine g_iconst (v := 0) C d_M_walker_177 (by decide) ?_
  refine g_zast C rfl d_M_walker_178 hf (fun hf => ?_)
  refine g_aload_n C d_M_walker_179 rfl hl0 ?_
  refine g_getR (b := 17) (k := 23) C k_M (by decide) fl_M_60 rfl rfl d_M_walker_180 ?_
  refine g_iload C d_M_walker_183 hl5 ?_
  refine g_iconst (v := 0) C d_M_walker_185 (by decide) ?_
  refine g_iast C rfl d_M_walker_186 hf (fun hf => ?_)
  refine g_aload_n C d_M_walker_187 rfl hl0 ?_
  refine g_getR (b := 20) (k := 26) C k_M (by decide) fl_M_69 rfl rfl d_M_walker_188 ?_
  refine g_iload C d_M_walker_191 hl5 ?_
  refine g_bipush (v := -9) C d_M_walker_193 (by decide) ?_
  refine g_iast C rfl d_M_walker_195 hf (fun hf => ?_)
  refine g_aload_n C d_M_walker_196 rfl hl0 ?_
  refine g_dup C d_M_walker_197 rfl ?_
  refine g_getI (k := 15) C k_M (by decide) fl_M_162 rfl rfl d_M_walker_198 ?_
  refine g_iconst (v := 1) C d_M_walker_201 (by decide) ?_
  refine g_iadd C d_M_walker_202 ?_
  refine g_putI (k := 15) C k_M (by decide) fl_M_162 rfl rfl rfl rfl d_M_walker_203 ?_
  refine g_iload C d_M_walker_206 hl5 ?_
  exact g_iret C d_M_walker_208 hf
set_option maxHeartbeats 4000000 in
theorem t_M_walker_B136 {ad : Nat → Nat} {dA : Nat → ClassId} {D : va_G} {p : Program} {l : Launch} {e : Env} {s : State} {m : MethodId} {args : Array Value} {below : List Frame} {meth : Method} {c : Code} {r : Int32} {μ' : Mm} (C : Cx CLS SHM ad dA D p s m args meth c c_M_walker 6 R_M (some .int)) (N : Nat)   : ∀ (v1 : Int32) (v2 : Int32) (v5 : Int32) (s1 : Int32) (s2 : Int32) (μ : Mm) (lv : Nat → Option Value), lv 0 = some (.ref (ad 0)) → lv 1 = some (.int v1) → lv 2 = some (.int v2) → lv 5 = some (.int v5) → f_M_walker_B136 N v1 v2 v5 s1 s2 μ = some (r, μ') → Go CLS SHM ad dA D p l e (rmD 2) s m args below meth c 6 (some (.int r)) μ' 136 lv [.int s2, .int s1, .ref (ad 12)] μ := by
  intro v1 v2 v5 s1 s2 μ lv hl0 hl1 hl2 hl5 hf
  unfold f_M_walker_B136 at hf
  refine g_iast C rfl d_M_walker_136 hf (fun hf => ?_)
  refine g_aload_n C d_M_walker_137 rfl hl0 ?_
  refine g_getR (b := 13) (k := 19) C k_M (by decide) fl_M_48 rfl rfl d_M_walker_138 ?_
  refine g_iload C d_M_walker_141 hl5 ?_
  refine g_iload_n C d_M_walker_143 rfl hl1 ?_
  refine g_iconst (v := 3) C d_M_walker_144 (by decide) ?_
  refine g_icmp_ne (tgt := 152) C d_M_walker_145 (by decide) hf (fun c26 hf => ?_) (fun c26 hf => ?_)
  · refine g_iload_n C d_M_walker_148 rfl hl2 ?_
    refine g_goto (tgt := 154) C d_M_walker_149 (by decide) ?_
    exact t_M_walker_B154 C N _ _ _ _ _ hl0 hl5 hf
  · refine g_bipush (v := -9) C d_M_walker_152 (by decide) ?_
    exact t_M_walker_B154 C N _ _ _ _ _ hl0 hl5 hf
set_option maxHeartbeats 4000000 in
theorem t_M_walker_B119 {ad : Nat → Nat} {dA : Nat → ClassId} {D : va_G} {p : Program} {l : Launch} {e : Env} {s : State} {m : MethodId} {args : Array Value} {below : List Frame} {meth : Method} {c : Code} {r : Int32} {μ' : Mm} (C : Cx CLS SHM ad dA D p s m args meth c c_M_walker 6 R_M (some .int)) (N : Nat)   : ∀ (v1 : Int32) (v2 : Int32) (v3 : Int32) (v5 : Int32) (s1 : Int32) (s2 : Int32) (μ : Mm) (lv : Nat → Option Value), lv 0 = some (.ref (ad 0)) → lv 1 = some (.int v1) → lv 2 = some (.int v2) → lv 3 = some (.int v3) → lv 5 = some (.int v5) → f_M_walker_B119 N v1 v2 v3 v5 s1 s2 μ = some (r, μ') → Go CLS SHM ad dA D p l e (rmD 2) s m args below meth c 6 (some (.int r)) μ' 119 lv [.int s2, .int s1, .ref (ad 11)] μ := by
  intro v1 v2 v3 v5 s1 s2 μ lv hl0 hl1 hl2 hl3 hl5 hf
  unfold f_M_walker_B119 at hf
  refine g_iast C rfl d_M_walker_119 hf (fun hf => ?_)
  refine g_aload_n C d_M_walker_120 rfl hl0 ?_
  refine g_getR (b := 12) (k := 18) C k_M (by decide) fl_M_45 rfl rfl d_M_walker_121 ?_
  refine g_iload C d_M_walker_124 hl5 ?_
  refine g_iload_n C d_M_walker_126 rfl hl1 ?_
  refine g_iconst (v := 2) C d_M_walker_127 (by decide) ?_
  refine g_icmp_ne (tgt := 135) C d_M_walker_128 (by decide) hf (fun c24 hf => ?_) (fun c24 hf => ?_)
  · refine g_iload_n C d_M_walker_131 rfl hl3 ?_
    refine g_goto (tgt := 136) C d_M_walker_132 (by decide) ?_
    exact t_M_walker_B136 C N _ _ _ _ _ _ _ hl0 hl1 hl2 hl5 hf
  · refine g_iconst (v := 0) C d_M_walker_135 (by decide) ?_
    exact t_M_walker_B136 C N _ _ _ _ _ _ _ hl0 hl1 hl2 hl5 hf
set_option maxHeartbeats 4000000 in
theorem t_M_walker_B114 {ad : Nat → Nat} {dA : Nat → ClassId} {D : va_G} {p : Program} {l : Launch} {e : Env} {s : State} {m : MethodId} {args : Array Value} {below : List Frame} {meth : Method} {c : Code} {r : Int32} {μ' : Mm} (C : Cx CLS SHM ad dA D p s m args meth c c_M_walker 6 R_M (some .int)) (N : Nat)   : ∀ (v1 : Int32) (v2 : Int32) (v3 : Int32) (v5 : Int32) (s1 : Int32) (μ : Mm) (lv : Nat → Option Value), lv 0 = some (.ref (ad 0)) → lv 1 = some (.int v1) → lv 2 = some (.int v2) → lv 3 = some (.int v3) → lv 5 = some (.int v5) → f_M_walker_B114 N v1 v2 v3 v5 s1 μ = some (r, μ') → Go CLS SHM ad dA D p l e (rmD 2) s m args below meth c 6 (some (.int r)) μ' 114 lv [.int s1, .ref (ad 11)] μ := by
  intro v1 v2 v3 v5 s1 μ lv hl0 hl1 hl2 hl3 hl5 hf
  unfold f_M_walker_B114 at hf
  refine g_iload_n C d_M_walker_114 rfl hl2 ?_
  refine g_goto (tgt := 119) C d_M_walker_115 (by decide) ?_
  exact t_M_walker_B119 C N _ _ _ _ _ _ _ _ hl0 hl1 hl2 hl3 hl5 hf
set_option maxHeartbeats 4000000 in
theorem t_M_walker_B63 {ad : Nat → Nat} {dA : Nat → ClassId} {D : va_G} {p : Program} {l : Launch} {e : Env} {s : State} {m : MethodId} {args : Array Value} {below : List Frame} {meth : Method} {c : Code} {r : Int32} {μ' : Mm} (C : Cx CLS SHM ad dA D p s m args meth c c_M_walker 6 R_M (some .int)) (N : Nat)   : ∀ (v1 : Int32) (v2 : Int32) (v3 : Int32) (s0 : Int32) (μ : Mm) (lv : Nat → Option Value), lv 0 = some (.ref (ad 0)) → lv 1 = some (.int v1) → lv 2 = some (.int v2) → lv 3 = some (.int v3) → f_M_walker_B63 N v1 v2 v3 s0 μ = some (r, μ') → Go CLS SHM ad dA D p l e (rmD 2) s m args below meth c 6 (some (.int r)) μ' 63 lv [.int s0] μ := by
  intro v1 v2 v3 s0 μ lv hl0 hl1 hl2 hl3 hf
  unfold f_M_walker_B63 at hf
  refine g_istore C d_M_walker_63 (by decide) ?_
  refine g_iload C d_M_walker_65 upS ?_
  refine g_if_ne (tgt := 72) C d_M_walker_67 (by decide) hf (fun c17 hf => ?_) (fun c17 hf => ?_)
  · refine g_iconst (v := -1) C d_M_walker_70 (by decide) ?_
    exact g_iret C d_M_walker_71 hf
  · refine g_aload_n C d_M_walker_72 rfl (upG hl0 rfl) ?_
    refine g_getI (k := 15) C k_M (by decide) fl_M_162 rfl rfl d_M_walker_73 ?_
    refine g_bipush (v := 8) C d_M_walker_76 (by decide) ?_
    refine g_icmp_ne (tgt := 84) C d_M_walker_78 (by decide) hf (fun c18 hf => ?_) (fun c18 hf => ?_)
    · refine g_bipush (v := -2) C d_M_walker_81 (by decide) ?_
      exact g_iret C d_M_walker_83 hf
    · refine g_aload_n C d_M_walker_84 rfl (upG hl0 rfl) ?_
      refine g_getI (k := 15) C k_M (by decide) fl_M_162 rfl rfl d_M_walker_85 ?_
      refine g_istore C d_M_walker_88 (by decide) ?_
      refine g_aload_n C d_M_walker_90 rfl (upG (upG hl0 rfl) rfl) ?_
      refine g_getR (b := 10) (k := 16) C k_M (by decide) fl_M_39 rfl rfl d_M_walker_91 ?_
      refine g_iload C d_M_walker_94 upS ?_
      refine g_iload_n C d_M_walker_96 rfl (upG (upG hl1 rfl) rfl) ?_
      refine g_iast C rfl d_M_walker_97 hf (fun hf => ?_)
      refine g_aload_n C d_M_walker_98 rfl (upG (upG hl0 rfl) rfl) ?_
      refine g_getR (b := 11) (k := 17) C k_M (by decide) fl_M_42 rfl rfl d_M_walker_99 ?_
      refine g_iload C d_M_walker_102 upS ?_
      refine g_iload_n C d_M_walker_104 rfl (upG (upG hl1 rfl) rfl) ?_
      refine g_iconst (v := 1) C d_M_walker_105 (by decide) ?_
      refine g_icmp_eq (tgt := 114) C d_M_walker_106 (by decide) hf (fun c21 hf => ?_) (fun c21 hf => ?_)
      · exact t_M_walker_B114 C N _ _ _ _ _ _ _ ((upG (upG hl0 rfl) rfl)) ((upG (upG hl1 rfl) rfl)) ((upG (upG hl2 rfl) rfl)) ((upG (upG hl3 rfl) rfl)) upS hf
      · refine g_iload_n C d_M_walker_109 rfl (upG (upG hl1 rfl) rfl) ?_
        refine g_iconst (v := 2) C d_M_walker_110 (by decide) ?_
        refine g_icmp_ne (tgt := 118) C d_M_walker_111 (by decide) hf (fun c22 hf => ?_) (fun c22 hf => ?_)
        · exact t_M_walker_B114 C N _ _ _ _ _ _ _ ((upG (upG hl0 rfl) rfl)) ((upG (upG hl1 rfl) rfl)) ((upG (upG hl2 rfl) rfl)) ((upG (upG hl3 rfl) rfl)) upS hf
        · refine g_iconst (v := 1) C d_M_walker_118 (by decide) ?_
          exact t_M_walker_B119 C N _ _ _ _ _ _ _ _ ((upG (upG hl0 rfl) rfl)) ((upG (upG hl1 rfl) rfl)) ((upG (upG hl2 rfl) rfl)) ((upG (upG hl3 rfl) rfl)) upS hf
set_option maxHeartbeats 4000000 in
theorem t_M_walker_B62 {ad : Nat → Nat} {dA : Nat → ClassId} {D : va_G} {p : Program} {l : Launch} {e : Env} {s : State} {m : MethodId} {args : Array Value} {below : List Frame} {meth : Method} {c : Code} {r : Int32} {μ' : Mm} (C : Cx CLS SHM ad dA D p s m args meth c c_M_walker 6 R_M (some .int)) (N : Nat)   : ∀ (v1 : Int32) (v2 : Int32) (v3 : Int32) (μ : Mm) (lv : Nat → Option Value), lv 0 = some (.ref (ad 0)) → lv 1 = some (.int v1) → lv 2 = some (.int v2) → lv 3 = some (.int v3) → f_M_walker_B62 N v1 v2 v3 μ = some (r, μ') → Go CLS SHM ad dA D p l e (rmD 2) s m args below meth c 6 (some (.int r)) μ' 62 lv [] μ := by
  intro v1 v2 v3 μ lv hl0 hl1 hl2 hl3 hf
  unfold f_M_walker_B62 at hf
  refine g_iconst (v := 0) C d_M_walker_62 (by decide) ?_
  exact t_M_walker_B63 C N _ _ _ _ _ _ hl0 hl1 hl2 hl3 hf
set_option maxHeartbeats 4000000 in
theorem t_M_walker_B58 {ad : Nat → Nat} {dA : Nat → ClassId} {D : va_G} {p : Program} {l : Launch} {e : Env} {s : State} {m : MethodId} {args : Array Value} {below : List Frame} {meth : Method} {c : Code} {r : Int32} {μ' : Mm} (C : Cx CLS SHM ad dA D p s m args meth c c_M_walker 6 R_M (some .int)) (N : Nat)   : ∀ (v1 : Int32) (v2 : Int32) (v3 : Int32) (μ : Mm) (lv : Nat → Option Value), lv 0 = some (.ref (ad 0)) → lv 1 = some (.int v1) → lv 2 = some (.int v2) → lv 3 = some (.int v3) → f_M_walker_B58 N v1 v2 v3 μ = some (r, μ') → Go CLS SHM ad dA D p l e (rmD 2) s m args below meth c 6 (some (.int r)) μ' 58 lv [] μ := by
  intro v1 v2 v3 μ lv hl0 hl1 hl2 hl3 hf
  unfold f_M_walker_B58 at hf
  refine g_iconst (v := 1) C d_M_walker_58 (by decide) ?_
  refine g_goto (tgt := 63) C d_M_walker_59 (by decide) ?_
  exact t_M_walker_B63 C N _ _ _ _ _ _ hl0 hl1 hl2 hl3 hf
set_option maxHeartbeats 4000000 in
theorem t_M_walker_B45 {ad : Nat → Nat} {dA : Nat → ClassId} {D : va_G} {p : Program} {l : Launch} {e : Env} {s : State} {m : MethodId} {args : Array Value} {below : List Frame} {meth : Method} {c : Code} {r : Int32} {μ' : Mm} (C : Cx CLS SHM ad dA D p s m args meth c c_M_walker 6 R_M (some .int)) (N : Nat)   : ∀ (v1 : Int32) (v2 : Int32) (v3 : Int32) (μ : Mm) (lv : Nat → Option Value), lv 0 = some (.ref (ad 0)) → lv 1 = some (.int v1) → lv 2 = some (.int v2) → lv 3 = some (.int v3) → f_M_walker_B45 N v1 v2 v3 μ = some (r, μ') → Go CLS SHM ad dA D p l e (rmD 2) s m args below meth c 6 (some (.int r)) μ' 45 lv [] μ := by
  intro v1 v2 v3 μ lv hl0 hl1 hl2 hl3 hf
  unfold f_M_walker_B45 at hf
  refine g_iload_n C d_M_walker_45 rfl hl1 ?_
  refine g_iconst (v := 3) C d_M_walker_46 (by decide) ?_
  refine g_icmp_ne (tgt := 62) C d_M_walker_47 (by decide) hf (fun c13 hf => ?_) (fun c13 hf => ?_)
  · refine g_aload_n C d_M_walker_50 rfl hl0 ?_
    refine g_iload_n C d_M_walker_51 rfl hl2 ?_
    refine g_cvI C k_M rfl mv_M_isPost ml_M_151 d_M_walker_52 hf (fun r μ1 h => t_M_isPost C.2.2.2.2.2.2.2.2.1 h) rfl rfl (by decide) (Nat.le_of_ble_eq_true rfl) (fun r15 μ14 hf => ?_)
    refine g_if_eq (tgt := 62) C d_M_walker_55 (by decide) hf (fun c16 hf => ?_) (fun c16 hf => ?_)
    · exact t_M_walker_B62 C N _ _ _ _ _ hl0 hl1 hl2 hl3 hf
    · exact t_M_walker_B58 C N _ _ _ _ _ hl0 hl1 hl2 hl3 hf
  · exact t_M_walker_B62 C N _ _ _ _ _ hl0 hl1 hl2 hl3 hf
set_option maxHeartbeats 4000000 in
theorem t_M_walker_B19 {ad : Nat → Nat} {dA : Nat → ClassId} {D : va_G} {p : Program} {l : Launch} {e : Env} {s : State} {m : MethodId} {args : Array Value} {below : List Frame} {meth : Method} {c : Code} {r : Int32} {μ' : Mm} (C : Cx CLS SHM ad dA D p s m args meth c c_M_walker 6 R_M (some .int)) (N : Nat)   : ∀ (v1 : Int32) (v2 : Int32) (v3 : Int32) (μ : Mm) (lv : Nat → Option Value), lv 0 = some (.ref (ad 0)) → lv 1 = some (.int v1) → lv 2 = some (.int v2) → lv 3 = some (.int v3) → f_M_walker_B19 N v1 v2 v3 μ = some (r, μ') → Go CLS SHM ad dA D p l e (rmD 2) s m args below meth c 6 (some (.int r)) μ' 19 lv [] μ := by
  intro v1 v2 v3 μ lv hl0 hl1 hl2 hl3 hf
  unfold f_M_walker_B19 at hf
  refine g_iload_n C d_M_walker_19 rfl hl1 ?_
  refine g_iconst (v := 2) C d_M_walker_20 (by decide) ?_
  refine g_icmp_ne (tgt := 45) C d_M_walker_21 (by decide) hf (fun c6 hf => ?_) (fun c6 hf => ?_)
  · refine g_iload_n C d_M_walker_24 rfl hl2 ?_
    refine g_iconst (v := 1) C d_M_walker_25 (by decide) ?_
    refine g_bipush (v := 6) C d_M_walker_26 (by decide) ?_
    refine g_csI C mv_M_in ml_M_117 d_M_walker_28 hf (fun r μ1 h => t_M_in C.2.2.2.2.2.2.2.2.1 h) rfl rfl (by decide) (Nat.le_of_ble_eq_true rfl) (fun r8 μ7 hf => ?_)
    refine g_if_eq (tgt := 45) C d_M_walker_31 (by decide) hf (fun c9 hf => ?_) (fun c9 hf => ?_)
    · exact t_M_walker_B45 C N _ _ _ _ _ hl0 hl1 hl2 hl3 hf
    · refine g_iload_n C d_M_walker_34 rfl hl3 ?_
      refine g_iconst (v := 1) C d_M_walker_35 (by decide) ?_
      refine g_sipush (v := 500) C d_M_walker_36 (by decide) ?_
      refine g_csI C mv_M_in ml_M_117 d_M_walker_39 hf (fun r μ1 h => t_M_in C.2.2.2.2.2.2.2.2.1 h) rfl rfl (by decide) (Nat.le_of_ble_eq_true rfl) (fun r11 μ10 hf => ?_)
      refine g_if_ne (tgt := 58) C d_M_walker_42 (by decide) hf (fun c12 hf => ?_) (fun c12 hf => ?_)
      · exact t_M_walker_B45 C N _ _ _ _ _ hl0 hl1 hl2 hl3 hf
      · exact t_M_walker_B58 C N _ _ _ _ _ hl0 hl1 hl2 hl3 hf
  · exact t_M_walker_B45 C N _ _ _ _ _ hl0 hl1 hl2 hl3 hf
set_option maxHeartbeats 4000000 in
theorem t_M_walker {l : Launch} {ad : Nat → Nat} {dA : Nat → ClassId} {D : va_G} (hi : Inj SHM ad) {N : Nat} {a1 : Int32} {a2 : Int32} {a3 : Int32}  {μ μ' : Mm} {r : Int32} (hf : f_M_walker N a1 a2 a3 μ = some (r, μ')) : Ct CLS l SHM ad dA D y_M_walker c_M_walker 6 (some .int) 2 [.ref (ad 0), .int a1, .int a2, .int a3] μ (some (.int r)) μ' := by
  unfold f_M_walker at hf
  refine ct_of (by decide) hi (Nat.le_of_ble_eq_true rfl) ?_
  intro p e s m args below meth c C
  refine g_iload_n C d_M_walker_0 rfl rfl ?_
  refine g_if_eq (tgt := 58) C d_M_walker_1 (by decide) hf (fun c1 hf => ?_) (fun c1 hf => ?_)
  · exact t_M_walker_B58 C N _ _ _ _ _ rfl rfl rfl rfl hf
  · refine g_iload_n C d_M_walker_4 rfl rfl ?_
    refine g_iconst (v := 1) C d_M_walker_5 (by decide) ?_
    refine g_icmp_ne (tgt := 19) C d_M_walker_6 (by decide) hf (fun c2 hf => ?_) (fun c2 hf => ?_)
    · refine g_iload_n C d_M_walker_9 rfl rfl ?_
      refine g_iconst (v := 1) C d_M_walker_10 (by decide) ?_
      refine g_bipush (v := 6) C d_M_walker_11 (by decide) ?_
      refine g_csI C mv_M_in ml_M_117 d_M_walker_13 hf (fun r μ1 h => t_M_in C.2.2.2.2.2.2.2.2.1 h) rfl rfl (by decide) (Nat.le_of_ble_eq_true rfl) (fun r4 μ3 hf => ?_)
      refine g_if_ne (tgt := 58) C d_M_walker_16 (by decide) hf (fun c5 hf => ?_) (fun c5 hf => ?_)
      · exact t_M_walker_B19 C N _ _ _ _ _ rfl rfl rfl rfl hf
      · exact t_M_walker_B58 C N _ _ _ _ _ rfl rfl rfl rfl hf
    · exact t_M_walker_B19 C N _ _ _ _ _ rfl rfl rfl rfl hf
set_option maxHeartbeats 4000000 in
theorem t_M_isWalker {l : Launch} {ad : Nat → Nat} {dA : Nat → ClassId} {D : va_G} (hi : Inj SHM ad) {N : Nat} {a1 : Int32}  {μ μ' : Mm} {r : Int32} (hf : f_M_isWalker N a1 μ = some (r, μ')) : Ct CLS l SHM ad dA D y_M_isWalker c_M_isWalker 2 (some .boolean) 1 [.ref (ad 0), .int a1] μ (some (.int r)) μ' := by
  unfold f_M_isWalker at hf
  refine ct_of (by decide) hi (Nat.le_of_ble_eq_true rfl) ?_
  intro p e s m args below meth c C
  refine g_iload_n C d_M_isWalker_0 rfl rfl ?_
  refine g_iconst (v := 0) C d_M_isWalker_1 (by decide) ?_
  refine g_aload_n C d_M_isWalker_2 rfl rfl ?_
  refine g_getI (k := 15) C k_M (by decide) fl_M_162 rfl rfl d_M_isWalker_3 ?_
  refine g_iconst (v := 1) C d_M_isWalker_6 (by decide) ?_
  refine g_isub C d_M_isWalker_7 ?_
  refine g_csI C mv_M_in ml_M_117 d_M_isWalker_8 hf (fun r μ1 h => t_M_in C.2.2.2.2.2.2.2.2.1 h) rfl rfl (by decide) (Nat.le_of_ble_eq_true rfl) (fun r2 μ1 hf => ?_)
  exact g_zret C d_M_isWalker_11 hf
set_option maxHeartbeats 4000000 in
theorem t_M_need_B12 {ad : Nat → Nat} {dA : Nat → ClassId} {D : va_G} {p : Program} {l : Launch} {e : Env} {s : State} {m : MethodId} {args : Array Value} {below : List Frame} {meth : Method} {c : Code} {r : Int32} {μ' : Mm} (C : Cx CLS SHM ad dA D p s m args meth c c_M_need 3 R_M (some .int)) (N : Nat)   : ∀  (μ : Mm) (lv : Nat → Option Value), f_M_need_B12 N μ = some (r, μ') → Go CLS SHM ad dA D p l e (rmD 2) s m args below meth c 3 (some (.int r)) μ' 12 lv [] μ := by
  intro μ lv hf
  unfold f_M_need_B12 at hf
  refine g_iconst (v := -1) C d_M_need_12 (by decide) ?_
  refine g_goto (tgt := 34) C d_M_need_13 (by decide) ?_
  exact g_iret C d_M_need_34 hf
set_option maxHeartbeats 4000000 in
theorem t_M_need {l : Launch} {ad : Nat → Nat} {dA : Nat → ClassId} {D : va_G} (hi : Inj SHM ad) {N : Nat} {a1 : Int32} {a2 : Int32}  {μ μ' : Mm} {r : Int32} (hf : f_M_need N a1 a2 μ = some (r, μ')) : Ct CLS l SHM ad dA D y_M_need c_M_need 3 (some .int) 2 [.ref (ad 0), .int a1, .int a2] μ (some (.int r)) μ' := by
  unfold f_M_need at hf
  refine ct_of (by decide) hi (Nat.le_of_ble_eq_true rfl) ?_
  intro p e s m args below meth c C
  refine g_aload_n C d_M_need_0 rfl rfl ?_
  refine g_iload_n C d_M_need_1 rfl rfl ?_
  refine g_cvI C k_M rfl mv_M_isWalker ml_M_165 d_M_need_2 hf (fun r μ1 h => t_M_isWalker C.2.2.2.2.2.2.2.2.1 h) rfl rfl (by decide) (Nat.le_of_ble_eq_true rfl) (fun r2 μ1 hf => ?_)
  refine g_if_eq (tgt := 12) C d_M_need_5 (by decide) hf (fun c3 hf => ?_) (fun c3 hf => ?_)
  · exact t_M_need_B12 C N _ _ hf
  · refine g_iload_n C d_M_need_8 rfl rfl ?_
    refine g_if_ne (tgt := 16) C d_M_need_9 (by decide) hf (fun c4 hf => ?_) (fun c4 hf => ?_)
    · exact t_M_need_B12 C N _ _ hf
    · refine g_aload_n C d_M_need_16 rfl rfl ?_
      refine g_getR (b := 16) (k := 22) C k_M (by decide) fl_M_57 rfl rfl d_M_need_17 ?_
      refine g_iload_n C d_M_need_20 rfl rfl ?_
      refine g_zald C rfl d_M_need_21 hf (fun hf => ?_)
      refine g_if_eq (tgt := 33) C d_M_need_22 (by decide) hf (fun c5 hf => ?_) (fun c5 hf => ?_)
      · refine g_iconst (v := 0) C d_M_need_33 (by decide) ?_
        exact g_iret C d_M_need_34 hf
      · refine g_aload_n C d_M_need_25 rfl rfl ?_
        refine g_iconst (v := 1) C d_M_need_26 (by decide) ?_
        refine g_cvI C k_M rfl mv_M_meets ml_M_135 d_M_need_27 hf (fun r μ1 h => t_M_meets C.2.2.2.2.2.2.2.2.1 h) rfl rfl (by decide) (Nat.le_of_ble_eq_true rfl) (fun r7 μ6 hf => ?_)
        refine g_goto (tgt := 34) C d_M_need_30 (by decide) ?_
        exact g_iret C d_M_need_34 hf
set_option maxHeartbeats 4000000 in
theorem t_M_home {l : Launch} {ad : Nat → Nat} {dA : Nat → ClassId} {D : va_G} (hi : Inj SHM ad) {N : Nat} {a1 : Int32}  {μ μ' : Mm} {r : Int32} (hf : f_M_home N a1 μ = some (r, μ')) : Ct CLS l SHM ad dA D y_M_home c_M_home 3 (some .int) 3 [.ref (ad 0), .int a1] μ (some (.int r)) μ' := by
  unfold f_M_home at hf
  refine ct_of (by decide) hi (Nat.le_of_ble_eq_true rfl) ?_
  intro p e s m args below meth c C
  refine g_aload_n C d_M_home_0 rfl rfl ?_
  refine g_iconst (v := 1) C d_M_home_1 (by decide) ?_
  refine g_iload_n C d_M_home_2 rfl rfl ?_
  refine g_cvI C k_M rfl mv_M_need ml_M_168 d_M_home_3 hf (fun r μ1 h => t_M_need C.2.2.2.2.2.2.2.2.1 h) rfl rfl (by decide) (Nat.le_of_ble_eq_true rfl) (fun r2 μ1 hf => ?_)
  refine g_istore_n C d_M_home_6 rfl (by decide) ?_
  refine g_iload_n C d_M_home_7 rfl upS ?_
  refine g_if_ge (tgt := 13) C d_M_home_8 (by decide) hf (fun c3 hf => ?_) (fun c3 hf => ?_)
  · refine g_aload_n C d_M_home_13 rfl (upG rfl rfl) ?_
    refine g_getR (b := 16) (k := 22) C k_M (by decide) fl_M_57 rfl rfl d_M_home_14 ?_
    refine g_iload_n C d_M_home_17 rfl (upG rfl rfl) ?_
    refine g_iconst (v := 1) C d_M_home_18 (by decide) ?_
    refine g_zast C rfl d_M_home_19 hf (fun hf => ?_)
    refine g_iconst (v := 1) C d_M_home_20 (by decide) ?_
    exact g_iret C d_M_home_21 hf
  · refine g_iload_n C d_M_home_11 rfl upS ?_
    exact g_iret C d_M_home_12 hf
set_option maxHeartbeats 4000000 in
theorem t_M_view {l : Launch} {ad : Nat → Nat} {dA : Nat → ClassId} {D : va_G} (hi : Inj SHM ad) {N : Nat} {a1 : Int32} {a2 : Int32}  {μ μ' : Mm} {r : Int32} (hf : f_M_view N a1 a2 μ = some (r, μ')) : Ct CLS l SHM ad dA D y_M_view c_M_view 5 (some .int) 3 [.ref (ad 0), .int a1, .int a2] μ (some (.int r)) μ' := by
  unfold f_M_view at hf
  refine ct_of (by decide) hi (Nat.le_of_ble_eq_true rfl) ?_
  intro p e s m args below meth c C
  refine g_aload_n C d_M_view_0 rfl rfl ?_
  refine g_iload_n C d_M_view_1 rfl rfl ?_
  refine g_iconst (v := 0) C d_M_view_2 (by decide) ?_
  refine g_bipush (v := 40) C d_M_view_3 (by decide) ?_
  refine g_csI C mv_M_in ml_M_117 d_M_view_5 hf (fun r μ1 h => t_M_in C.2.2.2.2.2.2.2.2.1 h) rfl rfl (by decide) (Nat.le_of_ble_eq_true rfl) (fun r2 μ1 hf => ?_)
  refine g_iload_n C d_M_view_8 rfl rfl ?_
  refine g_cvI C k_M rfl mv_M_need ml_M_168 d_M_view_9 hf (fun r μ1 h => t_M_need C.2.2.2.2.2.2.2.2.1 h) rfl rfl (by decide) (Nat.le_of_ble_eq_true rfl) (fun r4 μ3 hf => ?_)
  refine g_istore_n C d_M_view_12 rfl (by decide) ?_
  refine g_iload_n C d_M_view_13 rfl upS ?_
  refine g_if_ge (tgt := 19) C d_M_view_14 (by decide) hf (fun c5 hf => ?_) (fun c5 hf => ?_)
  · refine g_aload_n C d_M_view_19 rfl (upG rfl rfl) ?_
    refine g_getR (b := 14) (k := 20) C k_M (by decide) fl_M_51 rfl rfl d_M_view_20 ?_
    refine g_iload_n C d_M_view_23 rfl (upG rfl rfl) ?_
    refine g_iald C rfl d_M_view_24 hf (fun hf => ?_)
    refine g_istore C d_M_view_25 (by decide) ?_
    refine g_aload_n C d_M_view_27 rfl (upG (upG rfl rfl) rfl) ?_
    refine g_getR (b := 14) (k := 20) C k_M (by decide) fl_M_51 rfl rfl d_M_view_28 ?_
    refine g_iload_n C d_M_view_31 rfl (upG (upG rfl rfl) rfl) ?_
    refine g_iload_n C d_M_view_32 rfl (upG (upG rfl rfl) rfl) ?_
    refine g_iast C rfl d_M_view_33 hf (fun hf => ?_)
    refine g_iload C d_M_view_34 upS ?_
    exact g_iret C d_M_view_36 hf
  · refine g_iload_n C d_M_view_17 rfl upS ?_
    exact g_iret C d_M_view_18 hf
set_option maxHeartbeats 4000000 in
theorem t_M_lose_B27 {ad : Nat → Nat} {dA : Nat → ClassId} {D : va_G} {p : Program} {l : Launch} {e : Env} {s : State} {m : MethodId} {args : Array Value} {below : List Frame} {meth : Method} {c : Code} {r : Int32} {μ' : Mm} (C : Cx CLS SHM ad dA D p s m args meth c c_M_lose 5 R_M (some .int)) (N : Nat)   : ∀ (v1 : Int32) (v2 : Int32) (s0 : Int32) (μ : Mm) (lv : Nat → Option Value), lv 0 = some (.ref (ad 0)) → lv 1 = some (.int v1) → lv 2 = some (.int v2) → f_M_lose_B27 N v1 v2 s0 μ = some (r, μ') → Go CLS SHM ad dA D p l e (rmD 3) s m args below meth c 5 (some (.int r)) μ' 27 lv [.int s0] μ := by
  intro v1 v2 s0 μ lv hl0 hl1 hl2 hf
  unfold f_M_lose_B27 at hf
  refine g_istore C d_M_lose_27 (by decide) ?_
  refine g_aload_n C d_M_lose_29 rfl (upG hl0 rfl) ?_
  refine g_getR (b := 15) (k := 21) C k_M (by decide) fl_M_54 rfl rfl d_M_lose_30 ?_
  refine g_iload_n C d_M_lose_33 rfl (upG hl1 rfl) ?_
  refine g_iload_n C d_M_lose_34 rfl (upG hl2 rfl) ?_
  refine g_zast C rfl d_M_lose_35 hf (fun hf => ?_)
  refine g_iload C d_M_lose_36 upS ?_
  exact g_iret C d_M_lose_38 hf
set_option maxHeartbeats 4000000 in
theorem t_M_lose {l : Launch} {ad : Nat → Nat} {dA : Nat → ClassId} {D : va_G} (hi : Inj SHM ad) {N : Nat} {a1 : Int32} {a2 : Int32}  {μ μ' : Mm} {r : Int32} (hf : f_M_lose N a1 a2 μ = some (r, μ')) : Ct CLS l SHM ad dA D y_M_lose c_M_lose 5 (some .int) 3 [.ref (ad 0), .int a1, .int a2] μ (some (.int r)) μ' := by
  unfold f_M_lose at hf
  refine ct_of (by decide) hi (Nat.le_of_ble_eq_true rfl) ?_
  intro p e s m args below meth c C
  refine g_aload_n C d_M_lose_0 rfl rfl ?_
  refine g_iconst (v := 1) C d_M_lose_1 (by decide) ?_
  refine g_iload_n C d_M_lose_2 rfl rfl ?_
  refine g_cvI C k_M rfl mv_M_need ml_M_168 d_M_lose_3 hf (fun r μ1 h => t_M_need C.2.2.2.2.2.2.2.2.1 h) rfl rfl (by decide) (Nat.le_of_ble_eq_true rfl) (fun r2 μ1 hf => ?_)
  refine g_istore_n C d_M_lose_6 rfl (by decide) ?_
  refine g_iload_n C d_M_lose_7 rfl upS ?_
  refine g_if_ge (tgt := 13) C d_M_lose_8 (by decide) hf (fun c3 hf => ?_) (fun c3 hf => ?_)
  · refine g_aload_n C d_M_lose_13 rfl (upG rfl rfl) ?_
    refine g_getR (b := 15) (k := 21) C k_M (by decide) fl_M_54 rfl rfl d_M_lose_14 ?_
    refine g_iload_n C d_M_lose_17 rfl (upG rfl rfl) ?_
    refine g_zald C rfl d_M_lose_18 hf (fun hf => ?_)
    refine g_if_eq (tgt := 26) C d_M_lose_19 (by decide) hf (fun c4 hf => ?_) (fun c4 hf => ?_)
    · refine g_iconst (v := 0) C d_M_lose_26 (by decide) ?_
      exact t_M_lose_B27 C N _ _ _ _ _ ((upG rfl rfl)) ((upG rfl rfl)) ((upG rfl rfl)) hf
    · refine g_iconst (v := 1) C d_M_lose_22 (by decide) ?_
      refine g_goto (tgt := 27) C d_M_lose_23 (by decide) ?_
      exact t_M_lose_B27 C N _ _ _ _ _ ((upG rfl rfl)) ((upG rfl rfl)) ((upG rfl rfl)) hf
  · refine g_iload_n C d_M_lose_11 rfl upS ?_
    exact g_iret C d_M_lose_12 hf
set_option maxHeartbeats 4000000 in
theorem t_M_unitOf {l : Launch} {ad : Nat → Nat} {dA : Nat → ClassId} {D : va_G} (hi : Inj SHM ad) {N : Nat} {a1 : Int32}  {μ μ' : Mm} {r : Int32} (hf : f_M_unitOf N a1 μ = some (r, μ')) : Ct CLS l SHM ad dA D y_M_unitOf c_M_unitOf 2 (some .int) 0 [.ref (ad 0), .int a1] μ (some (.int r)) μ' := by
  unfold f_M_unitOf at hf
  refine ct_of (by decide) hi (Nat.le_of_ble_eq_true rfl) ?_
  intro p e s m args below meth c C
  refine g_aload_n C d_M_unitOf_0 rfl rfl ?_
  refine g_getR (b := 10) (k := 16) C k_M (by decide) fl_M_39 rfl rfl d_M_unitOf_1 ?_
  refine g_iload_n C d_M_unitOf_4 rfl rfl ?_
  refine g_iald C rfl d_M_unitOf_5 hf (fun hf => ?_)
  refine g_iconst (v := 3) C d_M_unitOf_6 (by decide) ?_
  refine g_icmp_ne (tgt := 14) C d_M_unitOf_7 (by decide) hf (fun c1 hf => ?_) (fun c1 hf => ?_)
  · refine g_iconst (v := 0) C d_M_unitOf_10 (by decide) ?_
    refine g_goto (tgt := 23) C d_M_unitOf_11 (by decide) ?_
    exact g_iret C d_M_unitOf_23 hf
  · refine g_bipush (v := 60) C d_M_unitOf_14 (by decide) ?_
    refine g_aload_n C d_M_unitOf_16 rfl rfl ?_
    refine g_getR (b := 11) (k := 17) C k_M (by decide) fl_M_42 rfl rfl d_M_unitOf_17 ?_
    refine g_iload_n C d_M_unitOf_20 rfl rfl ?_
    refine g_iald C rfl d_M_unitOf_21 hf (fun hf => ?_)
    refine g_idiv C d_M_unitOf_22 hf (fun hf => ?_)
    exact g_iret C d_M_unitOf_23 hf
set_option maxHeartbeats 4000000 in
theorem t_M_post {l : Launch} {ad : Nat → Nat} {dA : Nat → ClassId} {D : va_G} (hi : Inj SHM ad) {N : Nat} {a1 : Int32} {a2 : Int32}  {μ μ' : Mm} {r : Int32} (hf : f_M_post N a1 a2 μ = some (r, μ')) : Ct CLS l SHM ad dA D y_M_post c_M_post 3 (some .int) 0 [.ref (ad 0), .int a1, .int a2] μ (some (.int r)) μ' := by
  unfold f_M_post at hf
  refine ct_of (by decide) hi (Nat.le_of_ble_eq_true rfl) ?_
  intro p e s m args below meth c C
  refine g_aload_n C d_M_post_0 rfl rfl ?_
  refine g_getR (b := 18) (k := 24) C k_M (by decide) fl_M_63 rfl rfl d_M_post_1 ?_
  refine g_bipush (v := 24) C d_M_post_4 (by decide) ?_
  refine g_iload_n C d_M_post_6 rfl rfl ?_
  refine g_imul C d_M_post_7 ?_
  refine g_iload_n C d_M_post_8 rfl rfl ?_
  refine g_iadd C d_M_post_9 ?_
  refine g_iald C rfl d_M_post_10 hf (fun hf => ?_)
  exact g_iret C d_M_post_11 hf
set_option maxHeartbeats 4000000 in
theorem t_M_rest {l : Launch} {ad : Nat → Nat} {dA : Nat → ClassId} {D : va_G} (hi : Inj SHM ad) {N : Nat} {a1 : Int32} {a2 : Int32}  {μ μ' : Mm} {r : Int32} (hf : f_M_rest N a1 a2 μ = some (r, μ')) : Ct CLS l SHM ad dA D y_M_rest c_M_rest 3 (some .int) 0 [.ref (ad 0), .int a1, .int a2] μ (some (.int r)) μ' := by
  unfold f_M_rest at hf
  refine ct_of (by decide) hi (Nat.le_of_ble_eq_true rfl) ?_
  intro p e s m args below meth c C
  refine g_aload_n C d_M_rest_0 rfl rfl ?_
  refine g_getR (b := 19) (k := 25) C k_M (by decide) fl_M_66 rfl rfl d_M_rest_1 ?_
  refine g_bipush (v := 24) C d_M_rest_4 (by decide) ?_
  refine g_iload_n C d_M_rest_6 rfl rfl ?_
  refine g_imul C d_M_rest_7 ?_
  refine g_iload_n C d_M_rest_8 rfl rfl ?_
  refine g_iadd C d_M_rest_9 ?_
  refine g_iald C rfl d_M_rest_10 hf (fun hf => ?_)
  exact g_iret C d_M_rest_11 hf
set_option maxHeartbeats 4000000 in
theorem t_M_pair {l : Launch} {ad : Nat → Nat} {dA : Nat → ClassId} {D : va_G} (hi : Inj SHM ad) {N : Nat} {a1 : Int32} {a2 : Int32}  {μ μ' : Mm} {r : Int32} (hf : f_M_pair N a1 a2 μ = some (r, μ')) : Ct CLS l SHM ad dA D y_M_pair c_M_pair 3 (some .int) 1 [.ref (ad 0), .int a1, .int a2] μ (some (.int r)) μ' := by
  unfold f_M_pair at hf
  refine ct_of (by decide) hi (Nat.le_of_ble_eq_true rfl) ?_
  intro p e s m args below meth c C
  refine g_bipush (v := 16) C d_M_pair_0 (by decide) ?_
  refine g_aload_n C d_M_pair_2 rfl rfl ?_
  refine g_iload_n C d_M_pair_3 rfl rfl ?_
  refine g_iload_n C d_M_pair_4 rfl rfl ?_
  refine g_cvI C k_M rfl mv_M_post ml_M_172 d_M_pair_5 hf (fun r μ1 h => t_M_post C.2.2.2.2.2.2.2.2.1 h) rfl rfl (by decide) (Nat.le_of_ble_eq_true rfl) (fun r2 μ1 hf => ?_)
  refine g_imul C d_M_pair_8 ?_
  refine g_aload_n C d_M_pair_9 rfl rfl ?_
  refine g_iload_n C d_M_pair_10 rfl rfl ?_
  refine g_iload_n C d_M_pair_11 rfl rfl ?_
  refine g_iconst (v := 1) C d_M_pair_12 (by decide) ?_
  refine g_iadd C d_M_pair_13 ?_
  refine g_aload_n C d_M_pair_14 rfl rfl ?_
  refine g_getR (b := 17) (k := 23) C k_M (by decide) fl_M_60 rfl rfl d_M_pair_15 ?_
  refine g_iload_n C d_M_pair_18 rfl rfl ?_
  refine g_iald C rfl d_M_pair_19 hf (fun hf => ?_)
  refine g_irem C d_M_pair_20 hf (fun hf => ?_)
  refine g_cvI C k_M rfl mv_M_post ml_M_172 d_M_pair_21 hf (fun r μ1 h => t_M_post C.2.2.2.2.2.2.2.2.1 h) rfl rfl (by decide) (Nat.le_of_ble_eq_true rfl) (fun r6 μ5 hf => ?_)
  refine g_iadd C d_M_pair_24 ?_
  exact g_iret C d_M_pair_25 hf
set_option maxHeartbeats 4000000 in
theorem t_M_mostFuel_B112 {ad : Nat → Nat} {dA : Nat → ClassId} {D : va_G} {p : Program} {l : Launch} {e : Env} {s : State} {m : MethodId} {args : Array Value} {below : List Frame} {meth : Method} {c : Code} {r : Int32} {μ' : Mm} (C : Cx CLS SHM ad dA D p s m args meth c c_M_mostFuel 7 R_M (some .int)) (N : Nat)   (k13 : Int32 → Int32 → Int32 → Int32 → Mm → Option (Int32 × Mm)) (hk13 : ∀ (v1 : Int32) (v2 : Int32) (v3 : Int32) (v4 : Int32) (μ : Mm) (lv : Nat → Option Value), lv 0 = some (.ref (ad 0)) → lv 1 = some (.int v1) → lv 2 = some (.int v2) → lv 3 = some (.int v3) → lv 4 = some (.int v4) → k13 v1 v2 v3 v4 μ = some (r, μ') → Go CLS SHM ad dA D p l e (rmD 2) s m args below meth c 7 (some (.int r)) μ' 13 lv [] μ) : ∀ (v1 : Int32) (v2 : Int32) (v3 : Int32) (v4 : Int32) (μ : Mm) (lv : Nat → Option Value), lv 0 = some (.ref (ad 0)) → lv 1 = some (.int v1) → lv 2 = some (.int v2) → lv 3 = some (.int v3) → lv 4 = some (.int v4) → f_M_mostFuel_B112 N k13 v1 v2 v3 v4 μ = some (r, μ') → Go CLS SHM ad dA D p l e (rmD 2) s m args below meth c 7 (some (.int r)) μ' 112 lv [] μ := by
  intro v1 v2 v3 v4 μ lv hl0 hl1 hl2 hl3 hl4 hf
  unfold f_M_mostFuel_B112 at hf
  refine g_iinc (v := 1) C d_M_mostFuel_112 hl4 (by decide) (by decide) ?_
  refine g_goto (tgt := 13) C d_M_mostFuel_115 (by decide) ?_
  exact hk13 _ _ _ _ _ _ ((upG hl0 rfl)) ((upG hl1 rfl)) ((upG hl2 rfl)) ((upG hl3 rfl)) upS hf
set_option maxHeartbeats 4000000 in
theorem t_M_mostFuel_B111 {ad : Nat → Nat} {dA : Nat → ClassId} {D : va_G} {p : Program} {l : Launch} {e : Env} {s : State} {m : MethodId} {args : Array Value} {below : List Frame} {meth : Method} {c : Code} {r : Int32} {μ' : Mm} (C : Cx CLS SHM ad dA D p s m args meth c c_M_mostFuel 7 R_M (some .int)) (N : Nat)   (k13 : Int32 → Int32 → Int32 → Int32 → Mm → Option (Int32 × Mm)) (hk13 : ∀ (v1 : Int32) (v2 : Int32) (v3 : Int32) (v4 : Int32) (μ : Mm) (lv : Nat → Option Value), lv 0 = some (.ref (ad 0)) → lv 1 = some (.int v1) → lv 2 = some (.int v2) → lv 3 = some (.int v3) → lv 4 = some (.int v4) → k13 v1 v2 v3 v4 μ = some (r, μ') → Go CLS SHM ad dA D p l e (rmD 2) s m args below meth c 7 (some (.int r)) μ' 13 lv [] μ) : ∀ (v1 : Int32) (v2 : Int32) (v4 : Int32) (s0 : Int32) (μ : Mm) (lv : Nat → Option Value), lv 0 = some (.ref (ad 0)) → lv 1 = some (.int v1) → lv 2 = some (.int v2) → lv 4 = some (.int v4) → f_M_mostFuel_B111 N k13 v1 v2 v4 s0 μ = some (r, μ') → Go CLS SHM ad dA D p l e (rmD 2) s m args below meth c 7 (some (.int r)) μ' 111 lv [.int s0] μ := by
  intro v1 v2 v4 s0 μ lv hl0 hl1 hl2 hl4 hf
  unfold f_M_mostFuel_B111 at hf
  refine g_istore_n C d_M_mostFuel_111 rfl (by decide) ?_
  exact t_M_mostFuel_B112 C N _ hk13 _ _ _ _ _ _ ((upG hl0 rfl)) ((upG hl1 rfl)) ((upG hl2 rfl)) upS ((upG hl4 rfl)) hf
set_option maxHeartbeats 4000000 in
theorem t_M_mostFuel_B99 {ad : Nat → Nat} {dA : Nat → ClassId} {D : va_G} {p : Program} {l : Launch} {e : Env} {s : State} {m : MethodId} {args : Array Value} {below : List Frame} {meth : Method} {c : Code} {r : Int32} {μ' : Mm} (C : Cx CLS SHM ad dA D p s m args meth c c_M_mostFuel 7 R_M (some .int)) (N : Nat)   (k13 : Int32 → Int32 → Int32 → Int32 → Mm → Option (Int32 × Mm)) (hk13 : ∀ (v1 : Int32) (v2 : Int32) (v3 : Int32) (v4 : Int32) (μ : Mm) (lv : Nat → Option Value), lv 0 = some (.ref (ad 0)) → lv 1 = some (.int v1) → lv 2 = some (.int v2) → lv 3 = some (.int v3) → lv 4 = some (.int v4) → k13 v1 v2 v3 v4 μ = some (r, μ') → Go CLS SHM ad dA D p l e (rmD 2) s m args below meth c 7 (some (.int r)) μ' 13 lv [] μ) : ∀ (v1 : Int32) (v2 : Int32) (v3 : Int32) (v4 : Int32) (v5 : Int32) (μ : Mm) (lv : Nat → Option Value), lv 0 = some (.ref (ad 0)) → lv 1 = some (.int v1) → lv 2 = some (.int v2) → lv 3 = some (.int v3) → lv 4 = some (.int v4) → lv 5 = some (.int v5) → f_M_mostFuel_B99 N k13 v1 v2 v3 v4 v5 μ = some (r, μ') → Go CLS SHM ad dA D p l e (rmD 2) s m args below meth c 7 (some (.int r)) μ' 99 lv [] μ := by
  intro v1 v2 v3 v4 v5 μ lv hl0 hl1 hl2 hl3 hl4 hl5 hf
  unfold f_M_mostFuel_B99 at hf
  refine g_iload C d_M_mostFuel_99 hl5 ?_
  refine g_iload_n C d_M_mostFuel_101 rfl hl3 ?_
  refine g_icmp_le (tgt := 110) C d_M_mostFuel_102 (by decide) hf (fun c19 hf => ?_) (fun c19 hf => ?_)
  · refine g_iload_n C d_M_mostFuel_110 rfl hl3 ?_
    exact t_M_mostFuel_B111 C N _ hk13 _ _ _ _ _ _ hl0 hl1 hl2 hl4 hf
  · refine g_iload C d_M_mostFuel_105 hl5 ?_
    refine g_goto (tgt := 111) C d_M_mostFuel_107 (by decide) ?_
    exact t_M_mostFuel_B111 C N _ hk13 _ _ _ _ _ _ hl0 hl1 hl2 hl4 hf
set_option maxHeartbeats 4000000 in
theorem t_M_mostFuel_L56 {ad : Nat → Nat} {dA : Nat → ClassId} {D : va_G} {p : Program} {l : Launch} {e : Env} {s : State} {m : MethodId} {args : Array Value} {below : List Frame} {meth : Method} {c : Code} {r : Int32} {μ' : Mm} (C : Cx CLS SHM ad dA D p s m args meth c c_M_mostFuel 7 R_M (some .int)) (N : Nat)   (k13 : Int32 → Int32 → Int32 → Int32 → Mm → Option (Int32 × Mm)) (hk13 : ∀ (v1 : Int32) (v2 : Int32) (v3 : Int32) (v4 : Int32) (μ : Mm) (lv : Nat → Option Value), lv 0 = some (.ref (ad 0)) → lv 1 = some (.int v1) → lv 2 = some (.int v2) → lv 3 = some (.int v3) → lv 4 = some (.int v4) → k13 v1 v2 v3 v4 μ = some (r, μ') → Go CLS SHM ad dA D p l e (rmD 2) s m args below meth c 7 (some (.int r)) μ' 13 lv [] μ) : ∀ (n : Nat) (v1 : Int32) (v2 : Int32) (v3 : Int32) (v4 : Int32) (v5 : Int32) (v6 : Int32) (μ : Mm) (lv : Nat → Option Value), lv 0 = some (.ref (ad 0)) → lv 1 = some (.int v1) → lv 2 = some (.int v2) → lv 3 = some (.int v3) → lv 4 = some (.int v4) → lv 5 = some (.int v5) → lv 6 = some (.int v6) → f_M_mostFuel_L56 N k13 n v1 v2 v3 v4 v5 v6 μ = some (r, μ') → Go CLS SHM ad dA D p l e (rmD 2) s m args below meth c 7 (some (.int r)) μ' 56 lv [] μ := by
  intro n
  induction n with
  | zero => intro v1 v2 v3 v4 v5 v6 μ lv hl0 hl1 hl2 hl3 hl4 hl5 hl6 hf; cases (show none = some _ from hf)
  | succ n ih =>
    intro v1 v2 v3 v4 v5 v6 μ lv hl0 hl1 hl2 hl3 hl4 hl5 hl6 hf
    unfold f_M_mostFuel_L56 at hf
    refine g_aload_n C d_M_mostFuel_56 rfl hl0 ?_
    refine g_getR (b := 8) (k := 13) C k_M (by decide) fl_M_33 rfl rfl d_M_mostFuel_57 ?_
    refine g_aload_n C d_M_mostFuel_60 rfl hl0 ?_
    refine g_iload_n C d_M_mostFuel_61 rfl hl1 ?_
    refine g_iload C d_M_mostFuel_62 hl6 ?_
    refine g_cvI C k_M rfl mv_M_post ml_M_172 d_M_mostFuel_64 hf (fun r μ1 h => t_M_post C.2.2.2.2.2.2.2.2.1 h) rfl rfl (by decide) (Nat.le_of_ble_eq_true rfl) (fun r12 μ11 hf => ?_)
    refine g_zald C rfl d_M_mostFuel_67 hf (fun hf => ?_)
    refine g_if_ne (tgt := 99) C d_M_mostFuel_68 (by decide) hf (fun c13 hf => ?_) (fun c13 hf => ?_)
    · refine g_iload C d_M_mostFuel_71 hl5 ?_
      refine g_aload_n C d_M_mostFuel_73 rfl hl0 ?_
      refine g_getR (b := 5) (k := 10) C k_M (by decide) fl_M_23 rfl rfl d_M_mostFuel_74 ?_
      refine g_aload_n C d_M_mostFuel_77 rfl hl0 ?_
      refine g_iload_n C d_M_mostFuel_78 rfl hl1 ?_
      refine g_iload C d_M_mostFuel_79 hl6 ?_
      refine g_cvI C k_M rfl mv_M_pair ml_M_175 d_M_mostFuel_81 hf (fun r μ1 h => t_M_pair C.2.2.2.2.2.2.2.2.1 h) rfl rfl (by decide) (Nat.le_of_ble_eq_true rfl) (fun r15 μ14 hf => ?_)
      refine g_iald C rfl d_M_mostFuel_84 hf (fun hf => ?_)
      refine g_iadd C d_M_mostFuel_85 ?_
      refine g_istore C d_M_mostFuel_86 (by decide) ?_
      refine g_iload C d_M_mostFuel_88 (upG hl6 rfl) ?_
      refine g_iconst (v := 1) C d_M_mostFuel_90 (by decide) ?_
      refine g_iadd C d_M_mostFuel_91 ?_
      refine g_iload_n C d_M_mostFuel_92 rfl (upG hl2 rfl) ?_
      refine g_irem C d_M_mostFuel_93 hf (fun hf => ?_)
      refine g_istore C d_M_mostFuel_94 (by decide) ?_
      refine g_goto (tgt := 56) C d_M_mostFuel_96 (by decide) ?_
      exact ih _ _ _ _ _ _ _ _ ((upG (upG hl0 rfl) rfl)) ((upG (upG hl1 rfl) rfl)) ((upG (upG hl2 rfl) rfl)) ((upG (upG hl3 rfl) rfl)) ((upG (upG hl4 rfl) rfl)) ((upG upS rfl)) upS hf
    · exact t_M_mostFuel_B99 C N _ hk13 _ _ _ _ _ _ _ hl0 hl1 hl2 hl3 hl4 hl5 hf
set_option maxHeartbeats 4000000 in
theorem t_M_mostFuel_L13 {ad : Nat → Nat} {dA : Nat → ClassId} {D : va_G} {p : Program} {l : Launch} {e : Env} {s : State} {m : MethodId} {args : Array Value} {below : List Frame} {meth : Method} {c : Code} {r : Int32} {μ' : Mm} (C : Cx CLS SHM ad dA D p s m args meth c c_M_mostFuel 7 R_M (some .int)) (N : Nat)   : ∀ (n : Nat) (v1 : Int32) (v2 : Int32) (v3 : Int32) (v4 : Int32) (μ : Mm) (lv : Nat → Option Value), lv 0 = some (.ref (ad 0)) → lv 1 = some (.int v1) → lv 2 = some (.int v2) → lv 3 = some (.int v3) → lv 4 = some (.int v4) → f_M_mostFuel_L13 N n v1 v2 v3 v4 μ = some (r, μ') → Go CLS SHM ad dA D p l e (rmD 2) s m args below meth c 7 (some (.int r)) μ' 13 lv [] μ := by
  intro n
  induction n with
  | zero => intro v1 v2 v3 v4 μ lv hl0 hl1 hl2 hl3 hl4 hf; cases (show none = some _ from hf)
  | succ n ih =>
    intro v1 v2 v3 v4 μ lv hl0 hl1 hl2 hl3 hl4 hf
    unfold f_M_mostFuel_L13 at hf
    refine g_iload C d_M_mostFuel_13 hl4 ?_
    refine g_iload_n C d_M_mostFuel_15 rfl hl2 ?_
    refine g_icmp_ge (tgt := 118) C d_M_mostFuel_16 (by decide) hf (fun c2 hf => ?_) (fun c2 hf => ?_)
    · refine g_iload_n C d_M_mostFuel_118 rfl hl3 ?_
      exact g_iret C d_M_mostFuel_119 hf
    · refine g_aload_n C d_M_mostFuel_19 rfl hl0 ?_
      refine g_getR (b := 8) (k := 13) C k_M (by decide) fl_M_33 rfl rfl d_M_mostFuel_20 ?_
      refine g_aload_n C d_M_mostFuel_23 rfl hl0 ?_
      refine g_iload_n C d_M_mostFuel_24 rfl hl1 ?_
      refine g_iload C d_M_mostFuel_25 hl4 ?_
      refine g_cvI C k_M rfl mv_M_post ml_M_172 d_M_mostFuel_27 hf (fun r μ1 h => t_M_post C.2.2.2.2.2.2.2.2.1 h) rfl rfl (by decide) (Nat.le_of_ble_eq_true rfl) (fun r4 μ3 hf => ?_)
      refine g_zald C rfl d_M_mostFuel_30 hf (fun hf => ?_)
      refine g_if_eq (tgt := 112) C d_M_mostFuel_31 (by decide) hf (fun c5 hf => ?_) (fun c5 hf => ?_)
      · exact t_M_mostFuel_B112 C N _ ih _ _ _ _ _ _ hl0 hl1 hl2 hl3 hl4 hf
      · refine g_aload_n C d_M_mostFuel_34 rfl hl0 ?_
        refine g_getR (b := 5) (k := 10) C k_M (by decide) fl_M_23 rfl rfl d_M_mostFuel_35 ?_
        refine g_aload_n C d_M_mostFuel_38 rfl hl0 ?_
        refine g_iload_n C d_M_mostFuel_39 rfl hl1 ?_
        refine g_iload C d_M_mostFuel_40 hl4 ?_
        refine g_cvI C k_M rfl mv_M_pair ml_M_175 d_M_mostFuel_42 hf (fun r μ1 h => t_M_pair C.2.2.2.2.2.2.2.2.1 h) rfl rfl (by decide) (Nat.le_of_ble_eq_true rfl) (fun r7 μ6 hf => ?_)
        refine g_iald C rfl d_M_mostFuel_45 hf (fun hf => ?_)
        refine g_istore C d_M_mostFuel_46 (by decide) ?_
        refine g_iload C d_M_mostFuel_48 (upG hl4 rfl) ?_
        refine g_iconst (v := 1) C d_M_mostFuel_50 (by decide) ?_
        refine g_iadd C d_M_mostFuel_51 ?_
        refine g_iload_n C d_M_mostFuel_52 rfl (upG hl2 rfl) ?_
        refine g_irem C d_M_mostFuel_53 hf (fun hf => ?_)
        refine g_istore C d_M_mostFuel_54 (by decide) ?_
        exact t_M_mostFuel_L56 C N _ ih N _ _ _ _ _ _ _ _ ((upG (upG hl0 rfl) rfl)) ((upG (upG hl1 rfl) rfl)) ((upG (upG hl2 rfl) rfl)) ((upG (upG hl3 rfl) rfl)) ((upG (upG hl4 rfl) rfl)) ((upG upS rfl)) upS hf
set_option maxHeartbeats 4000000 in
theorem t_M_mostFuel {l : Launch} {ad : Nat → Nat} {dA : Nat → ClassId} {D : va_G} (hi : Inj SHM ad) {N : Nat} {a1 : Int32}  {μ μ' : Mm} {r : Int32} (hf : f_M_mostFuel N a1 μ = some (r, μ')) : Ct CLS l SHM ad dA D y_M_mostFuel c_M_mostFuel 7 (some .int) 2 [.ref (ad 0), .int a1] μ (some (.int r)) μ' := by
  unfold f_M_mostFuel at hf
  refine ct_of (by decide) hi (Nat.le_of_ble_eq_true rfl) ?_
  intro p e s m args below meth c C
  refine g_aload_n C d_M_mostFuel_0 rfl rfl ?_
  refine g_getR (b := 17) (k := 23) C k_M (by decide) fl_M_60 rfl rfl d_M_mostFuel_1 ?_
  refine g_iload_n C d_M_mostFuel_4 rfl rfl ?_
  refine g_iald C rfl d_M_mostFuel_5 hf (fun hf => ?_)
  refine g_istore_n C d_M_mostFuel_6 rfl (by decide) ?_
  refine g_bipush (v := -9) C d_M_mostFuel_7 (by decide) ?_
  refine g_istore_n C d_M_mostFuel_9 rfl (by decide) ?_
  refine g_iconst (v := 0) C d_M_mostFuel_10 (by decide) ?_
  refine g_istore C d_M_mostFuel_11 (by decide) ?_
  exact t_M_mostFuel_L13 C N N _ _ _ _ _ _ ((upG (upG (upG rfl rfl) rfl) rfl)) ((upG (upG (upG rfl rfl) rfl) rfl)) ((upG (upG upS rfl) rfl)) ((upG upS rfl)) upS hf
set_option maxHeartbeats 4000000 in
theorem t_M_whyNot_B145 {ad : Nat → Nat} {dA : Nat → ClassId} {D : va_G} {p : Program} {l : Launch} {e : Env} {s : State} {m : MethodId} {args : Array Value} {below : List Frame} {meth : Method} {c : Code} {r : Int32} {μ' : Mm} (C : Cx CLS SHM ad dA D p s m args meth c c_M_whyNot 7 R_M (some .int)) (N : Nat)   : ∀ (v4 : Int32) (μ : Mm) (lv : Nat → Option Value), lv 4 = some (.int v4) → f_M_whyNot_B145 N v4 μ = some (r, μ') → Go CLS SHM ad dA D p l e (rmD 3) s m args below meth c 7 (some (.int r)) μ' 145 lv [] μ := by
  intro v4 μ lv hl4 hf
  unfold f_M_whyNot_B145 at hf
  refine g_iload C d_M_whyNot_145 hl4 ?_
  refine g_if_eq (tgt := 154) C d_M_whyNot_147 (by decide) hf (fun c29 hf => ?_) (fun c29 hf => ?_)
  · refine g_iconst (v := 3) C d_M_whyNot_154 (by decide) ?_
    exact g_iret C d_M_whyNot_155 hf
  · refine g_iconst (v := 4) C d_M_whyNot_150 (by decide) ?_
    refine g_goto (tgt := 155) C d_M_whyNot_151 (by decide) ?_
    exact g_iret C d_M_whyNot_155 hf
set_option maxHeartbeats 4000000 in
theorem t_M_whyNot_B135 {ad : Nat → Nat} {dA : Nat → ClassId} {D : va_G} {p : Program} {l : Launch} {e : Env} {s : State} {m : MethodId} {args : Array Value} {below : List Frame} {meth : Method} {c : Code} {r : Int32} {μ' : Mm} (C : Cx CLS SHM ad dA D p s m args meth c c_M_whyNot 7 R_M (some .int)) (N : Nat)   : ∀ (v1 : Int32) (v4 : Int32) (v5 : Int32) (μ : Mm) (lv : Nat → Option Value), lv 0 = some (.ref (ad 0)) → lv 1 = some (.int v1) → lv 4 = some (.int v4) → lv 5 = some (.int v5) → f_M_whyNot_B135 N v1 v4 v5 μ = some (r, μ') → Go CLS SHM ad dA D p l e (rmD 3) s m args below meth c 7 (some (.int r)) μ' 135 lv [] μ := by
  intro v1 v4 v5 μ lv hl0 hl1 hl4 hl5 hf
  unfold f_M_whyNot_B135 at hf
  refine g_iload C d_M_whyNot_135 hl4 ?_
  refine g_if_eq (tgt := 145) C d_M_whyNot_137 (by decide) hf (fun c22 hf => ?_) (fun c22 hf => ?_)
  · exact t_M_whyNot_B145 C N _ _ _ hl4 hf
  · refine g_iload C d_M_whyNot_140 hl5 ?_
    refine g_if_ne (tgt := 156) C d_M_whyNot_142 (by decide) hf (fun c23 hf => ?_) (fun c23 hf => ?_)
    · exact t_M_whyNot_B145 C N _ _ _ hl4 hf
    · refine g_aload_n C d_M_whyNot_156 rfl hl0 ?_
      refine g_getR (b := 10) (k := 16) C k_M (by decide) fl_M_39 rfl rfl d_M_whyNot_157 ?_
      refine g_iload_n C d_M_whyNot_160 rfl hl1 ?_
      refine g_iald C rfl d_M_whyNot_161 hf (fun hf => ?_)
      refine g_iconst (v := 2) C d_M_whyNot_162 (by decide) ?_
      refine g_icmp_ne (tgt := 202) C d_M_whyNot_163 (by decide) hf (fun c24 hf => ?_) (fun c24 hf => ?_)
      · refine g_aload_n C d_M_whyNot_166 rfl hl0 ?_
        refine g_iload_n C d_M_whyNot_167 rfl hl1 ?_
        refine g_cvI C k_M rfl mv_M_mostFuel ml_M_178 d_M_whyNot_168 hf (fun r μ1 h => t_M_mostFuel C.2.2.2.2.2.2.2.2.1 h) rfl rfl (by decide) (Nat.le_of_ble_eq_true rfl) (fun r26 μ25 hf => ?_)
        refine g_istore C d_M_whyNot_171 (by decide) ?_
        refine g_iload C d_M_whyNot_173 upS ?_
        refine g_bipush (v := -9) C d_M_whyNot_175 (by decide) ?_
        refine g_icmp_ne (tgt := 184) C d_M_whyNot_177 (by decide) hf (fun c27 hf => ?_) (fun c27 hf => ?_)
        · refine g_iconst (v := 5) C d_M_whyNot_180 (by decide) ?_
          refine g_goto (tgt := 201) C d_M_whyNot_181 (by decide) ?_
          exact g_iret C d_M_whyNot_201 hf
        · refine g_iload C d_M_whyNot_184 upS ?_
          refine g_aload_n C d_M_whyNot_186 rfl (upG hl0 rfl) ?_
          refine g_getR (b := 12) (k := 18) C k_M (by decide) fl_M_45 rfl rfl d_M_whyNot_187 ?_
          refine g_iload_n C d_M_whyNot_190 rfl (upG hl1 rfl) ?_
          refine g_iald C rfl d_M_whyNot_191 hf (fun hf => ?_)
          refine g_icmp_le (tgt := 200) C d_M_whyNot_192 (by decide) hf (fun c28 hf => ?_) (fun c28 hf => ?_)
          · refine g_iconst (v := 0) C d_M_whyNot_200 (by decide) ?_
            exact g_iret C d_M_whyNot_201 hf
          · refine g_bipush (v := 6) C d_M_whyNot_195 (by decide) ?_
            refine g_goto (tgt := 201) C d_M_whyNot_197 (by decide) ?_
            exact g_iret C d_M_whyNot_201 hf
      · refine g_iconst (v := 0) C d_M_whyNot_202 (by decide) ?_
        exact g_iret C d_M_whyNot_203 hf
set_option maxHeartbeats 4000000 in
theorem t_M_whyNot_B127 {ad : Nat → Nat} {dA : Nat → ClassId} {D : va_G} {p : Program} {l : Launch} {e : Env} {s : State} {m : MethodId} {args : Array Value} {below : List Frame} {meth : Method} {c : Code} {r : Int32} {μ' : Mm} (C : Cx CLS SHM ad dA D p s m args meth c c_M_whyNot 7 R_M (some .int)) (N : Nat)   (k69 : Int32 → Int32 → Int32 → Int32 → Int32 → Mm → Option (Int32 × Mm)) (hk69 : ∀ (v1 : Int32) (v2 : Int32) (v4 : Int32) (v5 : Int32) (v6 : Int32) (μ : Mm) (lv : Nat → Option Value), lv 0 = some (.ref (ad 0)) → lv 1 = some (.int v1) → lv 2 = some (.int v2) → lv 4 = some (.int v4) → lv 5 = some (.int v5) → lv 6 = some (.int v6) → k69 v1 v2 v4 v5 v6 μ = some (r, μ') → Go CLS SHM ad dA D p l e (rmD 3) s m args below meth c 7 (some (.int r)) μ' 69 lv [] μ) : ∀ (v1 : Int32) (v2 : Int32) (v4 : Int32) (v6 : Int32) (s0 : Int32) (μ : Mm) (lv : Nat → Option Value), lv 0 = some (.ref (ad 0)) → lv 1 = some (.int v1) → lv 2 = some (.int v2) → lv 4 = some (.int v4) → lv 6 = some (.int v6) → f_M_whyNot_B127 N k69 v1 v2 v4 v6 s0 μ = some (r, μ') → Go CLS SHM ad dA D p l e (rmD 3) s m args below meth c 7 (some (.int r)) μ' 127 lv [.int s0] μ := by
  intro v1 v2 v4 v6 s0 μ lv hl0 hl1 hl2 hl4 hl6 hf
  unfold f_M_whyNot_B127 at hf
  refine g_istore C d_M_whyNot_127 (by decide) ?_
  refine g_iinc (v := 1) C d_M_whyNot_129 (upG hl6 rfl) (by decide) (by decide) ?_
  refine g_goto (tgt := 69) C d_M_whyNot_132 (by decide) ?_
  exact hk69 _ _ _ _ _ _ _ ((upG (upG hl0 rfl) rfl)) ((upG (upG hl1 rfl) rfl)) ((upG (upG hl2 rfl) rfl)) ((upG (upG hl4 rfl) rfl)) ((upG upS rfl)) upS hf
set_option maxHeartbeats 4000000 in
theorem t_M_whyNot_B126 {ad : Nat → Nat} {dA : Nat → ClassId} {D : va_G} {p : Program} {l : Launch} {e : Env} {s : State} {m : MethodId} {args : Array Value} {below : List Frame} {meth : Method} {c : Code} {r : Int32} {μ' : Mm} (C : Cx CLS SHM ad dA D p s m args meth c c_M_whyNot 7 R_M (some .int)) (N : Nat)   (k69 : Int32 → Int32 → Int32 → Int32 → Int32 → Mm → Option (Int32 × Mm)) (hk69 : ∀ (v1 : Int32) (v2 : Int32) (v4 : Int32) (v5 : Int32) (v6 : Int32) (μ : Mm) (lv : Nat → Option Value), lv 0 = some (.ref (ad 0)) → lv 1 = some (.int v1) → lv 2 = some (.int v2) → lv 4 = some (.int v4) → lv 5 = some (.int v5) → lv 6 = some (.int v6) → k69 v1 v2 v4 v5 v6 μ = some (r, μ') → Go CLS SHM ad dA D p l e (rmD 3) s m args below meth c 7 (some (.int r)) μ' 69 lv [] μ) : ∀ (v1 : Int32) (v2 : Int32) (v4 : Int32) (v6 : Int32) (μ : Mm) (lv : Nat → Option Value), lv 0 = some (.ref (ad 0)) → lv 1 = some (.int v1) → lv 2 = some (.int v2) → lv 4 = some (.int v4) → lv 6 = some (.int v6) → f_M_whyNot_B126 N k69 v1 v2 v4 v6 μ = some (r, μ') → Go CLS SHM ad dA D p l e (rmD 3) s m args below meth c 7 (some (.int r)) μ' 126 lv [] μ := by
  intro v1 v2 v4 v6 μ lv hl0 hl1 hl2 hl4 hl6 hf
  unfold f_M_whyNot_B126 at hf
  refine g_iconst (v := 0) C d_M_whyNot_126 (by decide) ?_
  exact t_M_whyNot_B127 C N _ hk69 _ _ _ _ _ _ _ hl0 hl1 hl2 hl4 hl6 hf
set_option maxHeartbeats 4000000 in
theorem t_M_whyNot_B100 {ad : Nat → Nat} {dA : Nat → ClassId} {D : va_G} {p : Program} {l : Launch} {e : Env} {s : State} {m : MethodId} {args : Array Value} {below : List Frame} {meth : Method} {c : Code} {r : Int32} {μ' : Mm} (C : Cx CLS SHM ad dA D p s m args meth c c_M_whyNot 7 R_M (some .int)) (N : Nat)   (k69 : Int32 → Int32 → Int32 → Int32 → Int32 → Mm → Option (Int32 × Mm)) (hk69 : ∀ (v1 : Int32) (v2 : Int32) (v4 : Int32) (v5 : Int32) (v6 : Int32) (μ : Mm) (lv : Nat → Option Value), lv 0 = some (.ref (ad 0)) → lv 1 = some (.int v1) → lv 2 = some (.int v2) → lv 4 = some (.int v4) → lv 5 = some (.int v5) → lv 6 = some (.int v6) → k69 v1 v2 v4 v5 v6 μ = some (r, μ') → Go CLS SHM ad dA D p l e (rmD 3) s m args below meth c 7 (some (.int r)) μ' 69 lv [] μ) : ∀ (v1 : Int32) (v2 : Int32) (v5 : Int32) (v6 : Int32) (s0 : Int32) (μ : Mm) (lv : Nat → Option Value), lv 0 = some (.ref (ad 0)) → lv 1 = some (.int v1) → lv 2 = some (.int v2) → lv 5 = some (.int v5) → lv 6 = some (.int v6) → f_M_whyNot_B100 N k69 v1 v2 v5 v6 s0 μ = some (r, μ') → Go CLS SHM ad dA D p l e (rmD 3) s m args below meth c 7 (some (.int r)) μ' 100 lv [.int s0] μ := by
  intro v1 v2 v5 v6 s0 μ lv hl0 hl1 hl2 hl5 hl6 hf
  unfold f_M_whyNot_B100 at hf
  refine g_istore C d_M_whyNot_100 (by decide) ?_
  refine g_iload C d_M_whyNot_102 (upG hl5 rfl) ?_
  refine g_if_eq (tgt := 126) C d_M_whyNot_104 (by decide) hf (fun c17 hf => ?_) (fun c17 hf => ?_)
  · exact t_M_whyNot_B126 C N _ hk69 _ _ _ _ _ _ ((upG hl0 rfl)) ((upG hl1 rfl)) ((upG hl2 rfl)) upS ((upG hl6 rfl)) hf
  · refine g_aload_n C d_M_whyNot_107 rfl (upG hl0 rfl) ?_
    refine g_getR (b := 6) (k := 11) C k_M (by decide) fl_M_26 rfl rfl d_M_whyNot_108 ?_
    refine g_aload_n C d_M_whyNot_111 rfl (upG hl0 rfl) ?_
    refine g_iload_n C d_M_whyNot_112 rfl (upG hl1 rfl) ?_
    refine g_iload C d_M_whyNot_113 (upG hl6 rfl) ?_
    refine g_cvI C k_M rfl mv_M_pair ml_M_175 d_M_whyNot_115 hf (fun r μ1 h => t_M_pair C.2.2.2.2.2.2.2.2.1 h) rfl rfl (by decide) (Nat.le_of_ble_eq_true rfl) (fun r19 μ18 hf => ?_)
    refine g_zald C rfl d_M_whyNot_118 hf (fun hf => ?_)
    refine g_if_ne (tgt := 126) C d_M_whyNot_119 (by decide) hf (fun c20 hf => ?_) (fun c20 hf => ?_)
    · refine g_iconst (v := 1) C d_M_whyNot_122 (by decide) ?_
      refine g_goto (tgt := 127) C d_M_whyNot_123 (by decide) ?_
      exact t_M_whyNot_B127 C N _ hk69 _ _ _ _ _ _ _ ((upG hl0 rfl)) ((upG hl1 rfl)) ((upG hl2 rfl)) upS ((upG hl6 rfl)) hf
    · exact t_M_whyNot_B126 C N _ hk69 _ _ _ _ _ _ ((upG hl0 rfl)) ((upG hl1 rfl)) ((upG hl2 rfl)) upS ((upG hl6 rfl)) hf
set_option maxHeartbeats 4000000 in
theorem t_M_whyNot_B99 {ad : Nat → Nat} {dA : Nat → ClassId} {D : va_G} {p : Program} {l : Launch} {e : Env} {s : State} {m : MethodId} {args : Array Value} {below : List Frame} {meth : Method} {c : Code} {r : Int32} {μ' : Mm} (C : Cx CLS SHM ad dA D p s m args meth c c_M_whyNot 7 R_M (some .int)) (N : Nat)   (k69 : Int32 → Int32 → Int32 → Int32 → Int32 → Mm → Option (Int32 × Mm)) (hk69 : ∀ (v1 : Int32) (v2 : Int32) (v4 : Int32) (v5 : Int32) (v6 : Int32) (μ : Mm) (lv : Nat → Option Value), lv 0 = some (.ref (ad 0)) → lv 1 = some (.int v1) → lv 2 = some (.int v2) → lv 4 = some (.int v4) → lv 5 = some (.int v5) → lv 6 = some (.int v6) → k69 v1 v2 v4 v5 v6 μ = some (r, μ') → Go CLS SHM ad dA D p l e (rmD 3) s m args below meth c 7 (some (.int r)) μ' 69 lv [] μ) : ∀ (v1 : Int32) (v2 : Int32) (v5 : Int32) (v6 : Int32) (μ : Mm) (lv : Nat → Option Value), lv 0 = some (.ref (ad 0)) → lv 1 = some (.int v1) → lv 2 = some (.int v2) → lv 5 = some (.int v5) → lv 6 = some (.int v6) → f_M_whyNot_B99 N k69 v1 v2 v5 v6 μ = some (r, μ') → Go CLS SHM ad dA D p l e (rmD 3) s m args below meth c 7 (some (.int r)) μ' 99 lv [] μ := by
  intro v1 v2 v5 v6 μ lv hl0 hl1 hl2 hl5 hl6 hf
  unfold f_M_whyNot_B99 at hf
  refine g_iconst (v := 0) C d_M_whyNot_99 (by decide) ?_
  exact t_M_whyNot_B100 C N _ hk69 _ _ _ _ _ _ _ hl0 hl1 hl2 hl5 hl6 hf
set_option maxHeartbeats 4000000 in
theorem t_M_whyNot_L69 {ad : Nat → Nat} {dA : Nat → ClassId} {D : va_G} {p : Program} {l : Launch} {e : Env} {s : State} {m : MethodId} {args : Array Value} {below : List Frame} {meth : Method} {c : Code} {r : Int32} {μ' : Mm} (C : Cx CLS SHM ad dA D p s m args meth c c_M_whyNot 7 R_M (some .int)) (N : Nat)   : ∀ (n : Nat) (v1 : Int32) (v2 : Int32) (v4 : Int32) (v5 : Int32) (v6 : Int32) (μ : Mm) (lv : Nat → Option Value), lv 0 = some (.ref (ad 0)) → lv 1 = some (.int v1) → lv 2 = some (.int v2) → lv 4 = some (.int v4) → lv 5 = some (.int v5) → lv 6 = some (.int v6) → f_M_whyNot_L69 N n v1 v2 v4 v5 v6 μ = some (r, μ') → Go CLS SHM ad dA D p l e (rmD 3) s m args below meth c 7 (some (.int r)) μ' 69 lv [] μ := by
  intro n
  induction n with
  | zero => intro v1 v2 v4 v5 v6 μ lv hl0 hl1 hl2 hl4 hl5 hl6 hf; cases (show none = some _ from hf)
  | succ n ih =>
    intro v1 v2 v4 v5 v6 μ lv hl0 hl1 hl2 hl4 hl5 hl6 hf
    unfold f_M_whyNot_L69 at hf
    refine g_iload C d_M_whyNot_69 hl6 ?_
    refine g_iload_n C d_M_whyNot_71 rfl hl2 ?_
    refine g_icmp_ge (tgt := 135) C d_M_whyNot_72 (by decide) hf (fun c12 hf => ?_) (fun c12 hf => ?_)
    · exact t_M_whyNot_B135 C N _ _ _ _ _ hl0 hl1 hl4 hl5 hf
    · refine g_iload C d_M_whyNot_75 hl4 ?_
      refine g_if_eq (tgt := 99) C d_M_whyNot_77 (by decide) hf (fun c13 hf => ?_) (fun c13 hf => ?_)
      · exact t_M_whyNot_B99 C N _ ih _ _ _ _ _ _ hl0 hl1 hl2 hl5 hl6 hf
      · refine g_aload_n C d_M_whyNot_80 rfl hl0 ?_
        refine g_getR (b := 5) (k := 10) C k_M (by decide) fl_M_23 rfl rfl d_M_whyNot_81 ?_
        refine g_aload_n C d_M_whyNot_84 rfl hl0 ?_
        refine g_iload_n C d_M_whyNot_85 rfl hl1 ?_
        refine g_iload C d_M_whyNot_86 hl6 ?_
        refine g_cvI C k_M rfl mv_M_pair ml_M_175 d_M_whyNot_88 hf (fun r μ1 h => t_M_pair C.2.2.2.2.2.2.2.2.1 h) rfl rfl (by decide) (Nat.le_of_ble_eq_true rfl) (fun r15 μ14 hf => ?_)
        refine g_iald C rfl d_M_whyNot_91 hf (fun hf => ?_)
        refine g_if_le (tgt := 99) C d_M_whyNot_92 (by decide) hf (fun c16 hf => ?_) (fun c16 hf => ?_)
        · exact t_M_whyNot_B99 C N _ ih _ _ _ _ _ _ hl0 hl1 hl2 hl5 hl6 hf
        · refine g_iconst (v := 1) C d_M_whyNot_95 (by decide) ?_
          refine g_goto (tgt := 100) C d_M_whyNot_96 (by decide) ?_
          exact t_M_whyNot_B100 C N _ ih _ _ _ _ _ _ _ hl0 hl1 hl2 hl5 hl6 hf
set_option maxHeartbeats 4000000 in
theorem t_M_whyNot_B54 {ad : Nat → Nat} {dA : Nat → ClassId} {D : va_G} {p : Program} {l : Launch} {e : Env} {s : State} {m : MethodId} {args : Array Value} {below : List Frame} {meth : Method} {c : Code} {r : Int32} {μ' : Mm} (C : Cx CLS SHM ad dA D p s m args meth c c_M_whyNot 7 R_M (some .int)) (N : Nat)   : ∀ (v1 : Int32) (v2 : Int32) (v3 : Int32) (μ : Mm) (lv : Nat → Option Value), lv 0 = some (.ref (ad 0)) → lv 1 = some (.int v1) → lv 2 = some (.int v2) → lv 3 = some (.int v3) → f_M_whyNot_B54 N v1 v2 v3 μ = some (r, μ') → Go CLS SHM ad dA D p l e (rmD 3) s m args below meth c 7 (some (.int r)) μ' 54 lv [] μ := by
  intro v1 v2 v3 μ lv hl0 hl1 hl2 hl3 hf
  unfold f_M_whyNot_B54 at hf
  refine g_iload_n C d_M_whyNot_54 rfl hl3 ?_
  refine g_if_ne (tgt := 60) C d_M_whyNot_55 (by decide) hf (fun c11 hf => ?_) (fun c11 hf => ?_)
  · refine g_iconst (v := 2) C d_M_whyNot_58 (by decide) ?_
    exact g_iret C d_M_whyNot_59 hf
  · refine g_iconst (v := 1) C d_M_whyNot_60 (by decide) ?_
    refine g_istore C d_M_whyNot_61 (by decide) ?_
    refine g_iconst (v := 1) C d_M_whyNot_63 (by decide) ?_
    refine g_istore C d_M_whyNot_64 (by decide) ?_
    refine g_iconst (v := 0) C d_M_whyNot_66 (by decide) ?_
    refine g_istore C d_M_whyNot_67 (by decide) ?_
    exact t_M_whyNot_L69 C N N _ _ _ _ _ _ _ ((upG (upG (upG hl0 rfl) rfl) rfl)) ((upG (upG (upG hl1 rfl) rfl) rfl)) ((upG (upG (upG hl2 rfl) rfl) rfl)) ((upG (upG upS rfl) rfl)) ((upG upS rfl)) upS hf
set_option maxHeartbeats 4000000 in
theorem t_M_whyNot_B47 {ad : Nat → Nat} {dA : Nat → ClassId} {D : va_G} {p : Program} {l : Launch} {e : Env} {s : State} {m : MethodId} {args : Array Value} {below : List Frame} {meth : Method} {c : Code} {r : Int32} {μ' : Mm} (C : Cx CLS SHM ad dA D p s m args meth c c_M_whyNot 7 R_M (some .int)) (N : Nat)   (k18 : Int32 → Int32 → Int32 → Int32 → Mm → Option (Int32 × Mm)) (hk18 : ∀ (v1 : Int32) (v2 : Int32) (v3 : Int32) (v4 : Int32) (μ : Mm) (lv : Nat → Option Value), lv 0 = some (.ref (ad 0)) → lv 1 = some (.int v1) → lv 2 = some (.int v2) → lv 3 = some (.int v3) → lv 4 = some (.int v4) → k18 v1 v2 v3 v4 μ = some (r, μ') → Go CLS SHM ad dA D p l e (rmD 3) s m args below meth c 7 (some (.int r)) μ' 18 lv [] μ) : ∀ (v1 : Int32) (v2 : Int32) (v4 : Int32) (s0 : Int32) (μ : Mm) (lv : Nat → Option Value), lv 0 = some (.ref (ad 0)) → lv 1 = some (.int v1) → lv 2 = some (.int v2) → lv 4 = some (.int v4) → f_M_whyNot_B47 N k18 v1 v2 v4 s0 μ = some (r, μ') → Go CLS SHM ad dA D p l e (rmD 3) s m args below meth c 7 (some (.int r)) μ' 47 lv [.int s0] μ := by
  intro v1 v2 v4 s0 μ lv hl0 hl1 hl2 hl4 hf
  unfold f_M_whyNot_B47 at hf
  refine g_istore_n C d_M_whyNot_47 rfl (by decide) ?_
  refine g_iinc (v := 1) C d_M_whyNot_48 (upG hl4 rfl) (by decide) (by decide) ?_
  refine g_goto (tgt := 18) C d_M_whyNot_51 (by decide) ?_
  exact hk18 _ _ _ _ _ _ ((upG (upG hl0 rfl) rfl)) ((upG (upG hl1 rfl) rfl)) ((upG (upG hl2 rfl) rfl)) ((upG upS rfl)) upS hf
set_option maxHeartbeats 4000000 in
theorem t_M_whyNot_B46 {ad : Nat → Nat} {dA : Nat → ClassId} {D : va_G} {p : Program} {l : Launch} {e : Env} {s : State} {m : MethodId} {args : Array Value} {below : List Frame} {meth : Method} {c : Code} {r : Int32} {μ' : Mm} (C : Cx CLS SHM ad dA D p s m args meth c c_M_whyNot 7 R_M (some .int)) (N : Nat)   (k18 : Int32 → Int32 → Int32 → Int32 → Mm → Option (Int32 × Mm)) (hk18 : ∀ (v1 : Int32) (v2 : Int32) (v3 : Int32) (v4 : Int32) (μ : Mm) (lv : Nat → Option Value), lv 0 = some (.ref (ad 0)) → lv 1 = some (.int v1) → lv 2 = some (.int v2) → lv 3 = some (.int v3) → lv 4 = some (.int v4) → k18 v1 v2 v3 v4 μ = some (r, μ') → Go CLS SHM ad dA D p l e (rmD 3) s m args below meth c 7 (some (.int r)) μ' 18 lv [] μ) : ∀ (v1 : Int32) (v2 : Int32) (v4 : Int32) (μ : Mm) (lv : Nat → Option Value), lv 0 = some (.ref (ad 0)) → lv 1 = some (.int v1) → lv 2 = some (.int v2) → lv 4 = some (.int v4) → f_M_whyNot_B46 N k18 v1 v2 v4 μ = some (r, μ') → Go CLS SHM ad dA D p l e (rmD 3) s m args below meth c 7 (some (.int r)) μ' 46 lv [] μ := by
  intro v1 v2 v4 μ lv hl0 hl1 hl2 hl4 hf
  unfold f_M_whyNot_B46 at hf
  refine g_iconst (v := 0) C d_M_whyNot_46 (by decide) ?_
  exact t_M_whyNot_B47 C N _ hk18 _ _ _ _ _ _ hl0 hl1 hl2 hl4 hf
set_option maxHeartbeats 4000000 in
theorem t_M_whyNot_L18 {ad : Nat → Nat} {dA : Nat → ClassId} {D : va_G} {p : Program} {l : Launch} {e : Env} {s : State} {m : MethodId} {args : Array Value} {below : List Frame} {meth : Method} {c : Code} {r : Int32} {μ' : Mm} (C : Cx CLS SHM ad dA D p s m args meth c c_M_whyNot 7 R_M (some .int)) (N : Nat)   : ∀ (n : Nat) (v1 : Int32) (v2 : Int32) (v3 : Int32) (v4 : Int32) (μ : Mm) (lv : Nat → Option Value), lv 0 = some (.ref (ad 0)) → lv 1 = some (.int v1) → lv 2 = some (.int v2) → lv 3 = some (.int v3) → lv 4 = some (.int v4) → f_M_whyNot_L18 N n v1 v2 v3 v4 μ = some (r, μ') → Go CLS SHM ad dA D p l e (rmD 3) s m args below meth c 7 (some (.int r)) μ' 18 lv [] μ := by
  intro n
  induction n with
  | zero => intro v1 v2 v3 v4 μ lv hl0 hl1 hl2 hl3 hl4 hf; cases (show none = some _ from hf)
  | succ n ih =>
    intro v1 v2 v3 v4 μ lv hl0 hl1 hl2 hl3 hl4 hf
    unfold f_M_whyNot_L18 at hf
    refine g_iload C d_M_whyNot_18 hl4 ?_
    refine g_iload_n C d_M_whyNot_20 rfl hl2 ?_
    refine g_icmp_ge (tgt := 54) C d_M_whyNot_21 (by decide) hf (fun c3 hf => ?_) (fun c3 hf => ?_)
    · exact t_M_whyNot_B54 C N _ _ _ _ _ hl0 hl1 hl2 hl3 hf
    · refine g_iload_n C d_M_whyNot_24 rfl hl3 ?_
      refine g_if_eq (tgt := 46) C d_M_whyNot_25 (by decide) hf (fun c4 hf => ?_) (fun c4 hf => ?_)
      · exact t_M_whyNot_B46 C N _ ih _ _ _ _ _ hl0 hl1 hl2 hl4 hf
      · refine g_aload_n C d_M_whyNot_28 rfl hl0 ?_
        refine g_aload_n C d_M_whyNot_29 rfl hl0 ?_
        refine g_iload_n C d_M_whyNot_30 rfl hl1 ?_
        refine g_iload C d_M_whyNot_31 hl4 ?_
        refine g_cvI C k_M rfl mv_M_post ml_M_172 d_M_whyNot_33 hf (fun r μ1 h => t_M_post C.2.2.2.2.2.2.2.2.1 h) rfl rfl (by decide) (Nat.le_of_ble_eq_true rfl) (fun r6 μ5 hf => ?_)
        refine g_cvI C k_M rfl mv_M_isPost ml_M_151 d_M_whyNot_36 hf (fun r μ1 h => t_M_isPost C.2.2.2.2.2.2.2.2.1 h) rfl rfl (by decide) (Nat.le_of_ble_eq_true rfl) (fun r8 μ7 hf => ?_)
        refine g_if_eq (tgt := 46) C d_M_whyNot_39 (by decide) hf (fun c9 hf => ?_) (fun c9 hf => ?_)
        · exact t_M_whyNot_B46 C N _ ih _ _ _ _ _ hl0 hl1 hl2 hl4 hf
        · refine g_iconst (v := 1) C d_M_whyNot_42 (by decide) ?_
          refine g_goto (tgt := 47) C d_M_whyNot_43 (by decide) ?_
          exact t_M_whyNot_B47 C N _ ih _ _ _ _ _ _ hl0 hl1 hl2 hl4 hf
set_option maxHeartbeats 4000000 in
theorem t_M_whyNot {l : Launch} {ad : Nat → Nat} {dA : Nat → ClassId} {D : va_G} (hi : Inj SHM ad) {N : Nat} {a1 : Int32}  {μ μ' : Mm} {r : Int32} (hf : f_M_whyNot N a1 μ = some (r, μ')) : Ct CLS l SHM ad dA D y_M_whyNot c_M_whyNot 7 (some .int) 3 [.ref (ad 0), .int a1] μ (some (.int r)) μ' := by
  unfold f_M_whyNot at hf
  refine ct_of (by decide) hi (Nat.le_of_ble_eq_true rfl) ?_
  intro p e s m args below meth c C
  refine g_aload_n C d_M_whyNot_0 rfl rfl ?_
  refine g_getR (b := 17) (k := 23) C k_M (by decide) fl_M_60 rfl rfl d_M_whyNot_1 ?_
  refine g_iload_n C d_M_whyNot_4 rfl rfl ?_
  refine g_iald C rfl d_M_whyNot_5 hf (fun hf => ?_)
  refine g_istore_n C d_M_whyNot_6 rfl (by decide) ?_
  refine g_iload_n C d_M_whyNot_7 rfl upS ?_
  refine g_if_ne (tgt := 13) C d_M_whyNot_8 (by decide) hf (fun c2 hf => ?_) (fun c2 hf => ?_)
  · refine g_iconst (v := 1) C d_M_whyNot_11 (by decide) ?_
    exact g_iret C d_M_whyNot_12 hf
  · refine g_iconst (v := 1) C d_M_whyNot_13 (by decide) ?_
    refine g_istore_n C d_M_whyNot_14 rfl (by decide) ?_
    refine g_iconst (v := 0) C d_M_whyNot_15 (by decide) ?_
    refine g_istore C d_M_whyNot_16 (by decide) ?_
    exact t_M_whyNot_L18 C N N _ _ _ _ _ _ ((upG (upG (upG rfl rfl) rfl) rfl)) ((upG (upG (upG rfl rfl) rfl) rfl)) ((upG (upG upS rfl) rfl)) ((upG upS rfl)) upS hf
set_option maxHeartbeats 4000000 in
theorem t_M_goes {l : Launch} {ad : Nat → Nat} {dA : Nat → ClassId} {D : va_G} (hi : Inj SHM ad) {N : Nat} {a1 : Int32}  {μ μ' : Mm} {r : Int32} (hf : f_M_goes N a1 μ = some (r, μ')) : Ct CLS l SHM ad dA D y_M_goes c_M_goes 2 (some .boolean) 4 [.ref (ad 0), .int a1] μ (some (.int r)) μ' := by
  unfold f_M_goes at hf
  refine ct_of (by decide) hi (Nat.le_of_ble_eq_true rfl) ?_
  intro p e s m args below meth c C
  refine g_aload_n C d_M_goes_0 rfl rfl ?_
  refine g_getR (b := 16) (k := 22) C k_M (by decide) fl_M_57 rfl rfl d_M_goes_1 ?_
  refine g_iload_n C d_M_goes_4 rfl rfl ?_
  refine g_zald C rfl d_M_goes_5 hf (fun hf => ?_)
  refine g_if_ne (tgt := 30) C d_M_goes_6 (by decide) hf (fun c1 hf => ?_) (fun c1 hf => ?_)
  · refine g_aload_n C d_M_goes_9 rfl rfl ?_
    refine g_getR (b := 15) (k := 21) C k_M (by decide) fl_M_54 rfl rfl d_M_goes_10 ?_
    refine g_iload_n C d_M_goes_13 rfl rfl ?_
    refine g_zald C rfl d_M_goes_14 hf (fun hf => ?_)
    refine g_if_ne (tgt := 30) C d_M_goes_15 (by decide) hf (fun c2 hf => ?_) (fun c2 hf => ?_)
    · refine g_aload_n C d_M_goes_18 rfl rfl ?_
      refine g_getI (k := 27) C k_M (by decide) fl_M_181 rfl rfl d_M_goes_19 ?_
      refine g_iload_n C d_M_goes_22 rfl rfl ?_
      refine g_ishr C d_M_goes_23 ?_
      refine g_iconst (v := 1) C d_M_goes_24 (by decide) ?_
      refine g_iand C d_M_goes_25 ?_
      refine g_iconst (v := 1) C d_M_goes_26 (by decide) ?_
      refine g_icmp_ne (tgt := 32) C d_M_goes_27 (by decide) hf (fun c3 hf => ?_) (fun c3 hf => ?_)
      · refine g_iconst (v := 0) C d_M_goes_30 (by decide) ?_
        exact g_zretc C d_M_goes_31 rfl hf
      · refine g_aload_n C d_M_goes_32 rfl rfl ?_
        refine g_getR (b := 10) (k := 16) C k_M (by decide) fl_M_39 rfl rfl d_M_goes_33 ?_
        refine g_iload_n C d_M_goes_36 rfl rfl ?_
        refine g_iald C rfl d_M_goes_37 hf (fun hf => ?_)
        refine g_iconst (v := 3) C d_M_goes_38 (by decide) ?_
        refine g_icmp_ne (tgt := 55) C d_M_goes_39 (by decide) hf (fun c4 hf => ?_) (fun c4 hf => ?_)
        · refine g_aload_n C d_M_goes_42 rfl rfl ?_
          refine g_aload_n C d_M_goes_43 rfl rfl ?_
          refine g_getR (b := 13) (k := 19) C k_M (by decide) fl_M_48 rfl rfl d_M_goes_44 ?_
          refine g_iload_n C d_M_goes_47 rfl rfl ?_
          refine g_iald C rfl d_M_goes_48 hf (fun hf => ?_)
          refine g_cvI C k_M rfl mv_M_isPost ml_M_151 d_M_goes_49 hf (fun r μ1 h => t_M_isPost C.2.2.2.2.2.2.2.2.1 h) rfl rfl (by decide) (Nat.le_of_ble_eq_true rfl) (fun r6 μ5 hf => ?_)
          refine g_goto (tgt := 68) C d_M_goes_52 (by decide) ?_
          exact g_zret C d_M_goes_68 hf
        · refine g_aload_n C d_M_goes_55 rfl rfl ?_
          refine g_iload_n C d_M_goes_56 rfl rfl ?_
          refine g_cvI C k_M rfl mv_M_whyNot ml_M_184 d_M_goes_57 hf (fun r μ1 h => t_M_whyNot C.2.2.2.2.2.2.2.2.1 h) rfl rfl (by decide) (Nat.le_of_ble_eq_true rfl) (fun r8 μ7 hf => ?_)
          refine g_if_ne (tgt := 67) C d_M_goes_60 (by decide) hf (fun c9 hf => ?_) (fun c9 hf => ?_)
          · refine g_iconst (v := 1) C d_M_goes_63 (by decide) ?_
            refine g_goto (tgt := 68) C d_M_goes_64 (by decide) ?_
            exact g_zretc C d_M_goes_68 rfl hf
          · refine g_iconst (v := 0) C d_M_goes_67 (by decide) ?_
            exact g_zretc C d_M_goes_68 rfl hf
    · refine g_iconst (v := 0) C d_M_goes_30 (by decide) ?_
      exact g_zretc C d_M_goes_31 rfl hf
  · refine g_iconst (v := 0) C d_M_goes_30 (by decide) ?_
    exact g_zretc C d_M_goes_31 rfl hf
set_option maxHeartbeats 4000000 in
theorem t_M_periodOf_L16 {ad : Nat → Nat} {dA : Nat → ClassId} {D : va_G} {p : Program} {l : Launch} {e : Env} {s : State} {m : MethodId} {args : Array Value} {below : List Frame} {meth : Method} {c : Code} {r : Int32} {μ' : Mm} (C : Cx CLS SHM ad dA D p s m args meth c c_M_periodOf 4 R_M (some .int)) (N : Nat)   : ∀ (n : Nat) (v1 : Int32) (v2 : Int32) (v3 : Int32) (μ : Mm) (lv : Nat → Option Value), lv 0 = some (.ref (ad 0)) → lv 1 = some (.int v1) → lv 2 = some (.int v2) → lv 3 = some (.int v3) → f_M_periodOf_L16 N n v1 v2 v3 μ = some (r, μ') → Go CLS SHM ad dA D p l e (rmD 2) s m args below meth c 4 (some (.int r)) μ' 16 lv [] μ := by
  intro n
  induction n with
  | zero => intro v1 v2 v3 μ lv hl0 hl1 hl2 hl3 hf; cases (show none = some _ from hf)
  | succ n ih =>
    intro v1 v2 v3 μ lv hl0 hl1 hl2 hl3 hf
    unfold f_M_periodOf_L16 at hf
    refine g_iload_n C d_M_periodOf_16 rfl hl3 ?_
    refine g_aload_n C d_M_periodOf_17 rfl hl0 ?_
    refine g_getR (b := 17) (k := 23) C k_M (by decide) fl_M_60 rfl rfl d_M_periodOf_18 ?_
    refine g_iload_n C d_M_periodOf_21 rfl hl1 ?_
    refine g_iald C rfl d_M_periodOf_22 hf (fun hf => ?_)
    refine g_icmp_ge (tgt := 59) C d_M_periodOf_23 (by decide) hf (fun c2 hf => ?_) (fun c2 hf => ?_)
    · refine g_iload_n C d_M_periodOf_59 rfl hl2 ?_
      exact g_iret C d_M_periodOf_60 hf
    · refine g_iload_n C d_M_periodOf_26 rfl hl2 ?_
      refine g_aload_n C d_M_periodOf_27 rfl hl0 ?_
      refine g_iload_n C d_M_periodOf_28 rfl hl1 ?_
      refine g_iload_n C d_M_periodOf_29 rfl hl3 ?_
      refine g_cvI C k_M rfl mv_M_rest ml_M_187 d_M_periodOf_30 hf (fun r μ1 h => t_M_rest C.2.2.2.2.2.2.2.2.1 h) rfl rfl (by decide) (Nat.le_of_ble_eq_true rfl) (fun r4 μ3 hf => ?_)
      refine g_aload_n C d_M_periodOf_33 rfl hl0 ?_
      refine g_getR (b := 5) (k := 10) C k_M (by decide) fl_M_23 rfl rfl d_M_periodOf_34 ?_
      refine g_aload_n C d_M_periodOf_37 rfl hl0 ?_
      refine g_iload_n C d_M_periodOf_38 rfl hl1 ?_
      refine g_iload_n C d_M_periodOf_39 rfl hl3 ?_
      refine g_cvI C k_M rfl mv_M_pair ml_M_175 d_M_periodOf_40 hf (fun r μ1 h => t_M_pair C.2.2.2.2.2.2.2.2.1 h) rfl rfl (by decide) (Nat.le_of_ble_eq_true rfl) (fun r6 μ5 hf => ?_)
      refine g_iald C rfl d_M_periodOf_43 hf (fun hf => ?_)
      refine g_aload_n C d_M_periodOf_44 rfl hl0 ?_
      refine g_iload_n C d_M_periodOf_45 rfl hl1 ?_
      refine g_cvI C k_M rfl mv_M_unitOf ml_M_190 d_M_periodOf_46 hf (fun r μ1 h => t_M_unitOf C.2.2.2.2.2.2.2.2.1 h) rfl rfl (by decide) (Nat.le_of_ble_eq_true rfl) (fun r8 μ7 hf => ?_)
      refine g_imul C d_M_periodOf_49 ?_
      refine g_iadd C d_M_periodOf_50 ?_
      refine g_iadd C d_M_periodOf_51 ?_
      refine g_istore_n C d_M_periodOf_52 rfl (by decide) ?_
      refine g_iinc (v := 1) C d_M_periodOf_53 (upG hl3 rfl) (by decide) (by decide) ?_
      refine g_goto (tgt := 16) C d_M_periodOf_56 (by decide) ?_
      exact ih _ _ _ _ _ ((upG (upG hl0 rfl) rfl)) ((upG (upG hl1 rfl) rfl)) ((upG upS rfl)) upS hf
set_option maxHeartbeats 4000000 in
theorem t_M_periodOf {l : Launch} {ad : Nat → Nat} {dA : Nat → ClassId} {D : va_G} (hi : Inj SHM ad) {N : Nat} {a1 : Int32}  {μ μ' : Mm} {r : Int32} (hf : f_M_periodOf N a1 μ = some (r, μ')) : Ct CLS l SHM ad dA D y_M_periodOf c_M_periodOf 4 (some .int) 2 [.ref (ad 0), .int a1] μ (some (.int r)) μ' := by
  unfold f_M_periodOf at hf
  refine ct_of (by decide) hi (Nat.le_of_ble_eq_true rfl) ?_
  intro p e s m args below meth c C
  refine g_aload_n C d_M_periodOf_0 rfl rfl ?_
  refine g_getR (b := 10) (k := 16) C k_M (by decide) fl_M_39 rfl rfl d_M_periodOf_1 ?_
  refine g_iload_n C d_M_periodOf_4 rfl rfl ?_
  refine g_iald C rfl d_M_periodOf_5 hf (fun hf => ?_)
  refine g_iconst (v := 3) C d_M_periodOf_6 (by decide) ?_
  refine g_icmp_ne (tgt := 12) C d_M_periodOf_7 (by decide) hf (fun c1 hf => ?_) (fun c1 hf => ?_)
  · refine g_iconst (v := 1) C d_M_periodOf_10 (by decide) ?_
    exact g_iret C d_M_periodOf_11 hf
  · refine g_iconst (v := 0) C d_M_periodOf_12 (by decide) ?_
    refine g_istore_n C d_M_periodOf_13 rfl (by decide) ?_
    refine g_iconst (v := 0) C d_M_periodOf_14 (by decide) ?_
    refine g_istore_n C d_M_periodOf_15 rfl (by decide) ?_
    exact t_M_periodOf_L16 C N N _ _ _ _ _ ((upG (upG rfl rfl) rfl)) ((upG (upG rfl rfl) rfl)) ((upG upS rfl)) upS hf
set_option maxHeartbeats 4000000 in
theorem t_M_toldOf {l : Launch} {ad : Nat → Nat} {dA : Nat → ClassId} {D : va_G} (hi : Inj SHM ad) {N : Nat} {a1 : Int32} {a2 : Int32}  {μ μ' : Mm} {r : Int32} (hf : f_M_toldOf N a1 a2 μ = some (r, μ')) : Ct CLS l SHM ad dA D y_M_toldOf c_M_toldOf 3 (some .int) 5 [.ref (ad 0), .int a1, .int a2] μ (some (.int r)) μ' := by
  unfold f_M_toldOf at hf
  refine ct_of (by decide) hi (Nat.le_of_ble_eq_true rfl) ?_
  intro p e s m args below meth c C
  refine g_iload_n C d_M_toldOf_0 rfl rfl ?_
  refine g_cas hf (fun e0 hf => ?_) (fun e0 hf => ?_)
  · refine g_tabIn (tgt := 40) C d_M_toldOf_1 (by rw [e0]; decide) (by rw [e0]; decide) (by rw [e0]; rfl) (by decide) ?_
    refine g_aload_n C d_M_toldOf_40 rfl rfl ?_
    refine g_getR (b := 10) (k := 16) C k_M (by decide) fl_M_39 rfl rfl d_M_toldOf_41 ?_
    refine g_iload_n C d_M_toldOf_44 rfl rfl ?_
    refine g_iald C rfl d_M_toldOf_45 hf (fun hf => ?_)
    exact g_iret C d_M_toldOf_46 hf
  · skip
    refine g_cas hf (fun e1 hf => ?_) (fun e1 hf => ?_)
    · refine g_tabIn (tgt := 47) C d_M_toldOf_1 (by rw [e1]; decide) (by rw [e1]; decide) (by rw [e1]; rfl) (by decide) ?_
      refine g_aload_n C d_M_toldOf_47 rfl rfl ?_
      refine g_iload_n C d_M_toldOf_48 rfl rfl ?_
      refine g_cvI C k_M rfl mv_M_unitOf ml_M_190 d_M_toldOf_49 hf (fun r μ1 h => t_M_unitOf C.2.2.2.2.2.2.2.2.1 h) rfl rfl (by decide) (Nat.le_of_ble_eq_true rfl) (fun r2 μ1 hf => ?_)
      exact g_iret C d_M_toldOf_52 hf
    · skip
      refine g_cas hf (fun e2 hf => ?_) (fun e2 hf => ?_)
      · refine g_tabIn (tgt := 53) C d_M_toldOf_1 (by rw [e2]; decide) (by rw [e2]; decide) (by rw [e2]; rfl) (by decide) ?_
        refine g_aload_n C d_M_toldOf_53 rfl rfl ?_
        refine g_getR (b := 14) (k := 20) C k_M (by decide) fl_M_51 rfl rfl d_M_toldOf_54 ?_
        refine g_iload_n C d_M_toldOf_57 rfl rfl ?_
        refine g_iald C rfl d_M_toldOf_58 hf (fun hf => ?_)
        exact g_iret C d_M_toldOf_59 hf
      · skip
        refine g_cas hf (fun e3 hf => ?_) (fun e3 hf => ?_)
        · refine g_tabIn (tgt := 60) C d_M_toldOf_1 (by rw [e3]; decide) (by rw [e3]; decide) (by rw [e3]; rfl) (by decide) ?_
          refine g_aload_n C d_M_toldOf_60 rfl rfl ?_
          refine g_getR (b := 15) (k := 21) C k_M (by decide) fl_M_54 rfl rfl d_M_toldOf_61 ?_
          refine g_iload_n C d_M_toldOf_64 rfl rfl ?_
          refine g_zald C rfl d_M_toldOf_65 hf (fun hf => ?_)
          refine g_if_eq (tgt := 73) C d_M_toldOf_66 (by decide) hf (fun c3 hf => ?_) (fun c3 hf => ?_)
          · refine g_iconst (v := 0) C d_M_toldOf_73 (by decide) ?_
            exact g_iret C d_M_toldOf_74 hf
          · refine g_iconst (v := 1) C d_M_toldOf_69 (by decide) ?_
            refine g_goto (tgt := 74) C d_M_toldOf_70 (by decide) ?_
            exact g_iret C d_M_toldOf_74 hf
        · skip
          refine g_cas hf (fun e4 hf => ?_) (fun e4 hf => ?_)
          · refine g_tabIn (tgt := 75) C d_M_toldOf_1 (by rw [e4]; decide) (by rw [e4]; decide) (by rw [e4]; rfl) (by decide) ?_
            refine g_aload_n C d_M_toldOf_75 rfl rfl ?_
            refine g_getR (b := 17) (k := 23) C k_M (by decide) fl_M_60 rfl rfl d_M_toldOf_76 ?_
            refine g_iload_n C d_M_toldOf_79 rfl rfl ?_
            refine g_iald C rfl d_M_toldOf_80 hf (fun hf => ?_)
            exact g_iret C d_M_toldOf_81 hf
          · skip
            refine g_cas hf (fun e5 hf => ?_) (fun e5 hf => ?_)
            · refine g_tabIn (tgt := 82) C d_M_toldOf_1 (by rw [e5]; decide) (by rw [e5]; decide) (by rw [e5]; rfl) (by decide) ?_
              refine g_aload_n C d_M_toldOf_82 rfl rfl ?_
              refine g_iload_n C d_M_toldOf_83 rfl rfl ?_
              refine g_cvI C k_M rfl mv_M_goes ml_M_193 d_M_toldOf_84 hf (fun r μ1 h => t_M_goes C.2.2.2.2.2.2.2.2.1 h) rfl rfl (by decide) (Nat.le_of_ble_eq_true rfl) (fun r5 μ4 hf => ?_)
              refine g_if_eq (tgt := 94) C d_M_toldOf_87 (by decide) hf (fun c6 hf => ?_) (fun c6 hf => ?_)
              · refine g_iconst (v := 0) C d_M_toldOf_94 (by decide) ?_
                exact g_iret C d_M_toldOf_95 hf
              · refine g_iconst (v := 1) C d_M_toldOf_90 (by decide) ?_
                refine g_goto (tgt := 95) C d_M_toldOf_91 (by decide) ?_
                exact g_iret C d_M_toldOf_95 hf
            · skip
              have e0 := tni (k := 0) (0 : Int32) rfl e0
              have e1 := tni (k := 1) (1 : Int32) rfl e1
              have e2 := tni (k := 2) (2 : Int32) rfl e2
              have e3 := tni (k := 3) (3 : Int32) rfl e3
              have e4 := tni (k := 4) (4 : Int32) rfl e4
              have e5 := tni (k := 5) (5 : Int32) rfl e5
              refine g_tabOut (tgt := 96) C d_M_toldOf_1 (by omega) (by decide) ?_
              refine g_aload_n C d_M_toldOf_96 rfl rfl ?_
              refine g_iload_n C d_M_toldOf_97 rfl rfl ?_
              refine g_cvI C k_M rfl mv_M_goes ml_M_193 d_M_toldOf_98 hf (fun r μ1 h => t_M_goes C.2.2.2.2.2.2.2.2.1 h) rfl rfl (by decide) (Nat.le_of_ble_eq_true rfl) (fun r8 μ7 hf => ?_)
              refine g_if_eq (tgt := 112) C d_M_toldOf_101 (by decide) hf (fun c9 hf => ?_) (fun c9 hf => ?_)
              · refine g_bipush (v := -9) C d_M_toldOf_112 (by decide) ?_
                exact g_iret C d_M_toldOf_114 hf
              · refine g_aload_n C d_M_toldOf_104 rfl rfl ?_
                refine g_iload_n C d_M_toldOf_105 rfl rfl ?_
                refine g_cvI C k_M rfl mv_M_periodOf ml_M_196 d_M_toldOf_106 hf (fun r μ1 h => t_M_periodOf C.2.2.2.2.2.2.2.2.1 h) rfl rfl (by decide) (Nat.le_of_ble_eq_true rfl) (fun r11 μ10 hf => ?_)
                refine g_goto (tgt := 114) C d_M_toldOf_109 (by decide) ?_
                exact g_iret C d_M_toldOf_114 hf
set_option maxHeartbeats 4000000 in
theorem t_M_told {l : Launch} {ad : Nat → Nat} {dA : Nat → ClassId} {D : va_G} (hi : Inj SHM ad) {N : Nat} {a1 : Int32} {a2 : Int32}  {μ μ' : Mm} {r : Int32} (hf : f_M_told N a1 a2 μ = some (r, μ')) : Ct CLS l SHM ad dA D y_M_told c_M_told 4 (some .int) 6 [.ref (ad 0), .int a1, .int a2] μ (some (.int r)) μ' := by
  unfold f_M_told at hf
  refine ct_of (by decide) hi (Nat.le_of_ble_eq_true rfl) ?_
  intro p e s m args below meth c C
  refine g_aload_n C d_M_told_0 rfl rfl ?_
  refine g_iload_n C d_M_told_1 rfl rfl ?_
  refine g_iconst (v := 0) C d_M_told_2 (by decide) ?_
  refine g_bipush (v := 6) C d_M_told_3 (by decide) ?_
  refine g_csI C mv_M_in ml_M_117 d_M_told_5 hf (fun r μ1 h => t_M_in C.2.2.2.2.2.2.2.2.1 h) rfl rfl (by decide) (Nat.le_of_ble_eq_true rfl) (fun r2 μ1 hf => ?_)
  refine g_iload_n C d_M_told_8 rfl rfl ?_
  refine g_cvI C k_M rfl mv_M_need ml_M_168 d_M_told_9 hf (fun r μ1 h => t_M_need C.2.2.2.2.2.2.2.2.1 h) rfl rfl (by decide) (Nat.le_of_ble_eq_true rfl) (fun r4 μ3 hf => ?_)
  refine g_istore_n C d_M_told_12 rfl (by decide) ?_
  refine g_iload_n C d_M_told_13 rfl upS ?_
  refine g_if_ge (tgt := 21) C d_M_told_14 (by decide) hf (fun c5 hf => ?_) (fun c5 hf => ?_)
  · refine g_aload_n C d_M_told_21 rfl (upG rfl rfl) ?_
    refine g_iload_n C d_M_told_22 rfl (upG rfl rfl) ?_
    refine g_iload_n C d_M_told_23 rfl (upG rfl rfl) ?_
    refine g_cvI C k_M rfl mv_M_toldOf ml_M_199 d_M_told_24 hf (fun r μ1 h => t_M_toldOf C.2.2.2.2.2.2.2.2.1 h) rfl rfl (by decide) (Nat.le_of_ble_eq_true rfl) (fun r7 μ6 hf => ?_)
    exact g_iret C d_M_told_27 hf
  · refine g_iload_n C d_M_told_17 rfl upS ?_
    refine g_goto (tgt := 27) C d_M_told_18 (by decide) ?_
    exact g_iret C d_M_told_27 hf
set_option maxHeartbeats 4000000 in
theorem t_M_mark_B52 {ad : Nat → Nat} {dA : Nat → ClassId} {D : va_G} {p : Program} {l : Launch} {e : Env} {s : State} {m : MethodId} {args : Array Value} {below : List Frame} {meth : Method} {c : Code} {r : Int32} {μ' : Mm} (C : Cx CLS SHM ad dA D p s m args meth c c_M_mark 5 R_M (some .int)) (N : Nat)   : ∀ (v1 : Int32) (v2 : Int32) (s0 : Int32) (μ : Mm) (lv : Nat → Option Value), lv 0 = some (.ref (ad 0)) → lv 1 = some (.int v1) → lv 2 = some (.int v2) → f_M_mark_B52 N v1 v2 s0 μ = some (r, μ') → Go CLS SHM ad dA D p l e (rmD 3) s m args below meth c 5 (some (.int r)) μ' 52 lv [.int s0] μ := by
  intro v1 v2 s0 μ lv hl0 hl1 hl2 hf
  unfold f_M_mark_B52 at hf
  refine g_istore C d_M_mark_52 (by decide) ?_
  refine g_iload C d_M_mark_54 upS ?_
  refine g_if_ne (tgt := 65) C d_M_mark_56 (by decide) hf (fun c10 hf => ?_) (fun c10 hf => ?_)
  · refine g_aload_n C d_M_mark_59 rfl (upG hl0 rfl) ?_
    refine g_iconst (v := 3) C d_M_mark_60 (by decide) ?_
    refine g_cvI C k_M rfl mv_M_meets ml_M_135 d_M_mark_61 hf (fun r μ1 h => t_M_meets C.2.2.2.2.2.2.2.2.1 h) rfl rfl (by decide) (Nat.le_of_ble_eq_true rfl) (fun r12 μ11 hf => ?_)
    exact g_iret C d_M_mark_64 hf
  · refine g_iload_n C d_M_mark_65 rfl (upG hl2 rfl) ?_
    refine g_if_ne (tgt := 78) C d_M_mark_66 (by decide) hf (fun c13 hf => ?_) (fun c13 hf => ?_)
    · refine g_aload_n C d_M_mark_69 rfl (upG hl0 rfl) ?_
      refine g_getR (b := 20) (k := 26) C k_M (by decide) fl_M_69 rfl rfl d_M_mark_70 ?_
      refine g_iload_n C d_M_mark_73 rfl (upG hl1 rfl) ?_
      refine g_iald C rfl d_M_mark_74 hf (fun hf => ?_)
      refine g_goto (tgt := 112) C d_M_mark_75 (by decide) ?_
      exact g_iret C d_M_mark_112 hf
    · refine g_iload_n C d_M_mark_78 rfl (upG hl2 rfl) ?_
      refine g_iconst (v := 1) C d_M_mark_79 (by decide) ?_
      refine g_icmp_ne (tgt := 92) C d_M_mark_80 (by decide) hf (fun c14 hf => ?_) (fun c14 hf => ?_)
      · refine g_aload_n C d_M_mark_83 rfl (upG hl0 rfl) ?_
        refine g_getR (b := 11) (k := 17) C k_M (by decide) fl_M_42 rfl rfl d_M_mark_84 ?_
        refine g_iload_n C d_M_mark_87 rfl (upG hl1 rfl) ?_
        refine g_iald C rfl d_M_mark_88 hf (fun hf => ?_)
        refine g_goto (tgt := 112) C d_M_mark_89 (by decide) ?_
        exact g_iret C d_M_mark_112 hf
      · refine g_iload_n C d_M_mark_92 rfl (upG hl2 rfl) ?_
        refine g_iconst (v := 2) C d_M_mark_93 (by decide) ?_
        refine g_icmp_ne (tgt := 106) C d_M_mark_94 (by decide) hf (fun c15 hf => ?_) (fun c15 hf => ?_)
        · refine g_aload_n C d_M_mark_97 rfl (upG hl0 rfl) ?_
          refine g_getR (b := 12) (k := 18) C k_M (by decide) fl_M_45 rfl rfl d_M_mark_98 ?_
          refine g_iload_n C d_M_mark_101 rfl (upG hl1 rfl) ?_
          refine g_iald C rfl d_M_mark_102 hf (fun hf => ?_)
          refine g_goto (tgt := 112) C d_M_mark_103 (by decide) ?_
          exact g_iret C d_M_mark_112 hf
        · refine g_aload_n C d_M_mark_106 rfl (upG hl0 rfl) ?_
          refine g_getR (b := 13) (k := 19) C k_M (by decide) fl_M_48 rfl rfl d_M_mark_107 ?_
          refine g_iload_n C d_M_mark_110 rfl (upG hl1 rfl) ?_
          refine g_iald C rfl d_M_mark_111 hf (fun hf => ?_)
          exact g_iret C d_M_mark_112 hf
set_option maxHeartbeats 4000000 in
theorem t_M_mark_B51 {ad : Nat → Nat} {dA : Nat → ClassId} {D : va_G} {p : Program} {l : Launch} {e : Env} {s : State} {m : MethodId} {args : Array Value} {below : List Frame} {meth : Method} {c : Code} {r : Int32} {μ' : Mm} (C : Cx CLS SHM ad dA D p s m args meth c c_M_mark 5 R_M (some .int)) (N : Nat)   : ∀ (v1 : Int32) (v2 : Int32) (μ : Mm) (lv : Nat → Option Value), lv 0 = some (.ref (ad 0)) → lv 1 = some (.int v1) → lv 2 = some (.int v2) → f_M_mark_B51 N v1 v2 μ = some (r, μ') → Go CLS SHM ad dA D p l e (rmD 3) s m args below meth c 5 (some (.int r)) μ' 51 lv [] μ := by
  intro v1 v2 μ lv hl0 hl1 hl2 hf
  unfold f_M_mark_B51 at hf
  refine g_iconst (v := 0) C d_M_mark_51 (by decide) ?_
  exact t_M_mark_B52 C N _ _ _ _ _ hl0 hl1 hl2 hf
set_option maxHeartbeats 4000000 in
theorem t_M_mark_B47 {ad : Nat → Nat} {dA : Nat → ClassId} {D : va_G} {p : Program} {l : Launch} {e : Env} {s : State} {m : MethodId} {args : Array Value} {below : List Frame} {meth : Method} {c : Code} {r : Int32} {μ' : Mm} (C : Cx CLS SHM ad dA D p s m args meth c c_M_mark 5 R_M (some .int)) (N : Nat)   : ∀ (v1 : Int32) (v2 : Int32) (μ : Mm) (lv : Nat → Option Value), lv 0 = some (.ref (ad 0)) → lv 1 = some (.int v1) → lv 2 = some (.int v2) → f_M_mark_B47 N v1 v2 μ = some (r, μ') → Go CLS SHM ad dA D p l e (rmD 3) s m args below meth c 5 (some (.int r)) μ' 47 lv [] μ := by
  intro v1 v2 μ lv hl0 hl1 hl2 hf
  unfold f_M_mark_B47 at hf
  refine g_iconst (v := 1) C d_M_mark_47 (by decide) ?_
  refine g_goto (tgt := 52) C d_M_mark_48 (by decide) ?_
  exact t_M_mark_B52 C N _ _ _ _ _ hl0 hl1 hl2 hf
set_option maxHeartbeats 4000000 in
theorem t_M_mark {l : Launch} {ad : Nat → Nat} {dA : Nat → ClassId} {D : va_G} (hi : Inj SHM ad) {N : Nat} {a1 : Int32} {a2 : Int32}  {μ μ' : Mm} {r : Int32} (hf : f_M_mark N a1 a2 μ = some (r, μ')) : Ct CLS l SHM ad dA D y_M_mark c_M_mark 5 (some .int) 3 [.ref (ad 0), .int a1, .int a2] μ (some (.int r)) μ' := by
  unfold f_M_mark at hf
  refine ct_of (by decide) hi (Nat.le_of_ble_eq_true rfl) ?_
  intro p e s m args below meth c C
  refine g_aload_n C d_M_mark_0 rfl rfl ?_
  refine g_iload_n C d_M_mark_1 rfl rfl ?_
  refine g_iconst (v := 0) C d_M_mark_2 (by decide) ?_
  refine g_iconst (v := 3) C d_M_mark_3 (by decide) ?_
  refine g_csI C mv_M_in ml_M_117 d_M_mark_4 hf (fun r μ1 h => t_M_in C.2.2.2.2.2.2.2.2.1 h) rfl rfl (by decide) (Nat.le_of_ble_eq_true rfl) (fun r2 μ1 hf => ?_)
  refine g_iload_n C d_M_mark_7 rfl rfl ?_
  refine g_cvI C k_M rfl mv_M_need ml_M_168 d_M_mark_8 hf (fun r μ1 h => t_M_need C.2.2.2.2.2.2.2.2.1 h) rfl rfl (by decide) (Nat.le_of_ble_eq_true rfl) (fun r4 μ3 hf => ?_)
  refine g_istore_n C d_M_mark_11 rfl (by decide) ?_
  refine g_iload_n C d_M_mark_12 rfl upS ?_
  refine g_if_ge (tgt := 18) C d_M_mark_13 (by decide) hf (fun c5 hf => ?_) (fun c5 hf => ?_)
  · refine g_iload_n C d_M_mark_18 rfl (upG rfl rfl) ?_
    refine g_if_eq (tgt := 47) C d_M_mark_19 (by decide) hf (fun c6 hf => ?_) (fun c6 hf => ?_)
    · exact t_M_mark_B47 C N _ _ _ _ ((upG rfl rfl)) ((upG rfl rfl)) ((upG rfl rfl)) hf
    · refine g_aload_n C d_M_mark_22 rfl (upG rfl rfl) ?_
      refine g_getR (b := 10) (k := 16) C k_M (by decide) fl_M_39 rfl rfl d_M_mark_23 ?_
      refine g_iload_n C d_M_mark_26 rfl (upG rfl rfl) ?_
      refine g_iald C rfl d_M_mark_27 hf (fun hf => ?_)
      refine g_iload_n C d_M_mark_28 rfl (upG rfl rfl) ?_
      refine g_icmp_eq (tgt := 47) C d_M_mark_29 (by decide) hf (fun c7 hf => ?_) (fun c7 hf => ?_)
      · exact t_M_mark_B47 C N _ _ _ _ ((upG rfl rfl)) ((upG rfl rfl)) ((upG rfl rfl)) hf
      · refine g_iload_n C d_M_mark_32 rfl (upG rfl rfl) ?_
        refine g_iconst (v := 1) C d_M_mark_33 (by decide) ?_
        refine g_icmp_ne (tgt := 51) C d_M_mark_34 (by decide) hf (fun c8 hf => ?_) (fun c8 hf => ?_)
        · refine g_aload_n C d_M_mark_37 rfl (upG rfl rfl) ?_
          refine g_getR (b := 10) (k := 16) C k_M (by decide) fl_M_39 rfl rfl d_M_mark_38 ?_
          refine g_iload_n C d_M_mark_41 rfl (upG rfl rfl) ?_
          refine g_iald C rfl d_M_mark_42 hf (fun hf => ?_)
          refine g_iconst (v := 2) C d_M_mark_43 (by decide) ?_
          refine g_icmp_ne (tgt := 51) C d_M_mark_44 (by decide) hf (fun c9 hf => ?_) (fun c9 hf => ?_)
          · exact t_M_mark_B47 C N _ _ _ _ ((upG rfl rfl)) ((upG rfl rfl)) ((upG rfl rfl)) hf
          · exact t_M_mark_B51 C N _ _ _ _ ((upG rfl rfl)) ((upG rfl rfl)) ((upG rfl rfl)) hf
        · exact t_M_mark_B51 C N _ _ _ _ ((upG rfl rfl)) ((upG rfl rfl)) ((upG rfl rfl)) hf
  · refine g_iload_n C d_M_mark_16 rfl upS ?_
    exact g_iret C d_M_mark_17 hf
