set_option maxHeartbeats 4000000 in
theorem t_Wa_clear_B75 {ad : Nat → Nat} {dA : Nat → ClassId} {D : va_G} {p : Program} {l : Launch} {e : Env} {s : State} {m : MethodId} {args : Array Value} {below : List Frame} {meth : Method} {c : Code} {μ' : Mm} (C : Cx CLS SHX ad dA D p s m args meth c c_Wa_clear 3 R_Wa (none)) (N : Nat)   (k2 : Int32 → Mm → Option Mm) (hk2 : ∀ (v1 : Int32) (μ : Mm) (lv : Nat → Option Value), lv 0 = some (.ref (ad 61)) → lv 1 = some (.int v1) → k2 v1 μ = some μ' → Go CLS SHX ad dA D p l e (rmD 0) s m args below meth c 3 none μ' 2 lv [] μ) : ∀ (v1 : Int32) (s1 : Int32) (s2 : Int32) (μ : Mm) (lv : Nat → Option Value), lv 0 = some (.ref (ad 61)) → lv 1 = some (.int v1) → f_Wa_clear_B75 N k2 v1 s1 s2 μ = some μ' → Go CLS SHX ad dA D p l e (rmD 0) s m args below meth c 3 none μ' 75 lv [.int s2, .int s1, .ref (ad 65)] μ := by
  intro v1 s1 s2 μ lv hl0 hl1 hf
  unfold f_Wa_clear_B75 at hf
  refine g_iast C rfl d_Wa_clear_75 hf (fun hf => ?_)
  refine g_aload_n C d_Wa_clear_76 rfl hl0 ?_
  refine g_getR (b := 66) (k := 6) C k_Wa (by decide) fl_Wa_28 rfl rfl d_Wa_clear_77 ?_
  refine g_iload_n C d_Wa_clear_80 rfl hl1 ?_
  refine g_iconst (v := -1) C d_Wa_clear_81 (by decide) ?_
  refine g_iast C rfl d_Wa_clear_82 hf (fun hf => ?_)
  refine g_aload_n C d_Wa_clear_83 rfl hl0 ?_
  refine g_getR (b := 67) (k := 7) C k_Wa (by decide) fl_Wa_31 rfl rfl d_Wa_clear_84 ?_
  refine g_iload_n C d_Wa_clear_87 rfl hl1 ?_
  refine g_iconst (v := -1) C d_Wa_clear_88 (by decide) ?_
  refine g_iast C rfl d_Wa_clear_89 hf (fun hf => ?_)
  refine g_iinc (v := 1) C d_Wa_clear_90 hl1 (by decide) (by decide) ?_
  refine g_goto (tgt := 2) C d_Wa_clear_93 (by decide) ?_
  exact hk2 _ _ _ ((upG hl0 rfl)) upS hf
set_option maxHeartbeats 4000000 in
theorem t_Wa_clear_B57 {ad : Nat → Nat} {dA : Nat → ClassId} {D : va_G} {p : Program} {l : Launch} {e : Env} {s : State} {m : MethodId} {args : Array Value} {below : List Frame} {meth : Method} {c : Code} {μ' : Mm} (C : Cx CLS SHX ad dA D p s m args meth c c_Wa_clear 3 R_Wa (none)) (N : Nat)   (k2 : Int32 → Mm → Option Mm) (hk2 : ∀ (v1 : Int32) (μ : Mm) (lv : Nat → Option Value), lv 0 = some (.ref (ad 61)) → lv 1 = some (.int v1) → k2 v1 μ = some μ' → Go CLS SHX ad dA D p l e (rmD 0) s m args below meth c 3 none μ' 2 lv [] μ) : ∀ (v1 : Int32) (v2 : Int32) (s1 : Int32) (s2 : Int32) (μ : Mm) (lv : Nat → Option Value), lv 0 = some (.ref (ad 61)) → lv 1 = some (.int v1) → lv 2 = some (.int v2) → f_Wa_clear_B57 N k2 v1 v2 s1 s2 μ = some μ' → Go CLS SHX ad dA D p l e (rmD 0) s m args below meth c 3 none μ' 57 lv [.int s2, .int s1, .ref (ad 64)] μ := by
  intro v1 v2 s1 s2 μ lv hl0 hl1 hl2 hf
  unfold f_Wa_clear_B57 at hf
  refine g_iast C rfl d_Wa_clear_57 hf (fun hf => ?_)
  refine g_aload_n C d_Wa_clear_58 rfl hl0 ?_
  refine g_getR (b := 65) (k := 5) C k_Wa (by decide) fl_Wa_25 rfl rfl d_Wa_clear_59 ?_
  refine g_iload_n C d_Wa_clear_62 rfl hl1 ?_
  refine g_iload_n C d_Wa_clear_63 rfl hl2 ?_
  refine g_if_eq (tgt := 74) C d_Wa_clear_64 (by decide) hf (fun c7 hf => ?_) (fun c7 hf => ?_)
  · refine g_iconst (v := 0) C d_Wa_clear_74 (by decide) ?_
    exact t_Wa_clear_B75 C N _ hk2 _ _ _ _ _ hl0 hl1 hf
  · refine g_aload_n C d_Wa_clear_67 rfl hl0 ?_
    refine g_getI (k := 0) C k_Wa (by decide) fl_Wa_9 rfl rfl d_Wa_clear_68 ?_
    refine g_goto (tgt := 75) C d_Wa_clear_71 (by decide) ?_
    exact t_Wa_clear_B75 C N _ hk2 _ _ _ _ _ hl0 hl1 hf
set_option maxHeartbeats 4000000 in
theorem t_Wa_clear_B24 {ad : Nat → Nat} {dA : Nat → ClassId} {D : va_G} {p : Program} {l : Launch} {e : Env} {s : State} {m : MethodId} {args : Array Value} {below : List Frame} {meth : Method} {c : Code} {μ' : Mm} (C : Cx CLS SHX ad dA D p s m args meth c c_Wa_clear 3 R_Wa (none)) (N : Nat)   (k2 : Int32 → Mm → Option Mm) (hk2 : ∀ (v1 : Int32) (μ : Mm) (lv : Nat → Option Value), lv 0 = some (.ref (ad 61)) → lv 1 = some (.int v1) → k2 v1 μ = some μ' → Go CLS SHX ad dA D p l e (rmD 0) s m args below meth c 3 none μ' 2 lv [] μ) : ∀ (v1 : Int32) (s0 : Int32) (μ : Mm) (lv : Nat → Option Value), lv 0 = some (.ref (ad 61)) → lv 1 = some (.int v1) → f_Wa_clear_B24 N k2 v1 s0 μ = some μ' → Go CLS SHX ad dA D p l e (rmD 0) s m args below meth c 3 none μ' 24 lv [.int s0] μ := by
  intro v1 s0 μ lv hl0 hl1 hf
  unfold f_Wa_clear_B24 at hf
  refine g_istore_n C d_Wa_clear_24 rfl (by decide) ?_
  refine g_aload_n C d_Wa_clear_25 rfl (upG hl0 rfl) ?_
  refine g_getR (b := 62) (k := 2) C k_Wa (by decide) fl_Wa_15 rfl rfl d_Wa_clear_26 ?_
  refine g_iload_n C d_Wa_clear_29 rfl (upG hl1 rfl) ?_
  refine g_iconst (v := 0) C d_Wa_clear_30 (by decide) ?_
  refine g_iast C rfl d_Wa_clear_31 hf (fun hf => ?_)
  refine g_aload_n C d_Wa_clear_32 rfl (upG hl0 rfl) ?_
  refine g_getR (b := 63) (k := 3) C k_Wa (by decide) fl_Wa_19 rfl rfl d_Wa_clear_33 ?_
  refine g_iload_n C d_Wa_clear_36 rfl (upG hl1 rfl) ?_
  refine g_bipush (v := -9) C d_Wa_clear_37 (by decide) ?_
  refine g_iast C rfl d_Wa_clear_39 hf (fun hf => ?_)
  refine g_aload_n C d_Wa_clear_40 rfl (upG hl0 rfl) ?_
  refine g_getR (b := 64) (k := 4) C k_Wa (by decide) fl_Wa_22 rfl rfl d_Wa_clear_41 ?_
  refine g_iload_n C d_Wa_clear_44 rfl (upG hl1 rfl) ?_
  refine g_iload_n C d_Wa_clear_45 rfl upS ?_
  refine g_if_eq (tgt := 56) C d_Wa_clear_46 (by decide) hf (fun c5 hf => ?_) (fun c5 hf => ?_)
  · refine g_iconst (v := 0) C d_Wa_clear_56 (by decide) ?_
    exact t_Wa_clear_B57 C N _ hk2 _ _ _ _ _ _ ((upG hl0 rfl)) ((upG hl1 rfl)) upS hf
  · refine g_aload_n C d_Wa_clear_49 rfl (upG hl0 rfl) ?_
    refine g_getI (k := 0) C k_Wa (by decide) fl_Wa_9 rfl rfl d_Wa_clear_50 ?_
    refine g_goto (tgt := 57) C d_Wa_clear_53 (by decide) ?_
    exact t_Wa_clear_B57 C N _ hk2 _ _ _ _ _ _ ((upG hl0 rfl)) ((upG hl1 rfl)) upS hf
set_option maxHeartbeats 4000000 in
theorem t_Wa_clear_L2 {ad : Nat → Nat} {dA : Nat → ClassId} {D : va_G} {p : Program} {l : Launch} {e : Env} {s : State} {m : MethodId} {args : Array Value} {below : List Frame} {meth : Method} {c : Code} {μ' : Mm} (C : Cx CLS SHX ad dA D p s m args meth c c_Wa_clear 3 R_Wa (none)) (N : Nat)   : ∀ (n : Nat) (v1 : Int32) (μ : Mm) (lv : Nat → Option Value), lv 0 = some (.ref (ad 61)) → lv 1 = some (.int v1) → f_Wa_clear_L2 N n v1 μ = some μ' → Go CLS SHX ad dA D p l e (rmD 0) s m args below meth c 3 none μ' 2 lv [] μ := by
  intro n
  induction n with
  | zero => intro v1 μ lv hl0 hl1 hf; cases (show none = some _ from hf)
  | succ n ih =>
    intro v1 μ lv hl0 hl1 hf
    unfold f_Wa_clear_L2 at hf
    refine g_iload_n C d_Wa_clear_2 rfl hl1 ?_
    refine g_bipush (v := 16) C d_Wa_clear_3 (by decide) ?_
    refine g_icmp_ge (tgt := 96) C d_Wa_clear_5 (by decide) hf (fun c1 hf => ?_) (fun c1 hf => ?_)
    · exact g_vret C d_Wa_clear_96 hf
    · refine g_aload_n C d_Wa_clear_8 rfl hl0 ?_
      refine g_getI (k := 14) C k_Wa (by decide) fl_Wa_52 rfl rfl d_Wa_clear_9 ?_
      refine g_iload_n C d_Wa_clear_12 rfl hl1 ?_
      refine g_ishr C d_Wa_clear_13 ?_
      refine g_iconst (v := 1) C d_Wa_clear_14 (by decide) ?_
      refine g_iand C d_Wa_clear_15 ?_
      refine g_if_eq (tgt := 23) C d_Wa_clear_16 (by decide) hf (fun c2 hf => ?_) (fun c2 hf => ?_)
      · refine g_iconst (v := 0) C d_Wa_clear_23 (by decide) ?_
        exact t_Wa_clear_B24 C N _ ih _ _ _ _ hl0 hl1 hf
      · refine g_iconst (v := 1) C d_Wa_clear_19 (by decide) ?_
        refine g_goto (tgt := 24) C d_Wa_clear_20 (by decide) ?_
        exact t_Wa_clear_B24 C N _ ih _ _ _ _ hl0 hl1 hf
set_option maxHeartbeats 4000000 in
theorem t_Wa_clear {l : Launch} {ad : Nat → Nat} {dA : Nat → ClassId} {D : va_G} (hi : Inj SHX ad) {N : Nat}   {μ μ' : Mm} (hf : f_Wa_clear N  μ = some μ') : Ct CLS l SHX ad dA D y_Wa_clear c_Wa_clear 3 (none) 0 [.ref (ad 61)] μ none μ' := by
  unfold f_Wa_clear at hf
  refine ct_of (by decide) hi (Nat.le_of_ble_eq_true rfl) ?_
  intro p e s m args below meth c C
  refine g_iconst (v := 0) C d_Wa_clear_0 (by decide) ?_
  refine g_istore_n C d_Wa_clear_1 rfl (by decide) ?_
  exact t_Wa_clear_L2 C N N _ _ _ ((upG rfl rfl)) upS hf
set_option maxHeartbeats 4000000 in
theorem t_Wa_noteGap_B69 {ad : Nat → Nat} {dA : Nat → ClassId} {D : va_G} {p : Program} {l : Launch} {e : Env} {s : State} {m : MethodId} {args : Array Value} {below : List Frame} {meth : Method} {c : Code} {μ' : Mm} (C : Cx CLS SHX ad dA D p s m args meth c c_Wa_noteGap 4 R_Wa (none)) (N : Nat)   : ∀ (v1 : Int32) (v2 : Int32) (v3 : Int32) (μ : Mm) (lv : Nat → Option Value), lv 0 = some (.ref (ad 61)) → lv 1 = some (.int v1) → lv 2 = some (.int v2) → lv 3 = some (.int v3) → f_Wa_noteGap_B69 N v1 v2 v3 μ = some μ' → Go CLS SHX ad dA D p l e (rmD 0) s m args below meth c 4 none μ' 69 lv [] μ := by
  intro v1 v2 v3 μ lv hl0 hl1 hl2 hl3 hf
  unfold f_Wa_noteGap_B69 at hf
  refine g_aload_n C d_Wa_noteGap_69 rfl hl0 ?_
  refine g_getR (b := 62) (k := 2) C k_Wa (by decide) fl_Wa_15 rfl rfl d_Wa_noteGap_70 ?_
  refine g_iload_n C d_Wa_noteGap_73 rfl hl1 ?_
  refine g_iload_n C d_Wa_noteGap_74 rfl hl3 ?_
  refine g_iast C rfl d_Wa_noteGap_75 hf (fun hf => ?_)
  refine g_aload_n C d_Wa_noteGap_76 rfl hl0 ?_
  refine g_getR (b := 63) (k := 3) C k_Wa (by decide) fl_Wa_19 rfl rfl d_Wa_noteGap_77 ?_
  refine g_iload_n C d_Wa_noteGap_80 rfl hl1 ?_
  refine g_iload_n C d_Wa_noteGap_81 rfl hl2 ?_
  refine g_iast C rfl d_Wa_noteGap_82 hf (fun hf => ?_)
  exact g_vret C d_Wa_noteGap_83 hf
set_option maxHeartbeats 4000000 in
theorem t_Wa_noteGap_B37 {ad : Nat → Nat} {dA : Nat → ClassId} {D : va_G} {p : Program} {l : Launch} {e : Env} {s : State} {m : MethodId} {args : Array Value} {below : List Frame} {meth : Method} {c : Code} {μ' : Mm} (C : Cx CLS SHX ad dA D p s m args meth c c_Wa_noteGap 4 R_Wa (none)) (N : Nat)   : ∀ (v1 : Int32) (v2 : Int32) (v3 : Int32) (s1 : Int32) (s2 : Int32) (s3 : Int32) (μ : Mm) (lv : Nat → Option Value), lv 0 = some (.ref (ad 61)) → lv 1 = some (.int v1) → lv 2 = some (.int v2) → lv 3 = some (.int v3) → f_Wa_noteGap_B37 N v1 v2 v3 s1 s2 s3 μ = some μ' → Go CLS SHX ad dA D p l e (rmD 0) s m args below meth c 4 none μ' 37 lv [.int s3, .int s2, .int s1, .ref (ad 65)] μ := by
  intro v1 v2 v3 s1 s2 s3 μ lv hl0 hl1 hl2 hl3 hf
  unfold f_Wa_noteGap_B37 at hf
  refine g_iadd C d_Wa_noteGap_37 ?_
  refine g_iast C rfl d_Wa_noteGap_38 hf (fun hf => ?_)
  refine g_iload_n C d_Wa_noteGap_39 rfl hl3 ?_
  refine g_aload_n C d_Wa_noteGap_40 rfl hl0 ?_
  refine g_getR (b := 62) (k := 2) C k_Wa (by decide) fl_Wa_15 rfl rfl d_Wa_noteGap_41 ?_
  refine g_iload_n C d_Wa_noteGap_44 rfl hl1 ?_
  refine g_iald C rfl d_Wa_noteGap_45 hf (fun hf => ?_)
  refine g_icmp_gt (tgt := 69) C d_Wa_noteGap_46 (by decide) hf (fun c6 hf => ?_) (fun c6 hf => ?_)
  · exact t_Wa_noteGap_B69 C N _ _ _ _ _ hl0 hl1 hl2 hl3 hf
  · refine g_iload_n C d_Wa_noteGap_49 rfl hl3 ?_
    refine g_aload_n C d_Wa_noteGap_50 rfl hl0 ?_
    refine g_getR (b := 62) (k := 2) C k_Wa (by decide) fl_Wa_15 rfl rfl d_Wa_noteGap_51 ?_
    refine g_iload_n C d_Wa_noteGap_54 rfl hl1 ?_
    refine g_iald C rfl d_Wa_noteGap_55 hf (fun hf => ?_)
    refine g_icmp_ne (tgt := 83) C d_Wa_noteGap_56 (by decide) hf (fun c7 hf => ?_) (fun c7 hf => ?_)
    · refine g_iload_n C d_Wa_noteGap_59 rfl hl2 ?_
      refine g_aload_n C d_Wa_noteGap_60 rfl hl0 ?_
      refine g_getR (b := 63) (k := 3) C k_Wa (by decide) fl_Wa_19 rfl rfl d_Wa_noteGap_61 ?_
      refine g_iload_n C d_Wa_noteGap_64 rfl hl1 ?_
      refine g_iald C rfl d_Wa_noteGap_65 hf (fun hf => ?_)
      refine g_icmp_ge (tgt := 83) C d_Wa_noteGap_66 (by decide) hf (fun c8 hf => ?_) (fun c8 hf => ?_)
      · exact g_vret C d_Wa_noteGap_83 hf
      · exact t_Wa_noteGap_B69 C N _ _ _ _ _ hl0 hl1 hl2 hl3 hf
    · exact g_vret C d_Wa_noteGap_83 hf
set_option maxHeartbeats 4000000 in
theorem t_Wa_noteGap {l : Launch} {ad : Nat → Nat} {dA : Nat → ClassId} {D : va_G} (hi : Inj SHX ad) {N : Nat} {a1 : Int32} {a2 : Int32} {a3 : Int32}  {μ μ' : Mm} (hf : f_Wa_noteGap N a1 a2 a3 μ = some μ') : Ct CLS l SHX ad dA D y_Wa_noteGap c_Wa_noteGap 4 (none) 0 [.ref (ad 61), .int a1, .int a2, .int a3] μ none μ' := by
  unfold f_Wa_noteGap at hf
  refine ct_of (by decide) hi (Nat.le_of_ble_eq_true rfl) ?_
  intro p e s m args below meth c C
  refine g_aload_n C d_Wa_noteGap_0 rfl rfl ?_
  refine g_getR (b := 64) (k := 4) C k_Wa (by decide) fl_Wa_22 rfl rfl d_Wa_noteGap_1 ?_
  refine g_iload_n C d_Wa_noteGap_4 rfl rfl ?_
  refine g_dup2 C d_Wa_noteGap_5 rfl rfl ?_
  refine g_iald C rfl d_Wa_noteGap_6 hf (fun hf => ?_)
  refine g_iload_n C d_Wa_noteGap_7 rfl rfl ?_
  refine g_iadd C d_Wa_noteGap_8 ?_
  refine g_iast C rfl d_Wa_noteGap_9 hf (fun hf => ?_)
  refine g_aload_n C d_Wa_noteGap_10 rfl rfl ?_
  refine g_getR (b := 65) (k := 5) C k_Wa (by decide) fl_Wa_25 rfl rfl d_Wa_noteGap_11 ?_
  refine g_iload_n C d_Wa_noteGap_14 rfl rfl ?_
  refine g_dup2 C d_Wa_noteGap_15 rfl rfl ?_
  refine g_iald C rfl d_Wa_noteGap_16 hf (fun hf => ?_)
  refine g_iload_n C d_Wa_noteGap_17 rfl rfl ?_
  refine g_aload_n C d_Wa_noteGap_18 rfl rfl ?_
  refine g_getI (k := 15) C k_Wa (by decide) fl_Wa_55 rfl rfl d_Wa_noteGap_19 ?_
  refine g_icmp_ge (tgt := 29) C d_Wa_noteGap_22 (by decide) hf (fun c3 hf => ?_) (fun c3 hf => ?_)
  · refine g_iload_n C d_Wa_noteGap_29 rfl rfl ?_
    refine g_aload_n C d_Wa_noteGap_30 rfl rfl ?_
    refine g_getI (k := 15) C k_Wa (by decide) fl_Wa_55 rfl rfl d_Wa_noteGap_31 ?_
    refine g_isub C d_Wa_noteGap_34 ?_
    refine g_iconst (v := 1) C d_Wa_noteGap_35 (by decide) ?_
    refine g_iadd C d_Wa_noteGap_36 ?_
    exact t_Wa_noteGap_B37 C N _ _ _ _ _ _ _ _ rfl rfl rfl rfl hf
  · refine g_iconst (v := 0) C d_Wa_noteGap_25 (by decide) ?_
    refine g_goto (tgt := 37) C d_Wa_noteGap_26 (by decide) ?_
    exact t_Wa_noteGap_B37 C N _ _ _ _ _ _ _ _ rfl rfl rfl rfl hf
set_option maxHeartbeats 4000000 in
theorem t_Wa_closeRound_B73 {ad : Nat → Nat} {dA : Nat → ClassId} {D : va_G} {p : Program} {l : Launch} {e : Env} {s : State} {m : MethodId} {args : Array Value} {below : List Frame} {meth : Method} {c : Code} {μ' : Mm} (C : Cx CLS SHX ad dA D p s m args meth c c_Wa_closeRound 3 R_Wa (none)) (N : Nat)   (k2 : Int32 → Mm → Option Mm) (hk2 : ∀ (v1 : Int32) (μ : Mm) (lv : Nat → Option Value), lv 0 = some (.ref (ad 61)) → lv 1 = some (.int v1) → k2 v1 μ = some μ' → Go CLS SHX ad dA D p l e (rmD 1) s m args below meth c 3 none μ' 2 lv [] μ) : ∀ (v1 : Int32) (μ : Mm) (lv : Nat → Option Value), lv 0 = some (.ref (ad 61)) → lv 1 = some (.int v1) → f_Wa_closeRound_B73 N k2 v1 μ = some μ' → Go CLS SHX ad dA D p l e (rmD 1) s m args below meth c 3 none μ' 73 lv [] μ := by
  intro v1 μ lv hl0 hl1 hf
  unfold f_Wa_closeRound_B73 at hf
  refine g_iinc (v := 1) C d_Wa_closeRound_73 hl1 (by decide) (by decide) ?_
  refine g_goto (tgt := 2) C d_Wa_closeRound_76 (by decide) ?_
  exact hk2 _ _ _ ((upG hl0 rfl)) upS hf
set_option maxHeartbeats 4000000 in
theorem t_Wa_closeRound_B69 {ad : Nat → Nat} {dA : Nat → ClassId} {D : va_G} {p : Program} {l : Launch} {e : Env} {s : State} {m : MethodId} {args : Array Value} {below : List Frame} {meth : Method} {c : Code} {μ' : Mm} (C : Cx CLS SHX ad dA D p s m args meth c c_Wa_closeRound 3 R_Wa (none)) (N : Nat)   (k2 : Int32 → Mm → Option Mm) (hk2 : ∀ (v1 : Int32) (μ : Mm) (lv : Nat → Option Value), lv 0 = some (.ref (ad 61)) → lv 1 = some (.int v1) → k2 v1 μ = some μ' → Go CLS SHX ad dA D p l e (rmD 1) s m args below meth c 3 none μ' 2 lv [] μ) : ∀ (v1 : Int32) (v2 : Int32) (s1 : Int32) (s2 : Int32) (μ : Mm) (lv : Nat → Option Value), lv 0 = some (.ref (ad 61)) → lv 1 = some (.int v1) → lv 2 = some (.int v2) → f_Wa_closeRound_B69 N k2 v1 v2 s1 s2 μ = some μ' → Go CLS SHX ad dA D p l e (rmD 1) s m args below meth c 3 none μ' 69 lv [.int s2, .int s1, .ref (ad 61)] μ := by
  intro v1 v2 s1 s2 μ lv hl0 hl1 hl2 hf
  unfold f_Wa_closeRound_B69 at hf
  refine g_iload_n C d_Wa_closeRound_69 rfl hl2 ?_
  refine g_cvV C k_Wa rfl mv_Wa_noteGap ml_Wa_147 d_Wa_closeRound_70 hf (fun μ1 h => t_Wa_noteGap C.2.2.2.2.2.2.2.2.1 h) rfl rfl (by decide) (Nat.le_of_ble_eq_true rfl) (fun μ6 hf => ?_)
  exact t_Wa_closeRound_B73 C N _ hk2 _ _ _ hl0 hl1 hf
set_option maxHeartbeats 4000000 in
theorem t_Wa_closeRound_L2 {ad : Nat → Nat} {dA : Nat → ClassId} {D : va_G} {p : Program} {l : Launch} {e : Env} {s : State} {m : MethodId} {args : Array Value} {below : List Frame} {meth : Method} {c : Code} {μ' : Mm} (C : Cx CLS SHX ad dA D p s m args meth c c_Wa_closeRound 3 R_Wa (none)) (N : Nat)   : ∀ (n : Nat) (v1 : Int32) (μ : Mm) (lv : Nat → Option Value), lv 0 = some (.ref (ad 61)) → lv 1 = some (.int v1) → f_Wa_closeRound_L2 N n v1 μ = some μ' → Go CLS SHX ad dA D p l e (rmD 1) s m args below meth c 3 none μ' 2 lv [] μ := by
  intro n
  induction n with
  | zero => intro v1 μ lv hl0 hl1 hf; cases (show none = some _ from hf)
  | succ n ih =>
    intro v1 μ lv hl0 hl1 hf
    unfold f_Wa_closeRound_L2 at hf
    refine g_iload_n C d_Wa_closeRound_2 rfl hl1 ?_
    refine g_bipush (v := 16) C d_Wa_closeRound_3 (by decide) ?_
    refine g_icmp_ge (tgt := 79) C d_Wa_closeRound_5 (by decide) hf (fun c1 hf => ?_) (fun c1 hf => ?_)
    · exact g_vret C d_Wa_closeRound_79 hf
    · refine g_aload_n C d_Wa_closeRound_8 rfl hl0 ?_
      refine g_getR (b := 67) (k := 7) C k_Wa (by decide) fl_Wa_31 rfl rfl d_Wa_closeRound_9 ?_
      refine g_iload_n C d_Wa_closeRound_12 rfl hl1 ?_
      refine g_iald C rfl d_Wa_closeRound_13 hf (fun hf => ?_)
      refine g_iconst (v := -1) C d_Wa_closeRound_14 (by decide) ?_
      refine g_icmp_ne (tgt := 21) C d_Wa_closeRound_15 (by decide) hf (fun c2 hf => ?_) (fun c2 hf => ?_)
      · refine g_goto (tgt := 73) C d_Wa_closeRound_18 (by decide) ?_
        exact t_Wa_closeRound_B73 C N _ ih _ _ _ hl0 hl1 hf
      · refine g_aload_n C d_Wa_closeRound_21 rfl hl0 ?_
        refine g_getR (b := 67) (k := 7) C k_Wa (by decide) fl_Wa_31 rfl rfl d_Wa_closeRound_22 ?_
        refine g_iload_n C d_Wa_closeRound_25 rfl hl1 ?_
        refine g_iald C rfl d_Wa_closeRound_26 hf (fun hf => ?_)
        refine g_aload_n C d_Wa_closeRound_27 rfl hl0 ?_
        refine g_getI (k := 0) C k_Wa (by decide) fl_Wa_9 rfl rfl d_Wa_closeRound_28 ?_
        refine g_iadd C d_Wa_closeRound_31 ?_
        refine g_aload_n C d_Wa_closeRound_32 rfl hl0 ?_
        refine g_getR (b := 66) (k := 6) C k_Wa (by decide) fl_Wa_28 rfl rfl d_Wa_closeRound_33 ?_
        refine g_iload_n C d_Wa_closeRound_36 rfl hl1 ?_
        refine g_iald C rfl d_Wa_closeRound_37 hf (fun hf => ?_)
        refine g_isub C d_Wa_closeRound_38 ?_
        refine g_istore_n C d_Wa_closeRound_39 rfl (by decide) ?_
        refine g_iload_n C d_Wa_closeRound_40 rfl upS ?_
        refine g_if_le (tgt := 73) C d_Wa_closeRound_41 (by decide) hf (fun c4 hf => ?_) (fun c4 hf => ?_)
        · exact t_Wa_closeRound_B73 C N _ ih _ _ _ ((upG hl0 rfl)) ((upG hl1 rfl)) hf
        · refine g_aload_n C d_Wa_closeRound_44 rfl (upG hl0 rfl) ?_
          refine g_iload_n C d_Wa_closeRound_45 rfl (upG hl1 rfl) ?_
          refine g_aload_n C d_Wa_closeRound_46 rfl (upG hl0 rfl) ?_
          refine g_getR (b := 66) (k := 6) C k_Wa (by decide) fl_Wa_28 rfl rfl d_Wa_closeRound_47 ?_
          refine g_iload_n C d_Wa_closeRound_50 rfl (upG hl1 rfl) ?_
          refine g_iald C rfl d_Wa_closeRound_51 hf (fun hf => ?_)
          refine g_aload_n C d_Wa_closeRound_52 rfl (upG hl0 rfl) ?_
          refine g_getI (k := 0) C k_Wa (by decide) fl_Wa_9 rfl rfl d_Wa_closeRound_53 ?_
          refine g_icmp_ge (tgt := 68) C d_Wa_closeRound_56 (by decide) hf (fun c5 hf => ?_) (fun c5 hf => ?_)
          · refine g_iconst (v := 0) C d_Wa_closeRound_68 (by decide) ?_
            exact t_Wa_closeRound_B69 C N _ ih _ _ _ _ _ _ ((upG hl0 rfl)) ((upG hl1 rfl)) upS hf
          · refine g_aload_n C d_Wa_closeRound_59 rfl (upG hl0 rfl) ?_
            refine g_getR (b := 66) (k := 6) C k_Wa (by decide) fl_Wa_28 rfl rfl d_Wa_closeRound_60 ?_
            refine g_iload_n C d_Wa_closeRound_63 rfl (upG hl1 rfl) ?_
            refine g_iald C rfl d_Wa_closeRound_64 hf (fun hf => ?_)
            refine g_goto (tgt := 69) C d_Wa_closeRound_65 (by decide) ?_
            exact t_Wa_closeRound_B69 C N _ ih _ _ _ _ _ _ ((upG hl0 rfl)) ((upG hl1 rfl)) upS hf
set_option maxHeartbeats 4000000 in
theorem t_Wa_closeRound {l : Launch} {ad : Nat → Nat} {dA : Nat → ClassId} {D : va_G} (hi : Inj SHX ad) {N : Nat}   {μ μ' : Mm} (hf : f_Wa_closeRound N  μ = some μ') : Ct CLS l SHX ad dA D y_Wa_closeRound c_Wa_closeRound 3 (none) 1 [.ref (ad 61)] μ none μ' := by
  unfold f_Wa_closeRound at hf
  refine ct_of (by decide) hi (Nat.le_of_ble_eq_true rfl) ?_
  intro p e s m args below meth c C
  refine g_iconst (v := 0) C d_Wa_closeRound_0 (by decide) ?_
  refine g_istore_n C d_Wa_closeRound_1 rfl (by decide) ?_
  exact t_Wa_closeRound_L2 C N N _ _ _ ((upG rfl rfl)) upS hf
set_option maxHeartbeats 4000000 in
theorem t_Wa_coverAhead_B32 {ad : Nat → Nat} {dA : Nat → ClassId} {D : va_G} {p : Program} {l : Launch} {e : Env} {s : State} {m : MethodId} {args : Array Value} {below : List Frame} {meth : Method} {c : Code} {μ' : Mm} (C : Cx CLS SHX ad dA D p s m args meth c c_Wa_coverAhead 4 R_Wa (none)) (N : Nat)   (k2 : Int32 → Int32 → Int32 → Mm → Option Mm) (hk2 : ∀ (v1 : Int32) (v2 : Int32) (v3 : Int32) (μ : Mm) (lv : Nat → Option Value), lv 0 = some (.ref (ad 61)) → lv 1 = some (.int v1) → lv 2 = some (.int v2) → lv 3 = some (.int v3) → k2 v1 v2 v3 μ = some μ' → Go CLS SHX ad dA D p l e (rmD 1) s m args below meth c 4 none μ' 2 lv [] μ) : ∀ (v1 : Int32) (v2 : Int32) (v3 : Int32) (μ : Mm) (lv : Nat → Option Value), lv 0 = some (.ref (ad 61)) → lv 1 = some (.int v1) → lv 2 = some (.int v2) → lv 3 = some (.int v3) → f_Wa_coverAhead_B32 N k2 v1 v2 v3 μ = some μ' → Go CLS SHX ad dA D p l e (rmD 1) s m args below meth c 4 none μ' 32 lv [] μ := by
  intro v1 v2 v3 μ lv hl0 hl1 hl2 hl3 hf
  unfold f_Wa_coverAhead_B32 at hf
  refine g_iinc (v := 1) C d_Wa_coverAhead_32 hl3 (by decide) (by decide) ?_
  refine g_goto (tgt := 2) C d_Wa_coverAhead_35 (by decide) ?_
  exact hk2 _ _ _ _ _ ((upG hl0 rfl)) ((upG hl1 rfl)) ((upG hl2 rfl)) upS hf
set_option maxHeartbeats 4000000 in
theorem t_Wa_coverAhead_L2 {ad : Nat → Nat} {dA : Nat → ClassId} {D : va_G} {p : Program} {l : Launch} {e : Env} {s : State} {m : MethodId} {args : Array Value} {below : List Frame} {meth : Method} {c : Code} {μ' : Mm} (C : Cx CLS SHX ad dA D p s m args meth c c_Wa_coverAhead 4 R_Wa (none)) (N : Nat)   : ∀ (n : Nat) (v1 : Int32) (v2 : Int32) (v3 : Int32) (μ : Mm) (lv : Nat → Option Value), lv 0 = some (.ref (ad 61)) → lv 1 = some (.int v1) → lv 2 = some (.int v2) → lv 3 = some (.int v3) → f_Wa_coverAhead_L2 N n v1 v2 v3 μ = some μ' → Go CLS SHX ad dA D p l e (rmD 1) s m args below meth c 4 none μ' 2 lv [] μ := by
  intro n
  induction n with
  | zero => intro v1 v2 v3 μ lv hl0 hl1 hl2 hl3 hf; cases (show none = some _ from hf)
  | succ n ih =>
    intro v1 v2 v3 μ lv hl0 hl1 hl2 hl3 hf
    unfold f_Wa_coverAhead_L2 at hf
    refine g_iload_n C d_Wa_coverAhead_2 rfl hl3 ?_
    refine g_bipush (v := 16) C d_Wa_coverAhead_3 (by decide) ?_
    refine g_icmp_ge (tgt := 38) C d_Wa_coverAhead_5 (by decide) hf (fun c1 hf => ?_) (fun c1 hf => ?_)
    · exact g_vret C d_Wa_coverAhead_38 hf
    · refine g_iload_n C d_Wa_coverAhead_8 rfl hl1 ?_
      refine g_iload_n C d_Wa_coverAhead_9 rfl hl3 ?_
      refine g_ishr C d_Wa_coverAhead_10 ?_
      refine g_iconst (v := 1) C d_Wa_coverAhead_11 (by decide) ?_
      refine g_iand C d_Wa_coverAhead_12 ?_
      refine g_if_eq (tgt := 32) C d_Wa_coverAhead_13 (by decide) hf (fun c2 hf => ?_) (fun c2 hf => ?_)
      · exact t_Wa_coverAhead_B32 C N _ ih _ _ _ _ _ hl0 hl1 hl2 hl3 hf
      · refine g_aload_n C d_Wa_coverAhead_16 rfl hl0 ?_
        refine g_getR (b := 66) (k := 6) C k_Wa (by decide) fl_Wa_28 rfl rfl d_Wa_coverAhead_17 ?_
        refine g_iload_n C d_Wa_coverAhead_20 rfl hl3 ?_
        refine g_aload_n C d_Wa_coverAhead_21 rfl hl0 ?_
        refine g_getR (b := 66) (k := 6) C k_Wa (by decide) fl_Wa_28 rfl rfl d_Wa_coverAhead_22 ?_
        refine g_iload_n C d_Wa_coverAhead_25 rfl hl3 ?_
        refine g_iald C rfl d_Wa_coverAhead_26 hf (fun hf => ?_)
        refine g_iload_n C d_Wa_coverAhead_27 rfl hl2 ?_
        refine g_csI C mv_Jm_max_7cf53 ml_Wa_68 d_Wa_coverAhead_28 hf (fun r μ1 h => t_Jm_max_7cf53 C.2.2.2.2.2.2.2.2.1 h) rfl rfl (by decide) (Nat.le_of_ble_eq_true rfl) (fun r4 μ3 hf => ?_)
        refine g_iast C rfl d_Wa_coverAhead_31 hf (fun hf => ?_)
        exact t_Wa_coverAhead_B32 C N _ ih _ _ _ _ _ hl0 hl1 hl2 hl3 hf
set_option maxHeartbeats 4000000 in
theorem t_Wa_coverAhead {l : Launch} {ad : Nat → Nat} {dA : Nat → ClassId} {D : va_G} (hi : Inj SHX ad) {N : Nat} {a1 : Int32} {a2 : Int32}  {μ μ' : Mm} (hf : f_Wa_coverAhead N a1 a2 μ = some μ') : Ct CLS l SHX ad dA D y_Wa_coverAhead c_Wa_coverAhead 4 (none) 1 [.ref (ad 61), .int a1, .int a2] μ none μ' := by
  unfold f_Wa_coverAhead at hf
  refine ct_of (by decide) hi (Nat.le_of_ble_eq_true rfl) ?_
  intro p e s m args below meth c C
  refine g_iconst (v := 0) C d_Wa_coverAhead_0 (by decide) ?_
  refine g_istore_n C d_Wa_coverAhead_1 rfl (by decide) ?_
  exact t_Wa_coverAhead_L2 C N N _ _ _ _ _ ((upG rfl rfl)) ((upG rfl rfl)) ((upG rfl rfl)) upS hf
set_option maxHeartbeats 4000000 in
theorem t_Wa_setOut {l : Launch} {ad : Nat → Nat} {dA : Nat → ClassId} {D : va_G} (hi : Inj SHX ad) {N : Nat} {a1 : Int32} {a2 : Int32} {a3 : Nat} (ha3 : a3 < 8) {μ μ' : Mm} (hf : f_Wa_setOut N a1 a2 a3 μ = some μ') : Ct CLS l SHX ad dA D y_Wa_setOut c_Wa_setOut 6 (none) 2 [.ref (ad 61), .int a1, .int a2, .ref (ad (WK a3))] μ none μ' := by
  unfold f_Wa_setOut at hf
  refine ct_of (by decide) hi (Nat.le_of_ble_eq_true rfl) ?_
  intro p e s m args below meth c C
  refine g_aload_n C d_Wa_setOut_0 rfl rfl ?_
  refine g_iconst (v := 0) C d_Wa_setOut_1 (by decide) ?_
  refine g_cvI C k_Wk (shW _ ha3) mv_Wk_phaseAt ml_Wa_111 d_Wa_setOut_2 hf (fun r μ1 h => t_Wk_phaseAt C.2.2.2.2.2.2.2.2.1 ha3 h) rfl rfl (by decide) (Nat.le_of_ble_eq_true rfl) (fun r2 μ1 hf => ?_)
  refine g_istore C d_Wa_setOut_5 (by decide) ?_
  refine g_aload_n C d_Wa_setOut_7 rfl (upG rfl rfl) ?_
  refine g_iload C d_Wa_setOut_8 upS ?_
  refine g_cvI C k_Wk (shW _ ha3) mv_Wk_legAt ml_Wa_114 d_Wa_setOut_10 hf (fun r μ1 h => t_Wk_legAt C.2.2.2.2.2.2.2.2.1 ha3 h) rfl rfl (by decide) (Nat.le_of_ble_eq_true rfl) (fun r4 μ3 hf => ?_)
  refine g_istore C d_Wa_setOut_13 (by decide) ?_
  refine g_aload_n C d_Wa_setOut_15 rfl (upG (upG rfl rfl) rfl) ?_
  refine g_getR (b := 68) (k := 8) C k_Wa (by decide) fl_Wa_34 rfl rfl d_Wa_setOut_16 ?_
  refine g_iload_n C d_Wa_setOut_19 rfl (upG (upG rfl rfl) rfl) ?_
  refine g_iload_n C d_Wa_setOut_20 rfl (upG (upG rfl rfl) rfl) ?_
  refine g_iast C rfl d_Wa_setOut_21 hf (fun hf => ?_)
  refine g_aload_n C d_Wa_setOut_22 rfl (upG (upG rfl rfl) rfl) ?_
  refine g_getR (b := WK _ + 3) (k := 14) C k_Wk (by decide) fl_Wa_117 (shW _ ha3) rfl d_Wa_setOut_23 ?_
  refine g_iload C d_Wa_setOut_26 upS ?_
  refine g_iald C (shW3 _ ha3) d_Wa_setOut_28 hf (fun hf => ?_)
  refine g_iload C d_Wa_setOut_29 (upG upS rfl) ?_
  refine g_icmp_ne (tgt := 50) C d_Wa_setOut_31 (by decide) hf (fun c6 hf => ?_) (fun c6 hf => ?_)
  · refine g_aload_n C d_Wa_setOut_34 rfl (upG (upG rfl rfl) rfl) ?_
    refine g_getR (b := 69) (k := 9) C k_Wa (by decide) fl_Wa_37 rfl rfl d_Wa_setOut_35 ?_
    refine g_iload_n C d_Wa_setOut_38 rfl (upG (upG rfl rfl) rfl) ?_
    refine g_iload C d_Wa_setOut_39 upS ?_
    refine g_iast C rfl d_Wa_setOut_41 hf (fun hf => ?_)
    refine g_aload_n C d_Wa_setOut_42 rfl (upG (upG rfl rfl) rfl) ?_
    refine g_getR (b := 70) (k := 10) C k_Wa (by decide) fl_Wa_40 rfl rfl d_Wa_setOut_43 ?_
    refine g_iload_n C d_Wa_setOut_46 rfl (upG (upG rfl rfl) rfl) ?_
    refine g_iconst (v := 0) C d_Wa_setOut_47 (by decide) ?_
    refine g_iast C rfl d_Wa_setOut_48 hf (fun hf => ?_)
    exact g_vret C d_Wa_setOut_49 hf
  · refine g_aload_n C d_Wa_setOut_50 rfl (upG (upG rfl rfl) rfl) ?_
    refine g_getR (b := 69) (k := 9) C k_Wa (by decide) fl_Wa_37 rfl rfl d_Wa_setOut_51 ?_
    refine g_iload_n C d_Wa_setOut_54 rfl (upG (upG rfl rfl) rfl) ?_
    refine g_aload_n C d_Wa_setOut_55 rfl (upG (upG rfl rfl) rfl) ?_
    refine g_iload C d_Wa_setOut_56 upS ?_
    refine g_cvI C k_Wk (shW _ ha3) mv_Wk_legBehind ml_Wa_120 d_Wa_setOut_58 hf (fun r μ1 h => t_Wk_legBehind C.2.2.2.2.2.2.2.2.1 ha3 h) rfl rfl (by decide) (Nat.le_of_ble_eq_true rfl) (fun r10 μ9 hf => ?_)
    refine g_iast C rfl d_Wa_setOut_61 hf (fun hf => ?_)
    refine g_aload_n C d_Wa_setOut_62 rfl (upG (upG rfl rfl) rfl) ?_
    refine g_getR (b := 70) (k := 10) C k_Wa (by decide) fl_Wa_40 rfl rfl d_Wa_setOut_63 ?_
    refine g_iload_n C d_Wa_setOut_66 rfl (upG (upG rfl rfl) rfl) ?_
    refine g_aload_n C d_Wa_setOut_67 rfl (upG (upG rfl rfl) rfl) ?_
    refine g_getR (b := WK _ + 3) (k := 14) C k_Wk (by decide) fl_Wa_117 (shW _ ha3) rfl d_Wa_setOut_68 ?_
    refine g_iload C d_Wa_setOut_71 upS ?_
    refine g_iconst (v := 1) C d_Wa_setOut_73 (by decide) ?_
    refine g_iadd C d_Wa_setOut_74 ?_
    refine g_iald C (shW3 _ ha3) d_Wa_setOut_75 hf (fun hf => ?_)
    refine g_iload C d_Wa_setOut_76 (upG upS rfl) ?_
    refine g_isub C d_Wa_setOut_78 ?_
    refine g_iast C rfl d_Wa_setOut_79 hf (fun hf => ?_)
    refine g_iload C d_Wa_setOut_80 (upG upS rfl) ?_
    refine g_aload_n C d_Wa_setOut_82 rfl (upG (upG rfl rfl) rfl) ?_
    refine g_getR (b := WK _ + 4) (k := 15) C k_Wk (by decide) fl_Wa_123 (shW _ ha3) rfl d_Wa_setOut_83 ?_
    refine g_iload C d_Wa_setOut_86 upS ?_
    refine g_iald C (shW4 _ ha3) d_Wa_setOut_88 hf (fun hf => ?_)
    refine g_icmp_gt (tgt := 120) C d_Wa_setOut_89 (by decide) hf (fun c15 hf => ?_) (fun c15 hf => ?_)
    · exact g_vret C d_Wa_setOut_120 hf
    · refine g_aload_n C d_Wa_setOut_92 rfl (upG (upG rfl rfl) rfl) ?_
      refine g_aload_n C d_Wa_setOut_93 rfl (upG (upG rfl rfl) rfl) ?_
      refine g_getR (b := WK _ + 5) (k := 16) C k_Wk (by decide) fl_Wa_126 (shW _ ha3) rfl d_Wa_setOut_94 ?_
      refine g_iload C d_Wa_setOut_97 upS ?_
      refine g_iald C (shW5 _ ha3) d_Wa_setOut_99 hf (fun hf => ?_)
      refine g_aload_n C d_Wa_setOut_100 rfl (upG (upG rfl rfl) rfl) ?_
      refine g_getI (k := 13) C k_Wa (by decide) fl_Wa_49 rfl rfl d_Wa_setOut_101 ?_
      refine g_iand C d_Wa_setOut_104 ?_
      refine g_aload_n C d_Wa_setOut_105 rfl (upG (upG rfl rfl) rfl) ?_
      refine g_getR (b := WK _ + 4) (k := 15) C k_Wk (by decide) fl_Wa_123 (shW _ ha3) rfl d_Wa_setOut_106 ?_
      refine g_iload C d_Wa_setOut_109 upS ?_
      refine g_iald C (shW4 _ ha3) d_Wa_setOut_111 hf (fun hf => ?_)
      refine g_iload C d_Wa_setOut_112 (upG upS rfl) ?_
      refine g_isub C d_Wa_setOut_114 ?_
      refine g_iconst (v := 1) C d_Wa_setOut_115 (by decide) ?_
      refine g_iadd C d_Wa_setOut_116 ?_
      refine g_cvV C k_Wa rfl mv_Wa_coverAhead ml_Wa_129 d_Wa_setOut_117 hf (fun μ1 h => t_Wa_coverAhead C.2.2.2.2.2.2.2.2.1 h) rfl rfl (by decide) (Nat.le_of_ble_eq_true rfl) (fun μ16 hf => ?_)
      exact g_vret C d_Wa_setOut_120 hf
set_option maxHeartbeats 4000000 in
theorem t_Wa_enlist_B75 {ad : Nat → Nat} {dA : Nat → ClassId} {D : va_G} {p : Program} {l : Launch} {e : Env} {s : State} {m : MethodId} {args : Array Value} {below : List Frame} {meth : Method} {c : Code} {μ' : Mm} (C : Cx CLS SHX ad dA D p s m args meth c c_Wa_enlist 4 R_Wa (none)) (N : Nat)   (k7 : Int32 → Int32 → Mm → Option Mm) (hk7 : ∀ (v1 : Int32) (v2 : Int32) (μ : Mm) (lv : Nat → Option Value), lv 0 = some (.ref (ad 61)) → lv 1 = some (.int v1) → lv 2 = some (.int v2) → k7 v1 v2 μ = some μ' → Go CLS SHX ad dA D p l e (rmD 3) s m args below meth c 4 none μ' 7 lv [] μ) : ∀ (v1 : Int32) (v2 : Int32) (μ : Mm) (lv : Nat → Option Value), lv 0 = some (.ref (ad 61)) → lv 1 = some (.int v1) → lv 2 = some (.int v2) → f_Wa_enlist_B75 N k7 v1 v2 μ = some μ' → Go CLS SHX ad dA D p l e (rmD 3) s m args below meth c 4 none μ' 75 lv [] μ := by
  intro v1 v2 μ lv hl0 hl1 hl2 hf
  unfold f_Wa_enlist_B75 at hf
  refine g_iinc (v := 1) C d_Wa_enlist_75 hl2 (by decide) (by decide) ?_
  refine g_goto (tgt := 7) C d_Wa_enlist_78 (by decide) ?_
  exact hk7 _ _ _ _ ((upG hl0 rfl)) ((upG hl1 rfl)) upS hf
set_option maxHeartbeats 4000000 in
theorem t_Wa_enlist_L7 {ad : Nat → Nat} {dA : Nat → ClassId} {D : va_G} {p : Program} {l : Launch} {e : Env} {s : State} {m : MethodId} {args : Array Value} {below : List Frame} {meth : Method} {c : Code} {μ' : Mm} (C : Cx CLS SHX ad dA D p s m args meth c c_Wa_enlist 4 R_Wa (none)) (N : Nat)   : ∀ (n : Nat) (v1 : Int32) (v2 : Int32) (μ : Mm) (lv : Nat → Option Value), lv 0 = some (.ref (ad 61)) → lv 1 = some (.int v1) → lv 2 = some (.int v2) → f_Wa_enlist_L7 N n v1 v2 μ = some μ' → Go CLS SHX ad dA D p l e (rmD 3) s m args below meth c 4 none μ' 7 lv [] μ := by
  intro n
  induction n with
  | zero => intro v1 v2 μ lv hl0 hl1 hl2 hf; cases (show none = some _ from hf)
  | succ n ih =>
    intro v1 v2 μ lv hl0 hl1 hl2 hf
    unfold f_Wa_enlist_L7 at hf
    refine g_iload_n C d_Wa_enlist_7 rfl hl2 ?_
    refine g_aload_n C d_Wa_enlist_8 rfl hl0 ?_
    refine g_getR (b := 11) (k := 1) C k_Wa (by decide) fl_Wa_58 rfl rfl d_Wa_enlist_9 ?_
    refine g_getI (k := 1) C k_Cr (by decide) fl_Wa_93 rfl rfl d_Wa_enlist_12 ?_
    refine g_icmp_ge (tgt := 81) C d_Wa_enlist_15 (by decide) hf (fun c2 hf => ?_) (fun c2 hf => ?_)
    · exact g_vret C d_Wa_enlist_81 hf
    · refine g_aload_n C d_Wa_enlist_18 rfl hl0 ?_
      refine g_getR (b := 11) (k := 1) C k_Wa (by decide) fl_Wa_58 rfl rfl d_Wa_enlist_19 ?_
      refine g_iload_n C d_Wa_enlist_22 rfl hl2 ?_
      refine g_cvW C k_Cr rfl mv_Cr_get ml_Wa_96 d_Wa_enlist_23 hf (fun r μ1 h => t_Cr_get C.2.2.2.2.2.2.2.2.1 h) rfl rfl (by decide) (Nat.le_of_ble_eq_true rfl) (fun r4 μ3 hf => ?_)
      obtain ⟨hw5, hf⟩ := chk8 hf
      refine g_astore_n C d_Wa_enlist_26 rfl (by decide) ?_
      refine g_iload_n C d_Wa_enlist_27 rfl (upG hl1 rfl) ?_
      refine g_iload_n C d_Wa_enlist_28 rfl (upG hl2 rfl) ?_
      refine g_ishr C d_Wa_enlist_29 ?_
      refine g_iconst (v := 1) C d_Wa_enlist_30 (by decide) ?_
      refine g_iand C d_Wa_enlist_31 ?_
      refine g_if_eq (tgt := 75) C d_Wa_enlist_32 (by decide) hf (fun c6 hf => ?_) (fun c6 hf => ?_)
      · exact t_Wa_enlist_B75 C N _ ih _ _ _ _ ((upG hl0 rfl)) ((upG hl1 rfl)) ((upG hl2 rfl)) hf
      · refine g_aload_n C d_Wa_enlist_35 rfl upS ?_
        refine g_getI (k := 0) C k_Wk (by decide) fl_Wa_100 (shW _ hw5) rfl d_Wa_enlist_36 ?_
        refine g_iconst (v := 3) C d_Wa_enlist_39 (by decide) ?_
        refine g_icmp_eq (tgt := 75) C d_Wa_enlist_40 (by decide) hf (fun c7 hf => ?_) (fun c7 hf => ?_)
        · exact t_Wa_enlist_B75 C N _ ih _ _ _ _ ((upG hl0 rfl)) ((upG hl1 rfl)) ((upG hl2 rfl)) hf
        · refine g_aload_n C d_Wa_enlist_43 rfl upS ?_
          refine g_getI (k := 13) C k_Wk (by decide) fl_Wa_105 (shW _ hw5) rfl d_Wa_enlist_44 ?_
          refine g_aload_n C d_Wa_enlist_47 rfl (upG hl0 rfl) ?_
          refine g_getI (k := 13) C k_Wa (by decide) fl_Wa_49 rfl rfl d_Wa_enlist_48 ?_
          refine g_iand C d_Wa_enlist_51 ?_
          refine g_if_eq (tgt := 75) C d_Wa_enlist_52 (by decide) hf (fun c8 hf => ?_) (fun c8 hf => ?_)
          · exact t_Wa_enlist_B75 C N _ ih _ _ _ _ ((upG hl0 rfl)) ((upG hl1 rfl)) ((upG hl2 rfl)) hf
          · refine g_aload_n C d_Wa_enlist_55 rfl (upG hl0 rfl) ?_
            refine g_aload_n C d_Wa_enlist_56 rfl (upG hl0 rfl) ?_
            refine g_getI (k := 11) C k_Wa (by decide) fl_Wa_43 rfl rfl d_Wa_enlist_57 ?_
            refine g_iload_n C d_Wa_enlist_60 rfl (upG hl2 rfl) ?_
            refine g_aload_n C d_Wa_enlist_61 rfl upS ?_
            refine g_cvV C k_Wa rfl mv_Wa_setOut ml_Wa_107 d_Wa_enlist_62 hf (fun μ1 h => t_Wa_setOut C.2.2.2.2.2.2.2.2.1 hw5 h) rfl rfl (by decide) (Nat.le_of_ble_eq_true rfl) (fun μ9 hf => ?_)
            refine g_aload_n C d_Wa_enlist_65 rfl (upG hl0 rfl) ?_
            refine g_dup C d_Wa_enlist_66 rfl ?_
            refine g_getI (k := 11) C k_Wa (by decide) fl_Wa_43 rfl rfl d_Wa_enlist_67 ?_
            refine g_iconst (v := 1) C d_Wa_enlist_70 (by decide) ?_
            refine g_iadd C d_Wa_enlist_71 ?_
            refine g_putI (k := 11) C k_Wa (by decide) fl_Wa_43 rfl rfl rfl rfl d_Wa_enlist_72 ?_
            exact t_Wa_enlist_B75 C N _ ih _ _ _ _ ((upG hl0 rfl)) ((upG hl1 rfl)) ((upG hl2 rfl)) hf
set_option maxHeartbeats 4000000 in
theorem t_Wa_enlist {l : Launch} {ad : Nat → Nat} {dA : Nat → ClassId} {D : va_G} (hi : Inj SHX ad) {N : Nat} {a1 : Int32}  {μ μ' : Mm} (hf : f_Wa_enlist N a1 μ = some μ') : Ct CLS l SHX ad dA D y_Wa_enlist c_Wa_enlist 4 (none) 3 [.ref (ad 61), .int a1] μ none μ' := by
  unfold f_Wa_enlist at hf
  refine ct_of (by decide) hi (Nat.le_of_ble_eq_true rfl) ?_
  intro p e s m args below meth c C
  refine g_aload_n C d_Wa_enlist_0 rfl rfl ?_
  refine g_iconst (v := 0) C d_Wa_enlist_1 (by decide) ?_
  refine g_putI (k := 11) C k_Wa (by decide) fl_Wa_43 rfl rfl rfl rfl d_Wa_enlist_2 ?_
  refine g_iconst (v := 0) C d_Wa_enlist_5 (by decide) ?_
  refine g_istore_n C d_Wa_enlist_6 rfl (by decide) ?_
  exact t_Wa_enlist_L7 C N N _ _ _ _ ((upG rfl rfl)) ((upG rfl rfl)) upS hf
set_option maxHeartbeats 4000000 in
theorem t_Wa_earliest_B29 {ad : Nat → Nat} {dA : Nat → ClassId} {D : va_G} {p : Program} {l : Launch} {e : Env} {s : State} {m : MethodId} {args : Array Value} {below : List Frame} {meth : Method} {c : Code} {r : Int32} {μ' : Mm} (C : Cx CLS SHX ad dA D p s m args meth c c_Wa_earliest 3 R_Wa (some .int)) (N : Nat)   (k4 : Int32 → Int32 → Mm → Option (Int32 × Mm)) (hk4 : ∀ (v1 : Int32) (v2 : Int32) (μ : Mm) (lv : Nat → Option Value), lv 0 = some (.ref (ad 61)) → lv 1 = some (.int v1) → lv 2 = some (.int v2) → k4 v1 v2 μ = some (r, μ') → Go CLS SHX ad dA D p l e (rmD 0) s m args below meth c 3 (some (.int r)) μ' 4 lv [] μ) : ∀ (v1 : Int32) (v2 : Int32) (μ : Mm) (lv : Nat → Option Value), lv 0 = some (.ref (ad 61)) → lv 1 = some (.int v1) → lv 2 = some (.int v2) → f_Wa_earliest_B29 N k4 v1 v2 μ = some (r, μ') → Go CLS SHX ad dA D p l e (rmD 0) s m args below meth c 3 (some (.int r)) μ' 29 lv [] μ := by
  intro v1 v2 μ lv hl0 hl1 hl2 hf
  unfold f_Wa_earliest_B29 at hf
  refine g_iinc (v := 1) C d_Wa_earliest_29 hl2 (by decide) (by decide) ?_
  refine g_goto (tgt := 4) C d_Wa_earliest_32 (by decide) ?_
  exact hk4 _ _ _ _ ((upG hl0 rfl)) ((upG hl1 rfl)) upS hf
set_option maxHeartbeats 4000000 in
theorem t_Wa_earliest_L4 {ad : Nat → Nat} {dA : Nat → ClassId} {D : va_G} {p : Program} {l : Launch} {e : Env} {s : State} {m : MethodId} {args : Array Value} {below : List Frame} {meth : Method} {c : Code} {r : Int32} {μ' : Mm} (C : Cx CLS SHX ad dA D p s m args meth c c_Wa_earliest 3 R_Wa (some .int)) (N : Nat)   : ∀ (n : Nat) (v1 : Int32) (v2 : Int32) (μ : Mm) (lv : Nat → Option Value), lv 0 = some (.ref (ad 61)) → lv 1 = some (.int v1) → lv 2 = some (.int v2) → f_Wa_earliest_L4 N n v1 v2 μ = some (r, μ') → Go CLS SHX ad dA D p l e (rmD 0) s m args below meth c 3 (some (.int r)) μ' 4 lv [] μ := by
  intro n
  induction n with
  | zero => intro v1 v2 μ lv hl0 hl1 hl2 hf; cases (show none = some _ from hf)
  | succ n ih =>
    intro v1 v2 μ lv hl0 hl1 hl2 hf
    unfold f_Wa_earliest_L4 at hf
    refine g_iload_n C d_Wa_earliest_4 rfl hl2 ?_
    refine g_aload_n C d_Wa_earliest_5 rfl hl0 ?_
    refine g_getI (k := 11) C k_Wa (by decide) fl_Wa_43 rfl rfl d_Wa_earliest_6 ?_
    refine g_icmp_ge (tgt := 35) C d_Wa_earliest_9 (by decide) hf (fun c1 hf => ?_) (fun c1 hf => ?_)
    · refine g_iload_n C d_Wa_earliest_35 rfl hl1 ?_
      exact g_iret C d_Wa_earliest_36 hf
    · refine g_aload_n C d_Wa_earliest_12 rfl hl0 ?_
      refine g_getR (b := 70) (k := 10) C k_Wa (by decide) fl_Wa_40 rfl rfl d_Wa_earliest_13 ?_
      refine g_iload_n C d_Wa_earliest_16 rfl hl2 ?_
      refine g_iald C rfl d_Wa_earliest_17 hf (fun hf => ?_)
      refine g_aload_n C d_Wa_earliest_18 rfl hl0 ?_
      refine g_getR (b := 70) (k := 10) C k_Wa (by decide) fl_Wa_40 rfl rfl d_Wa_earliest_19 ?_
      refine g_iload_n C d_Wa_earliest_22 rfl hl1 ?_
      refine g_iald C rfl d_Wa_earliest_23 hf (fun hf => ?_)
      refine g_icmp_ge (tgt := 29) C d_Wa_earliest_24 (by decide) hf (fun c2 hf => ?_) (fun c2 hf => ?_)
      · exact t_Wa_earliest_B29 C N _ ih _ _ _ _ hl0 hl1 hl2 hf
      · refine g_iload_n C d_Wa_earliest_27 rfl hl2 ?_
        refine g_istore_n C d_Wa_earliest_28 rfl (by decide) ?_
        exact t_Wa_earliest_B29 C N _ ih _ _ _ _ ((upG hl0 rfl)) upS ((upG hl2 rfl)) hf
set_option maxHeartbeats 4000000 in
theorem t_Wa_earliest {l : Launch} {ad : Nat → Nat} {dA : Nat → ClassId} {D : va_G} (hi : Inj SHX ad) {N : Nat}   {μ μ' : Mm} {r : Int32} (hf : f_Wa_earliest N  μ = some (r, μ')) : Ct CLS l SHX ad dA D y_Wa_earliest c_Wa_earliest 3 (some .int) 0 [.ref (ad 61)] μ (some (.int r)) μ' := by
  unfold f_Wa_earliest at hf
  refine ct_of (by decide) hi (Nat.le_of_ble_eq_true rfl) ?_
  intro p e s m args below meth c C
  refine g_iconst (v := 0) C d_Wa_earliest_0 (by decide) ?_
  refine g_istore_n C d_Wa_earliest_1 rfl (by decide) ?_
  refine g_iconst (v := 1) C d_Wa_earliest_2 (by decide) ?_
  refine g_istore_n C d_Wa_earliest_3 rfl (by decide) ?_
  exact t_Wa_earliest_L4 C N N _ _ _ _ ((upG (upG rfl rfl) rfl)) ((upG upS rfl)) upS hf
set_option maxHeartbeats 4000000 in
theorem t_Wa_seeOne_B49 {ad : Nat → Nat} {dA : Nat → ClassId} {D : va_G} {p : Program} {l : Launch} {e : Env} {s : State} {m : MethodId} {args : Array Value} {below : List Frame} {meth : Method} {c : Code} {μ' : Mm} (C : Cx CLS SHX ad dA D p s m args meth c c_Wa_seeOne 4 R_Wa (none)) (N : Nat)   : ∀ (v1 : Int32) (v3 : Int32) (μ : Mm) (lv : Nat → Option Value), lv 0 = some (.ref (ad 61)) → lv 1 = some (.int v1) → lv 3 = some (.int v3) → f_Wa_seeOne_B49 N v1 v3 μ = some μ' → Go CLS SHX ad dA D p l e (rmD 1) s m args below meth c 4 none μ' 49 lv [] μ := by
  intro v1 v3 μ lv hl0 hl1 hl3 hf
  unfold f_Wa_seeOne_B49 at hf
  refine g_aload_n C d_Wa_seeOne_49 rfl hl0 ?_
  refine g_getR (b := 66) (k := 6) C k_Wa (by decide) fl_Wa_28 rfl rfl d_Wa_seeOne_50 ?_
  refine g_iload_n C d_Wa_seeOne_53 rfl hl1 ?_
  refine g_aload_n C d_Wa_seeOne_54 rfl hl0 ?_
  refine g_getR (b := 66) (k := 6) C k_Wa (by decide) fl_Wa_28 rfl rfl d_Wa_seeOne_55 ?_
  refine g_iload_n C d_Wa_seeOne_58 rfl hl1 ?_
  refine g_iald C rfl d_Wa_seeOne_59 hf (fun hf => ?_)
  refine g_iload_n C d_Wa_seeOne_60 rfl hl3 ?_
  refine g_csI C mv_Jm_max_7cf53 ml_Wa_68 d_Wa_seeOne_61 hf (fun r μ1 h => t_Jm_max_7cf53 C.2.2.2.2.2.2.2.2.1 h) rfl rfl (by decide) (Nat.le_of_ble_eq_true rfl) (fun r6 μ5 hf => ?_)
  refine g_iast C rfl d_Wa_seeOne_64 hf (fun hf => ?_)
  exact g_vret C d_Wa_seeOne_65 hf
set_option maxHeartbeats 4000000 in
theorem t_Wa_seeOne {l : Launch} {ad : Nat → Nat} {dA : Nat → ClassId} {D : va_G} (hi : Inj SHX ad) {N : Nat} {a1 : Int32} {a2 : Int32} {a3 : Int32}  {μ μ' : Mm} (hf : f_Wa_seeOne N a1 a2 a3 μ = some μ') : Ct CLS l SHX ad dA D y_Wa_seeOne c_Wa_seeOne 4 (none) 1 [.ref (ad 61), .int a1, .int a2, .int a3] μ none μ' := by
  unfold f_Wa_seeOne at hf
  refine ct_of (by decide) hi (Nat.le_of_ble_eq_true rfl) ?_
  intro p e s m args below meth c C
  refine g_aload_n C d_Wa_seeOne_0 rfl rfl ?_
  refine g_getR (b := 66) (k := 6) C k_Wa (by decide) fl_Wa_28 rfl rfl d_Wa_seeOne_1 ?_
  refine g_iload_n C d_Wa_seeOne_4 rfl rfl ?_
  refine g_iald C rfl d_Wa_seeOne_5 hf (fun hf => ?_)
  refine g_iconst (v := -1) C d_Wa_seeOne_6 (by decide) ?_
  refine g_icmp_ne (tgt := 20) C d_Wa_seeOne_7 (by decide) hf (fun c1 hf => ?_) (fun c1 hf => ?_)
  · refine g_aload_n C d_Wa_seeOne_10 rfl rfl ?_
    refine g_getR (b := 67) (k := 7) C k_Wa (by decide) fl_Wa_31 rfl rfl d_Wa_seeOne_11 ?_
    refine g_iload_n C d_Wa_seeOne_14 rfl rfl ?_
    refine g_iload_n C d_Wa_seeOne_15 rfl rfl ?_
    refine g_iast C rfl d_Wa_seeOne_16 hf (fun hf => ?_)
    refine g_goto (tgt := 49) C d_Wa_seeOne_17 (by decide) ?_
    exact t_Wa_seeOne_B49 C N _ _ _ _ rfl rfl rfl hf
  · refine g_iload_n C d_Wa_seeOne_20 rfl rfl ?_
    refine g_aload_n C d_Wa_seeOne_21 rfl rfl ?_
    refine g_getR (b := 66) (k := 6) C k_Wa (by decide) fl_Wa_28 rfl rfl d_Wa_seeOne_22 ?_
    refine g_iload_n C d_Wa_seeOne_25 rfl rfl ?_
    refine g_iald C rfl d_Wa_seeOne_26 hf (fun hf => ?_)
    refine g_icmp_le (tgt := 49) C d_Wa_seeOne_27 (by decide) hf (fun c3 hf => ?_) (fun c3 hf => ?_)
    · exact t_Wa_seeOne_B49 C N _ _ _ _ rfl rfl rfl hf
    · refine g_aload_n C d_Wa_seeOne_30 rfl rfl ?_
      refine g_iload_n C d_Wa_seeOne_31 rfl rfl ?_
      refine g_aload_n C d_Wa_seeOne_32 rfl rfl ?_
      refine g_getR (b := 66) (k := 6) C k_Wa (by decide) fl_Wa_28 rfl rfl d_Wa_seeOne_33 ?_
      refine g_iload_n C d_Wa_seeOne_36 rfl rfl ?_
      refine g_iald C rfl d_Wa_seeOne_37 hf (fun hf => ?_)
      refine g_iload_n C d_Wa_seeOne_38 rfl rfl ?_
      refine g_aload_n C d_Wa_seeOne_39 rfl rfl ?_
      refine g_getR (b := 66) (k := 6) C k_Wa (by decide) fl_Wa_28 rfl rfl d_Wa_seeOne_40 ?_
      refine g_iload_n C d_Wa_seeOne_43 rfl rfl ?_
      refine g_iald C rfl d_Wa_seeOne_44 hf (fun hf => ?_)
      refine g_isub C d_Wa_seeOne_45 ?_
      refine g_cvV C k_Wa rfl mv_Wa_noteGap ml_Wa_147 d_Wa_seeOne_46 hf (fun μ1 h => t_Wa_noteGap C.2.2.2.2.2.2.2.2.1 h) rfl rfl (by decide) (Nat.le_of_ble_eq_true rfl) (fun μ4 hf => ?_)
      exact t_Wa_seeOne_B49 C N _ _ _ _ rfl rfl rfl hf
set_option maxHeartbeats 4000000 in
theorem t_Wa_see_B33 {ad : Nat → Nat} {dA : Nat → ClassId} {D : va_G} {p : Program} {l : Launch} {e : Env} {s : State} {m : MethodId} {args : Array Value} {below : List Frame} {meth : Method} {c : Code} {μ' : Mm} (C : Cx CLS SHX ad dA D p s m args meth c c_Wa_see 6 R_Wa (none)) (N : Nat)   (k6 : Int32 → Int32 → Int32 → Int32 → Mm → Option Mm) (hk6 : ∀ (v2 : Int32) (v3 : Int32) (v4 : Int32) (v5 : Int32) (μ : Mm) (lv : Nat → Option Value), lv 0 = some (.ref (ad 61)) → lv 2 = some (.int v2) → lv 3 = some (.int v3) → lv 4 = some (.int v4) → lv 5 = some (.int v5) → k6 v2 v3 v4 v5 μ = some μ' → Go CLS SHX ad dA D p l e (rmD 2) s m args below meth c 6 none μ' 6 lv [] μ) : ∀ (v2 : Int32) (v3 : Int32) (v4 : Int32) (v5 : Int32) (μ : Mm) (lv : Nat → Option Value), lv 0 = some (.ref (ad 61)) → lv 2 = some (.int v2) → lv 3 = some (.int v3) → lv 4 = some (.int v4) → lv 5 = some (.int v5) → f_Wa_see_B33 N k6 v2 v3 v4 v5 μ = some μ' → Go CLS SHX ad dA D p l e (rmD 2) s m args below meth c 6 none μ' 33 lv [] μ := by
  intro v2 v3 v4 v5 μ lv hl0 hl2 hl3 hl4 hl5 hf
  unfold f_Wa_see_B33 at hf
  refine g_iload C d_Wa_see_33 hl4 ?_
  refine g_iconst (v := 1) C d_Wa_see_35 (by decide) ?_
  refine g_ishr C d_Wa_see_36 ?_
  refine g_istore C d_Wa_see_37 (by decide) ?_
  refine g_iinc (v := 1) C d_Wa_see_39 (upG hl5 rfl) (by decide) (by decide) ?_
  refine g_goto (tgt := 6) C d_Wa_see_42 (by decide) ?_
  exact hk6 _ _ _ _ _ _ ((upG (upG hl0 rfl) rfl)) ((upG (upG hl2 rfl) rfl)) ((upG (upG hl3 rfl) rfl)) ((upG upS rfl)) upS hf
set_option maxHeartbeats 4000000 in
theorem t_Wa_see_L6 {ad : Nat → Nat} {dA : Nat → ClassId} {D : va_G} {p : Program} {l : Launch} {e : Env} {s : State} {m : MethodId} {args : Array Value} {below : List Frame} {meth : Method} {c : Code} {μ' : Mm} (C : Cx CLS SHX ad dA D p s m args meth c c_Wa_see 6 R_Wa (none)) (N : Nat)   : ∀ (n : Nat) (v2 : Int32) (v3 : Int32) (v4 : Int32) (v5 : Int32) (μ : Mm) (lv : Nat → Option Value), lv 0 = some (.ref (ad 61)) → lv 2 = some (.int v2) → lv 3 = some (.int v3) → lv 4 = some (.int v4) → lv 5 = some (.int v5) → f_Wa_see_L6 N n v2 v3 v4 v5 μ = some μ' → Go CLS SHX ad dA D p l e (rmD 2) s m args below meth c 6 none μ' 6 lv [] μ := by
  intro n
  induction n with
  | zero => intro v2 v3 v4 v5 μ lv hl0 hl2 hl3 hl4 hl5 hf; cases (show none = some _ from hf)
  | succ n ih =>
    intro v2 v3 v4 v5 μ lv hl0 hl2 hl3 hl4 hl5 hf
    unfold f_Wa_see_L6 at hf
    refine g_iload C d_Wa_see_6 hl5 ?_
    refine g_bipush (v := 16) C d_Wa_see_8 (by decide) ?_
    refine g_icmp_ge (tgt := 45) C d_Wa_see_10 (by decide) hf (fun c1 hf => ?_) (fun c1 hf => ?_)
    · exact g_vret C d_Wa_see_45 hf
    · refine g_iload C d_Wa_see_13 hl4 ?_
      refine g_if_eq (tgt := 45) C d_Wa_see_15 (by decide) hf (fun c2 hf => ?_) (fun c2 hf => ?_)
      · exact g_vret C d_Wa_see_45 hf
      · refine g_iload C d_Wa_see_18 hl4 ?_
        refine g_iconst (v := 1) C d_Wa_see_20 (by decide) ?_
        refine g_iand C d_Wa_see_21 ?_
        refine g_if_eq (tgt := 33) C d_Wa_see_22 (by decide) hf (fun c3 hf => ?_) (fun c3 hf => ?_)
        · exact t_Wa_see_B33 C N _ ih _ _ _ _ _ _ hl0 hl2 hl3 hl4 hl5 hf
        · refine g_aload_n C d_Wa_see_25 rfl hl0 ?_
          refine g_iload C d_Wa_see_26 hl5 ?_
          refine g_iload_n C d_Wa_see_28 rfl hl2 ?_
          refine g_iload_n C d_Wa_see_29 rfl hl3 ?_
          refine g_cvV C k_Wa rfl mv_Wa_seeOne ml_Wa_144 d_Wa_see_30 hf (fun μ1 h => t_Wa_seeOne C.2.2.2.2.2.2.2.2.1 h) rfl rfl (by decide) (Nat.le_of_ble_eq_true rfl) (fun μ4 hf => ?_)
          exact t_Wa_see_B33 C N _ ih _ _ _ _ _ _ hl0 hl2 hl3 hl4 hl5 hf
set_option maxHeartbeats 4000000 in
theorem t_Wa_see {l : Launch} {ad : Nat → Nat} {dA : Nat → ClassId} {D : va_G} (hi : Inj SHX ad) {N : Nat} {a1 : Int32} {a2 : Int32} {a3 : Int32}  {μ μ' : Mm} (hf : f_Wa_see N a1 a2 a3 μ = some μ') : Ct CLS l SHX ad dA D y_Wa_see c_Wa_see 6 (none) 2 [.ref (ad 61), .int a1, .int a2, .int a3] μ none μ' := by
  unfold f_Wa_see at hf
  refine ct_of (by decide) hi (Nat.le_of_ble_eq_true rfl) ?_
  intro p e s m args below meth c C
  refine g_iload_n C d_Wa_see_0 rfl rfl ?_
  refine g_istore C d_Wa_see_1 (by decide) ?_
  refine g_iconst (v := 0) C d_Wa_see_3 (by decide) ?_
  refine g_istore C d_Wa_see_4 (by decide) ?_
  exact t_Wa_see_L6 C N N _ _ _ _ _ _ ((upG (upG rfl rfl) rfl)) ((upG (upG rfl rfl) rfl)) ((upG (upG rfl rfl) rfl)) ((upG upS rfl)) upS hf
set_option maxHeartbeats 4000000 in
theorem t_Wa_sweep_L2 {ad : Nat → Nat} {dA : Nat → ClassId} {D : va_G} {p : Program} {l : Launch} {e : Env} {s : State} {m : MethodId} {args : Array Value} {below : List Frame} {meth : Method} {c : Code} {μ' : Mm} (C : Cx CLS SHX ad dA D p s m args meth c c_Wa_sweep 6 R_Wa (none)) (N : Nat)   : ∀ (n : Nat) (v1 : Int32) (μ : Mm) (lv : Nat → Option Value), lv 0 = some (.ref (ad 61)) → lv 1 = some (.int v1) → f_Wa_sweep_L2 N n v1 μ = some μ' → Go CLS SHX ad dA D p l e (rmD 3) s m args below meth c 6 none μ' 2 lv [] μ := by
  intro n
  induction n with
  | zero => intro v1 μ lv hl0 hl1 hf; cases (show none = some _ from hf)
  | succ n ih =>
    intro v1 μ lv hl0 hl1 hf
    unfold f_Wa_sweep_L2 at hf
    refine g_iload_n C d_Wa_sweep_2 rfl hl1 ?_
    refine g_sipush (v := 11528) C d_Wa_sweep_3 (by decide) ?_
    refine g_icmp_ge (tgt := 136) C d_Wa_sweep_6 (by decide) hf (fun c1 hf => ?_) (fun c1 hf => ?_)
    · exact g_vret C d_Wa_sweep_136 hf
    · refine g_aload_n C d_Wa_sweep_9 rfl hl0 ?_
      refine g_getI (k := 11) C k_Wa (by decide) fl_Wa_43 rfl rfl d_Wa_sweep_10 ?_
      refine g_if_le (tgt := 136) C d_Wa_sweep_13 (by decide) hf (fun c2 hf => ?_) (fun c2 hf => ?_)
      · exact g_vret C d_Wa_sweep_136 hf
      · refine g_aload_n C d_Wa_sweep_16 rfl hl0 ?_
        refine g_cvI C k_Wa rfl mv_Wa_earliest ml_Wa_133 d_Wa_sweep_17 hf (fun r μ1 h => t_Wa_earliest C.2.2.2.2.2.2.2.2.1 h) rfl rfl (by decide) (Nat.le_of_ble_eq_true rfl) (fun r4 μ3 hf => ?_)
        refine g_istore_n C d_Wa_sweep_20 rfl (by decide) ?_
        refine g_aload_n C d_Wa_sweep_21 rfl (upG hl0 rfl) ?_
        refine g_getR (b := 70) (k := 10) C k_Wa (by decide) fl_Wa_40 rfl rfl d_Wa_sweep_22 ?_
        refine g_iload_n C d_Wa_sweep_25 rfl upS ?_
        refine g_iald C rfl d_Wa_sweep_26 hf (fun hf => ?_)
        refine g_istore_n C d_Wa_sweep_27 rfl (by decide) ?_
        refine g_iload_n C d_Wa_sweep_28 rfl upS ?_
        refine g_aload_n C d_Wa_sweep_29 rfl (upG (upG hl0 rfl) rfl) ?_
        refine g_getI (k := 0) C k_Wa (by decide) fl_Wa_9 rfl rfl d_Wa_sweep_30 ?_
        refine g_icmp_lt (tgt := 37) C d_Wa_sweep_33 (by decide) hf (fun c6 hf => ?_) (fun c6 hf => ?_)
        · refine g_aload_n C d_Wa_sweep_37 rfl (upG (upG hl0 rfl) rfl) ?_
          refine g_getR (b := 11) (k := 1) C k_Wa (by decide) fl_Wa_58 rfl rfl d_Wa_sweep_38 ?_
          refine g_aload_n C d_Wa_sweep_41 rfl (upG (upG hl0 rfl) rfl) ?_
          refine g_getR (b := 68) (k := 8) C k_Wa (by decide) fl_Wa_34 rfl rfl d_Wa_sweep_42 ?_
          refine g_iload_n C d_Wa_sweep_45 rfl (upG upS rfl) ?_
          refine g_iald C rfl d_Wa_sweep_46 hf (fun hf => ?_)
          refine g_cvW C k_Cr rfl mv_Cr_get ml_Wa_96 d_Wa_sweep_47 hf (fun r μ1 h => t_Cr_get C.2.2.2.2.2.2.2.2.1 h) rfl rfl (by decide) (Nat.le_of_ble_eq_true rfl) (fun r8 μ7 hf => ?_)
          obtain ⟨hw9, hf⟩ := chk8 hf
          refine g_astore C d_Wa_sweep_50 (by decide) ?_
          refine g_aload_n C d_Wa_sweep_52 rfl (upG (upG (upG hl0 rfl) rfl) rfl) ?_
          refine g_getR (b := 69) (k := 9) C k_Wa (by decide) fl_Wa_37 rfl rfl d_Wa_sweep_53 ?_
          refine g_iload_n C d_Wa_sweep_56 rfl (upG (upG upS rfl) rfl) ?_
          refine g_iald C rfl d_Wa_sweep_57 hf (fun hf => ?_)
          refine g_istore C d_Wa_sweep_58 (by decide) ?_
          refine g_aload_n C d_Wa_sweep_60 rfl (upG (upG (upG (upG hl0 rfl) rfl) rfl) rfl) ?_
          refine g_aload C d_Wa_sweep_61 (upG upS rfl) ?_
          refine g_getR (b := WK _ + 5) (k := 16) C k_Wk (by decide) fl_Wa_126 (shW _ hw9) rfl d_Wa_sweep_63 ?_
          refine g_iload C d_Wa_sweep_66 upS ?_
          refine g_iald C (shW5 _ hw9) d_Wa_sweep_68 hf (fun hf => ?_)
          refine g_aload_n C d_Wa_sweep_69 rfl (upG (upG (upG (upG hl0 rfl) rfl) rfl) rfl) ?_
          refine g_getI (k := 13) C k_Wa (by decide) fl_Wa_49 rfl rfl d_Wa_sweep_70 ?_
          refine g_iand C d_Wa_sweep_73 ?_
          refine g_iload_n C d_Wa_sweep_74 rfl (upG (upG upS rfl) rfl) ?_
          refine g_iload_n C d_Wa_sweep_75 rfl (upG (upG upS rfl) rfl) ?_
          refine g_aload C d_Wa_sweep_76 (upG upS rfl) ?_
          refine g_getR (b := WK _ + 2) (k := 10) C k_Wk (by decide) fl_Wa_137 (shW _ hw9) rfl d_Wa_sweep_78 ?_
          refine g_iload C d_Wa_sweep_81 upS ?_
          refine g_iald C (shW2 _ hw9) d_Wa_sweep_83 hf (fun hf => ?_)
          refine g_iadd C d_Wa_sweep_84 ?_
          refine g_iconst (v := 1) C d_Wa_sweep_85 (by decide) ?_
          refine g_iadd C d_Wa_sweep_86 ?_
          refine g_cvV C k_Wa rfl mv_Wa_see ml_Wa_140 d_Wa_sweep_87 hf (fun μ1 h => t_Wa_see C.2.2.2.2.2.2.2.2.1 h) rfl rfl (by decide) (Nat.le_of_ble_eq_true rfl) (fun μ11 hf => ?_)
          refine g_aload_n C d_Wa_sweep_90 rfl (upG (upG (upG (upG hl0 rfl) rfl) rfl) rfl) ?_
          refine g_getR (b := 70) (k := 10) C k_Wa (by decide) fl_Wa_40 rfl rfl d_Wa_sweep_91 ?_
          refine g_iload_n C d_Wa_sweep_94 rfl (upG (upG (upG upS rfl) rfl) rfl) ?_
          refine g_iload_n C d_Wa_sweep_95 rfl (upG (upG upS rfl) rfl) ?_
          refine g_aload C d_Wa_sweep_96 (upG upS rfl) ?_
          refine g_getR (b := WK _ + 3) (k := 14) C k_Wk (by decide) fl_Wa_117 (shW _ hw9) rfl d_Wa_sweep_98 ?_
          refine g_iload C d_Wa_sweep_101 upS ?_
          refine g_iconst (v := 1) C d_Wa_sweep_103 (by decide) ?_
          refine g_iadd C d_Wa_sweep_104 ?_
          refine g_iald C (shW3 _ hw9) d_Wa_sweep_105 hf (fun hf => ?_)
          refine g_iadd C d_Wa_sweep_106 ?_
          refine g_aload C d_Wa_sweep_107 (upG upS rfl) ?_
          refine g_getR (b := WK _ + 3) (k := 14) C k_Wk (by decide) fl_Wa_117 (shW _ hw9) rfl d_Wa_sweep_109 ?_
          refine g_iload C d_Wa_sweep_112 upS ?_
          refine g_iald C (shW3 _ hw9) d_Wa_sweep_114 hf (fun hf => ?_)
          refine g_isub C d_Wa_sweep_115 ?_
          refine g_iast C rfl d_Wa_sweep_116 hf (fun hf => ?_)
          refine g_aload_n C d_Wa_sweep_117 rfl (upG (upG (upG (upG hl0 rfl) rfl) rfl) rfl) ?_
          refine g_getR (b := 69) (k := 9) C k_Wa (by decide) fl_Wa_37 rfl rfl d_Wa_sweep_118 ?_
          refine g_iload_n C d_Wa_sweep_121 rfl (upG (upG (upG upS rfl) rfl) rfl) ?_
          refine g_aload C d_Wa_sweep_122 (upG upS rfl) ?_
          refine g_iload C d_Wa_sweep_124 upS ?_
          refine g_cvI C k_Wk (shW _ hw9) mv_Wk_legBehind ml_Wa_120 d_Wa_sweep_126 hf (fun r μ1 h => t_Wk_legBehind C.2.2.2.2.2.2.2.2.1 hw9 h) rfl rfl (by decide) (Nat.le_of_ble_eq_true rfl) (fun r16 μ15 hf => ?_)
          refine g_iast C rfl d_Wa_sweep_129 hf (fun hf => ?_)
          refine g_iinc (v := 1) C d_Wa_sweep_130 (upG (upG (upG (upG hl1 rfl) rfl) rfl) rfl) (by decide) (by decide) ?_
          refine g_goto (tgt := 2) C d_Wa_sweep_133 (by decide) ?_
          exact ih _ _ _ ((upG (upG (upG (upG (upG hl0 rfl) rfl) rfl) rfl) rfl)) upS hf
        · exact g_vret C d_Wa_sweep_36 hf
set_option maxHeartbeats 4000000 in
theorem t_Wa_sweep {l : Launch} {ad : Nat → Nat} {dA : Nat → ClassId} {D : va_G} (hi : Inj SHX ad) {N : Nat}   {μ μ' : Mm} (hf : f_Wa_sweep N  μ = some μ') : Ct CLS l SHX ad dA D y_Wa_sweep c_Wa_sweep 6 (none) 3 [.ref (ad 61)] μ none μ' := by
  unfold f_Wa_sweep at hf
  refine ct_of (by decide) hi (Nat.le_of_ble_eq_true rfl) ?_
  intro p e s m args below meth c C
  refine g_iconst (v := 0) C d_Wa_sweep_0 (by decide) ?_
  refine g_istore_n C d_Wa_sweep_1 rfl (by decide) ?_
  exact t_Wa_sweep_L2 C N N _ _ _ ((upG rfl rfl)) upS hf
set_option maxHeartbeats 4000000 in
theorem t_Wa_look {l : Launch} {ad : Nat → Nat} {dA : Nat → ClassId} {D : va_G} (hi : Inj SHX ad) {N : Nat} {a1 : Int32} {a2 : Int32} {a3 : Int32}  {μ μ' : Mm} (hf : f_Wa_look N a1 a2 a3 μ = some μ') : Ct CLS l SHX ad dA D y_Wa_look c_Wa_look 4 (none) 4 [.ref (ad 61), .int a1, .int a2, .int a3] μ none μ' := by
  unfold f_Wa_look at hf
  refine ct_of (by decide) hi (Nat.le_of_ble_eq_true rfl) ?_
  intro p e s m args below meth c C
  refine g_aload_n C d_Wa_look_0 rfl rfl ?_
  refine g_iconst (v := 1) C d_Wa_look_1 (by decide) ?_
  refine g_aload_n C d_Wa_look_2 rfl rfl ?_
  refine g_getR (b := 11) (k := 1) C k_Wa (by decide) fl_Wa_58 rfl rfl d_Wa_look_3 ?_
  refine g_iload_n C d_Wa_look_6 rfl rfl ?_
  refine g_cvI C k_Cr rfl mv_Cr_jointOf ml_Wa_62 d_Wa_look_7 hf (fun r μ1 h => t_Cr_jointOf C.2.2.2.2.2.2.2.2.1 h) rfl rfl (by decide) (Nat.le_of_ble_eq_true rfl) (fun r2 μ1 hf => ?_)
  refine g_csI C mv_Jm_max_7cf53 ml_Wa_68 d_Wa_look_10 hf (fun r μ1 h => t_Jm_max_7cf53 C.2.2.2.2.2.2.2.2.1 h) rfl rfl (by decide) (Nat.le_of_ble_eq_true rfl) (fun r4 μ3 hf => ?_)
  refine g_putI (k := 0) C k_Wa (by decide) fl_Wa_9 rfl rfl rfl rfl d_Wa_look_13 ?_
  refine g_aload_n C d_Wa_look_16 rfl rfl ?_
  refine g_iload_n C d_Wa_look_17 rfl rfl ?_
  refine g_putI (k := 15) C k_Wa (by decide) fl_Wa_55 rfl rfl rfl rfl d_Wa_look_18 ?_
  refine g_aload_n C d_Wa_look_21 rfl rfl ?_
  refine g_iload_n C d_Wa_look_22 rfl rfl ?_
  refine g_putI (k := 12) C k_Wa (by decide) fl_Wa_46 rfl rfl rfl rfl d_Wa_look_23 ?_
  refine g_aload_n C d_Wa_look_26 rfl rfl ?_
  refine g_iload_n C d_Wa_look_27 rfl rfl ?_
  refine g_aload_n C d_Wa_look_28 rfl rfl ?_
  refine g_getR (b := 11) (k := 1) C k_Wa (by decide) fl_Wa_58 rfl rfl d_Wa_look_29 ?_
  refine g_iload_n C d_Wa_look_32 rfl rfl ?_
  refine g_cvI C k_Cr rfl mv_Cr_everSeen ml_Wa_74 d_Wa_look_33 hf (fun r μ1 h => t_Cr_everSeen C.2.2.2.2.2.2.2.2.1 h) rfl rfl (by decide) (Nat.le_of_ble_eq_true rfl) (fun r9 μ8 hf => ?_)
  refine g_iconst (v := -1) C d_Wa_look_36 (by decide) ?_
  refine g_ixor C d_Wa_look_37 ?_
  refine g_iand C d_Wa_look_38 ?_
  refine g_putI (k := 14) C k_Wa (by decide) fl_Wa_52 rfl rfl rfl rfl d_Wa_look_39 ?_
  refine g_aload_n C d_Wa_look_42 rfl rfl ?_
  refine g_iload_n C d_Wa_look_43 rfl rfl ?_
  refine g_aload_n C d_Wa_look_44 rfl rfl ?_
  refine g_getI (k := 14) C k_Wa (by decide) fl_Wa_52 rfl rfl d_Wa_look_45 ?_
  refine g_iconst (v := -1) C d_Wa_look_48 (by decide) ?_
  refine g_ixor C d_Wa_look_49 ?_
  refine g_iand C d_Wa_look_50 ?_
  refine g_aload_n C d_Wa_look_51 rfl rfl ?_
  refine g_iload_n C d_Wa_look_52 rfl rfl ?_
  refine g_cvI C k_Wa rfl mv_Wa_alwaysSeen ml_Wa_77 d_Wa_look_53 hf (fun r μ1 h => t_Wa_alwaysSeen C.2.2.2.2.2.2.2.2.1 h) rfl rfl (by decide) (Nat.le_of_ble_eq_true rfl) (fun r12 μ11 hf => ?_)
  refine g_iconst (v := -1) C d_Wa_look_56 (by decide) ?_
  refine g_ixor C d_Wa_look_57 ?_
  refine g_iand C d_Wa_look_58 ?_
  refine g_putI (k := 13) C k_Wa (by decide) fl_Wa_49 rfl rfl rfl rfl d_Wa_look_59 ?_
  refine g_aload_n C d_Wa_look_62 rfl rfl ?_
  refine g_cvV C k_Wa rfl mv_Wa_clear ml_Wa_80 d_Wa_look_63 hf (fun μ1 h => t_Wa_clear C.2.2.2.2.2.2.2.2.1 h) rfl rfl (by decide) (Nat.le_of_ble_eq_true rfl) (fun μ14 hf => ?_)
  refine g_aload_n C d_Wa_look_66 rfl rfl ?_
  refine g_iload_n C d_Wa_look_67 rfl rfl ?_
  refine g_cvV C k_Wa rfl mv_Wa_enlist ml_Wa_83 d_Wa_look_68 hf (fun μ1 h => t_Wa_enlist C.2.2.2.2.2.2.2.2.1 h) rfl rfl (by decide) (Nat.le_of_ble_eq_true rfl) (fun μ15 hf => ?_)
  refine g_aload_n C d_Wa_look_71 rfl rfl ?_
  refine g_cvV C k_Wa rfl mv_Wa_sweep ml_Wa_87 d_Wa_look_72 hf (fun μ1 h => t_Wa_sweep C.2.2.2.2.2.2.2.2.1 h) rfl rfl (by decide) (Nat.le_of_ble_eq_true rfl) (fun μ16 hf => ?_)
  refine g_aload_n C d_Wa_look_75 rfl rfl ?_
  refine g_cvV C k_Wa rfl mv_Wa_closeRound ml_Wa_90 d_Wa_look_76 hf (fun μ1 h => t_Wa_closeRound C.2.2.2.2.2.2.2.2.1 h) rfl rfl (by decide) (Nat.le_of_ble_eq_true rfl) (fun μ17 hf => ?_)
  exact g_vret C d_Wa_look_79 hf
set_option maxHeartbeats 4000000 in
theorem t_Wa_idleOf {l : Launch} {ad : Nat → Nat} {dA : Nat → ClassId} {D : va_G} (hi : Inj SHX ad) {N : Nat} {a1 : Int32}  {μ μ' : Mm} {r : Int32} (hf : f_Wa_idleOf N a1 μ = some (r, μ')) : Ct CLS l SHX ad dA D y_Wa_idleOf c_Wa_idleOf 2 (some .int) 0 [.ref (ad 61), .int a1] μ (some (.int r)) μ' := by
  unfold f_Wa_idleOf at hf
  refine ct_of (by decide) hi (Nat.le_of_ble_eq_true rfl) ?_
  intro p e s m args below meth c C
  refine g_aload_n C d_Wa_idleOf_0 rfl rfl ?_
  refine g_getI (k := 14) C k_Wa (by decide) fl_Wa_52 rfl rfl d_Wa_idleOf_1 ?_
  refine g_iload_n C d_Wa_idleOf_4 rfl rfl ?_
  refine g_ishr C d_Wa_idleOf_5 ?_
  refine g_iconst (v := 1) C d_Wa_idleOf_6 (by decide) ?_
  refine g_iand C d_Wa_idleOf_7 ?_
  refine g_if_eq (tgt := 16) C d_Wa_idleOf_8 (by decide) hf (fun c1 hf => ?_) (fun c1 hf => ?_)
  · refine g_aload_n C d_Wa_idleOf_16 rfl rfl ?_
    refine g_getR (b := 62) (k := 2) C k_Wa (by decide) fl_Wa_15 rfl rfl d_Wa_idleOf_17 ?_
    refine g_iload_n C d_Wa_idleOf_20 rfl rfl ?_
    refine g_iald C rfl d_Wa_idleOf_21 hf (fun hf => ?_)
    exact g_iret C d_Wa_idleOf_22 hf
  · refine g_bipush (v := -9) C d_Wa_idleOf_11 (by decide) ?_
    refine g_goto (tgt := 22) C d_Wa_idleOf_13 (by decide) ?_
    exact g_iret C d_Wa_idleOf_22 hf
set_option maxHeartbeats 4000000 in
theorem t_Wa_idleStartOf {l : Launch} {ad : Nat → Nat} {dA : Nat → ClassId} {D : va_G} (hi : Inj SHX ad) {N : Nat} {a1 : Int32}  {μ μ' : Mm} {r : Int32} (hf : f_Wa_idleStartOf N a1 μ = some (r, μ')) : Ct CLS l SHX ad dA D y_Wa_idleStartOf c_Wa_idleStartOf 2 (some .int) 0 [.ref (ad 61), .int a1] μ (some (.int r)) μ' := by
  unfold f_Wa_idleStartOf at hf
  refine ct_of (by decide) hi (Nat.le_of_ble_eq_true rfl) ?_
  intro p e s m args below meth c C
  refine g_aload_n C d_Wa_idleStartOf_0 rfl rfl ?_
  refine g_getR (b := 63) (k := 3) C k_Wa (by decide) fl_Wa_19 rfl rfl d_Wa_idleStartOf_1 ?_
  refine g_iload_n C d_Wa_idleStartOf_4 rfl rfl ?_
  refine g_iald C rfl d_Wa_idleStartOf_5 hf (fun hf => ?_)
  exact g_iret C d_Wa_idleStartOf_6 hf
set_option maxHeartbeats 4000000 in
theorem t_Wa_unseenOf {l : Launch} {ad : Nat → Nat} {dA : Nat → ClassId} {D : va_G} (hi : Inj SHX ad) {N : Nat} {a1 : Int32}  {μ μ' : Mm} {r : Int32} (hf : f_Wa_unseenOf N a1 μ = some (r, μ')) : Ct CLS l SHX ad dA D y_Wa_unseenOf c_Wa_unseenOf 2 (some .int) 0 [.ref (ad 61), .int a1] μ (some (.int r)) μ' := by
  unfold f_Wa_unseenOf at hf
  refine ct_of (by decide) hi (Nat.le_of_ble_eq_true rfl) ?_
  intro p e s m args below meth c C
  refine g_aload_n C d_Wa_unseenOf_0 rfl rfl ?_
  refine g_getR (b := 64) (k := 4) C k_Wa (by decide) fl_Wa_22 rfl rfl d_Wa_unseenOf_1 ?_
  refine g_iload_n C d_Wa_unseenOf_4 rfl rfl ?_
  refine g_iald C rfl d_Wa_unseenOf_5 hf (fun hf => ?_)
  exact g_iret C d_Wa_unseenOf_6 hf
set_option maxHeartbeats 4000000 in
theorem t_Wa_openingsOf {l : Launch} {ad : Nat → Nat} {dA : Nat → ClassId} {D : va_G} (hi : Inj SHX ad) {N : Nat} {a1 : Int32}  {μ μ' : Mm} {r : Int32} (hf : f_Wa_openingsOf N a1 μ = some (r, μ')) : Ct CLS l SHX ad dA D y_Wa_openingsOf c_Wa_openingsOf 2 (some .int) 0 [.ref (ad 61), .int a1] μ (some (.int r)) μ' := by
  unfold f_Wa_openingsOf at hf
  refine ct_of (by decide) hi (Nat.le_of_ble_eq_true rfl) ?_
  intro p e s m args below meth c C
  refine g_aload_n C d_Wa_openingsOf_0 rfl rfl ?_
  refine g_getR (b := 65) (k := 5) C k_Wa (by decide) fl_Wa_25 rfl rfl d_Wa_openingsOf_1 ?_
  refine g_iload_n C d_Wa_openingsOf_4 rfl rfl ?_
  refine g_iald C rfl d_Wa_openingsOf_5 hf (fun hf => ?_)
  exact g_iret C d_Wa_openingsOf_6 hf
set_option maxHeartbeats 4000000 in
theorem t_Wa_loadOf {l : Launch} {ad : Nat → Nat} {dA : Nat → ClassId} {D : va_G} (hi : Inj SHX ad) {N : Nat} {a1 : Int32}  {μ μ' : Mm} {r : Int32} (hf : f_Wa_loadOf N a1 μ = some (r, μ')) : Ct CLS l SHX ad dA D y_Wa_loadOf c_Wa_loadOf 3 (some .int) 1 [.ref (ad 61), .int a1] μ (some (.int r)) μ' := by
  unfold f_Wa_loadOf at hf
  refine ct_of (by decide) hi (Nat.le_of_ble_eq_true rfl) ?_
  intro p e s m args below meth c C
  refine g_aload_n C d_Wa_loadOf_0 rfl rfl ?_
  refine g_iload_n C d_Wa_loadOf_1 rfl rfl ?_
  refine g_cvI C k_Wa rfl mv_Wa_idleOf ml_Wa_150 d_Wa_loadOf_2 hf (fun r μ1 h => t_Wa_idleOf C.2.2.2.2.2.2.2.2.1 h) rfl rfl (by decide) (Nat.le_of_ble_eq_true rfl) (fun r2 μ1 hf => ?_)
  refine g_istore_n C d_Wa_loadOf_5 rfl (by decide) ?_
  refine g_iload_n C d_Wa_loadOf_6 rfl upS ?_
  refine g_if_ge (tgt := 15) C d_Wa_loadOf_7 (by decide) hf (fun c3 hf => ?_) (fun c3 hf => ?_)
  · refine g_iload_n C d_Wa_loadOf_15 rfl upS ?_
    refine g_aload_n C d_Wa_loadOf_16 rfl (upG rfl rfl) ?_
    refine g_getR (b := 11) (k := 1) C k_Wa (by decide) fl_Wa_58 rfl rfl d_Wa_loadOf_17 ?_
    refine g_getR (b := 6) (k := 0) C k_Cr (by decide) fl_Wa_153 rfl rfl d_Wa_loadOf_20 ?_
    refine g_iload_n C d_Wa_loadOf_23 rfl (upG rfl rfl) ?_
    refine g_cvI C k_Gr rfl mv_Gr_worthOf ml_Wa_157 d_Wa_loadOf_24 hf (fun r μ1 h => t_Gr_worthOf C.2.2.2.2.2.2.2.2.1 h) rfl rfl (by decide) (Nat.le_of_ble_eq_true rfl) (fun r5 μ4 hf => ?_)
    refine g_imul C d_Wa_loadOf_27 ?_
    exact g_iret C d_Wa_loadOf_28 hf
  · refine g_bipush (v := -9) C d_Wa_loadOf_10 (by decide) ?_
    refine g_goto (tgt := 28) C d_Wa_loadOf_12 (by decide) ?_
    exact g_iret C d_Wa_loadOf_28 hf
set_option maxHeartbeats 4000000 in
theorem t_Wa_lureOf {l : Launch} {ad : Nat → Nat} {dA : Nat → ClassId} {D : va_G} (hi : Inj SHX ad) {N : Nat} {a1 : Int32}  {μ μ' : Mm} {r : Int32} (hf : f_Wa_lureOf N a1 μ = some (r, μ')) : Ct CLS l SHX ad dA D y_Wa_lureOf c_Wa_lureOf 2 (some .int) 1 [.ref (ad 61), .int a1] μ (some (.int r)) μ' := by
  unfold f_Wa_lureOf at hf
  refine ct_of (by decide) hi (Nat.le_of_ble_eq_true rfl) ?_
  intro p e s m args below meth c C
  refine g_aload_n C d_Wa_lureOf_0 rfl rfl ?_
  refine g_getR (b := 65) (k := 5) C k_Wa (by decide) fl_Wa_25 rfl rfl d_Wa_lureOf_1 ?_
  refine g_iload_n C d_Wa_lureOf_4 rfl rfl ?_
  refine g_iald C rfl d_Wa_lureOf_5 hf (fun hf => ?_)
  refine g_aload_n C d_Wa_lureOf_6 rfl rfl ?_
  refine g_getR (b := 11) (k := 1) C k_Wa (by decide) fl_Wa_58 rfl rfl d_Wa_lureOf_7 ?_
  refine g_getR (b := 6) (k := 0) C k_Cr (by decide) fl_Wa_153 rfl rfl d_Wa_lureOf_10 ?_
  refine g_iload_n C d_Wa_lureOf_13 rfl rfl ?_
  refine g_cvI C k_Gr rfl mv_Gr_worthOf ml_Wa_157 d_Wa_lureOf_14 hf (fun r μ1 h => t_Gr_worthOf C.2.2.2.2.2.2.2.2.1 h) rfl rfl (by decide) (Nat.le_of_ble_eq_true rfl) (fun r2 μ1 hf => ?_)
  refine g_imul C d_Wa_lureOf_17 ?_
  exact g_iret C d_Wa_lureOf_18 hf
set_option maxHeartbeats 4000000 in
theorem t_Ji_numberOfTrailingZeros_0f7a4_B74 {CL : List vw_C} {SH : List Shp} {ad : Nat → Nat} {dA : Nat → ClassId} {D : va_G} {p : Program} {l : Launch} {e : Env} {s : State} {m : MethodId} {args : Array Value} {below : List Frame} {meth : Method} {c : Code} {r : Int32} {μ' : Mm} (C : Cx CL SH ad dA D p s m args meth c c_Ji_numberOfTrailingZeros_0f7a4 2 R_Ji (some .int)) (N : Nat)   : ∀ (v0 : Int32) (v1 : Int32) (μ : Mm) (lv : Nat → Option Value), lv 0 = some (.int v0) → lv 1 = some (.int v1) → f_Ji_numberOfTrailingZeros_0f7a4_B74 N v0 v1 μ = some (r, μ') → Go CL SH ad dA D p l e (rmD 0) s m args below meth c 2 (some (.int r)) μ' 74 lv [] μ := by
  intro v0 v1 μ lv hl0 hl1 hf
  unfold f_Ji_numberOfTrailingZeros_0f7a4_B74 at hf
  refine g_iload_n C d_Ji_numberOfTrailingZeros_0f7a4_74 rfl hl1 ?_
  refine g_iload_n C d_Ji_numberOfTrailingZeros_0f7a4_75 rfl hl0 ?_
  refine g_iconst (v := 1) C d_Ji_numberOfTrailingZeros_0f7a4_76 (by decide) ?_
  refine g_iushr C d_Ji_numberOfTrailingZeros_0f7a4_77 ?_
  refine g_iadd C d_Ji_numberOfTrailingZeros_0f7a4_78 ?_
  exact g_iret C d_Ji_numberOfTrailingZeros_0f7a4_79 hf
set_option maxHeartbeats 4000000 in
theorem t_Ji_numberOfTrailingZeros_0f7a4_B62 {CL : List vw_C} {SH : List Shp} {ad : Nat → Nat} {dA : Nat → ClassId} {D : va_G} {p : Program} {l : Launch} {e : Env} {s : State} {m : MethodId} {args : Array Value} {below : List Frame} {meth : Method} {c : Code} {r : Int32} {μ' : Mm} (C : Cx CL SH ad dA D p s m args meth c c_Ji_numberOfTrailingZeros_0f7a4 2 R_Ji (some .int)) (N : Nat)   : ∀ (v0 : Int32) (v1 : Int32) (μ : Mm) (lv : Nat → Option Value), lv 0 = some (.int v0) → lv 1 = some (.int v1) → f_Ji_numberOfTrailingZeros_0f7a4_B62 N v0 v1 μ = some (r, μ') → Go CL SH ad dA D p l e (rmD 0) s m args below meth c 2 (some (.int r)) μ' 62 lv [] μ := by
  intro v0 v1 μ lv hl0 hl1 hf
  unfold f_Ji_numberOfTrailingZeros_0f7a4_B62 at hf
  refine g_iload_n C d_Ji_numberOfTrailingZeros_0f7a4_62 rfl hl0 ?_
  refine g_iconst (v := 4) C d_Ji_numberOfTrailingZeros_0f7a4_63 (by decide) ?_
  refine g_icmp_le (tgt := 74) C d_Ji_numberOfTrailingZeros_0f7a4_64 (by decide) hf (fun c12 hf => ?_) (fun c12 hf => ?_)
  · exact t_Ji_numberOfTrailingZeros_0f7a4_B74 C N _ _ _ _ hl0 hl1 hf
  · refine g_iinc (v := 2) C d_Ji_numberOfTrailingZeros_0f7a4_67 hl1 (by decide) (by decide) ?_
    refine g_iload_n C d_Ji_numberOfTrailingZeros_0f7a4_70 rfl (upG hl0 rfl) ?_
    refine g_iconst (v := 2) C d_Ji_numberOfTrailingZeros_0f7a4_71 (by decide) ?_
    refine g_iushr C d_Ji_numberOfTrailingZeros_0f7a4_72 ?_
    refine g_istore_n C d_Ji_numberOfTrailingZeros_0f7a4_73 rfl (by decide) ?_
    exact t_Ji_numberOfTrailingZeros_0f7a4_B74 C N _ _ _ _ upS ((upG upS rfl)) hf
set_option maxHeartbeats 4000000 in
theorem t_Ji_numberOfTrailingZeros_0f7a4_B49 {CL : List vw_C} {SH : List Shp} {ad : Nat → Nat} {dA : Nat → ClassId} {D : va_G} {p : Program} {l : Launch} {e : Env} {s : State} {m : MethodId} {args : Array Value} {below : List Frame} {meth : Method} {c : Code} {r : Int32} {μ' : Mm} (C : Cx CL SH ad dA D p s m args meth c c_Ji_numberOfTrailingZeros_0f7a4 2 R_Ji (some .int)) (N : Nat)   : ∀ (v0 : Int32) (v1 : Int32) (μ : Mm) (lv : Nat → Option Value), lv 0 = some (.int v0) → lv 1 = some (.int v1) → f_Ji_numberOfTrailingZeros_0f7a4_B49 N v0 v1 μ = some (r, μ') → Go CL SH ad dA D p l e (rmD 0) s m args below meth c 2 (some (.int r)) μ' 49 lv [] μ := by
  intro v0 v1 μ lv hl0 hl1 hf
  unfold f_Ji_numberOfTrailingZeros_0f7a4_B49 at hf
  refine g_iload_n C d_Ji_numberOfTrailingZeros_0f7a4_49 rfl hl0 ?_
  refine g_bipush (v := 16) C d_Ji_numberOfTrailingZeros_0f7a4_50 (by decide) ?_
  refine g_icmp_le (tgt := 62) C d_Ji_numberOfTrailingZeros_0f7a4_52 (by decide) hf (fun c9 hf => ?_) (fun c9 hf => ?_)
  · exact t_Ji_numberOfTrailingZeros_0f7a4_B62 C N _ _ _ _ hl0 hl1 hf
  · refine g_iinc (v := 4) C d_Ji_numberOfTrailingZeros_0f7a4_55 hl1 (by decide) (by decide) ?_
    refine g_iload_n C d_Ji_numberOfTrailingZeros_0f7a4_58 rfl (upG hl0 rfl) ?_
    refine g_iconst (v := 4) C d_Ji_numberOfTrailingZeros_0f7a4_59 (by decide) ?_
    refine g_iushr C d_Ji_numberOfTrailingZeros_0f7a4_60 ?_
    refine g_istore_n C d_Ji_numberOfTrailingZeros_0f7a4_61 rfl (by decide) ?_
    exact t_Ji_numberOfTrailingZeros_0f7a4_B62 C N _ _ _ _ upS ((upG upS rfl)) hf
set_option maxHeartbeats 4000000 in
theorem t_Ji_numberOfTrailingZeros_0f7a4_B34 {CL : List vw_C} {SH : List Shp} {ad : Nat → Nat} {dA : Nat → ClassId} {D : va_G} {p : Program} {l : Launch} {e : Env} {s : State} {m : MethodId} {args : Array Value} {below : List Frame} {meth : Method} {c : Code} {r : Int32} {μ' : Mm} (C : Cx CL SH ad dA D p s m args meth c c_Ji_numberOfTrailingZeros_0f7a4 2 R_Ji (some .int)) (N : Nat)   : ∀ (v0 : Int32) (v1 : Int32) (μ : Mm) (lv : Nat → Option Value), lv 0 = some (.int v0) → lv 1 = some (.int v1) → f_Ji_numberOfTrailingZeros_0f7a4_B34 N v0 v1 μ = some (r, μ') → Go CL SH ad dA D p l e (rmD 0) s m args below meth c 2 (some (.int r)) μ' 34 lv [] μ := by
  intro v0 v1 μ lv hl0 hl1 hf
  unfold f_Ji_numberOfTrailingZeros_0f7a4_B34 at hf
  refine g_iload_n C d_Ji_numberOfTrailingZeros_0f7a4_34 rfl hl0 ?_
  refine g_sipush (v := 256) C d_Ji_numberOfTrailingZeros_0f7a4_35 (by decide) ?_
  refine g_icmp_le (tgt := 49) C d_Ji_numberOfTrailingZeros_0f7a4_38 (by decide) hf (fun c6 hf => ?_) (fun c6 hf => ?_)
  · exact t_Ji_numberOfTrailingZeros_0f7a4_B49 C N _ _ _ _ hl0 hl1 hf
  · refine g_iinc (v := 8) C d_Ji_numberOfTrailingZeros_0f7a4_41 hl1 (by decide) (by decide) ?_
    refine g_iload_n C d_Ji_numberOfTrailingZeros_0f7a4_44 rfl (upG hl0 rfl) ?_
    refine g_bipush (v := 8) C d_Ji_numberOfTrailingZeros_0f7a4_45 (by decide) ?_
    refine g_iushr C d_Ji_numberOfTrailingZeros_0f7a4_47 ?_
    refine g_istore_n C d_Ji_numberOfTrailingZeros_0f7a4_48 rfl (by decide) ?_
    exact t_Ji_numberOfTrailingZeros_0f7a4_B49 C N _ _ _ _ upS ((upG upS rfl)) hf
set_option maxHeartbeats 4000000 in
theorem t_Ji_numberOfTrailingZeros_0f7a4 {CL : List vw_C} {SH : List Shp} {l : Launch} {ad : Nat → Nat} {dA : Nat → ClassId} {D : va_G} (hi : Inj SH ad) {N : Nat} {a1 : Int32}  {μ μ' : Mm} {r : Int32} (hf : f_Ji_numberOfTrailingZeros_0f7a4 N a1 μ = some (r, μ')) : Ct CL l SH ad dA D y_Ji_numberOfTrailingZeros_0f7a4 c_Ji_numberOfTrailingZeros_0f7a4 2 (some .int) 0 [.int a1] μ (some (.int r)) μ' := by
  unfold f_Ji_numberOfTrailingZeros_0f7a4 at hf
  refine ct_of (by decide) hi (Nat.le_of_ble_eq_true rfl) ?_
  intro p e s m args below meth c C
  refine g_iload_n C d_Ji_numberOfTrailingZeros_0f7a4_0 rfl rfl ?_
  refine g_iconst (v := -1) C d_Ji_numberOfTrailingZeros_0f7a4_1 (by decide) ?_
  refine g_ixor C d_Ji_numberOfTrailingZeros_0f7a4_2 ?_
  refine g_iload_n C d_Ji_numberOfTrailingZeros_0f7a4_3 rfl rfl ?_
  refine g_iconst (v := 1) C d_Ji_numberOfTrailingZeros_0f7a4_4 (by decide) ?_
  refine g_isub C d_Ji_numberOfTrailingZeros_0f7a4_5 ?_
  refine g_iand C d_Ji_numberOfTrailingZeros_0f7a4_6 ?_
  refine g_istore_n C d_Ji_numberOfTrailingZeros_0f7a4_7 rfl (by decide) ?_
  refine g_iload_n C d_Ji_numberOfTrailingZeros_0f7a4_8 rfl upS ?_
  refine g_if_gt (tgt := 17) C d_Ji_numberOfTrailingZeros_0f7a4_9 (by decide) hf (fun c2 hf => ?_) (fun c2 hf => ?_)
  · refine g_iconst (v := 1) C d_Ji_numberOfTrailingZeros_0f7a4_17 (by decide) ?_
    refine g_istore_n C d_Ji_numberOfTrailingZeros_0f7a4_18 rfl (by decide) ?_
    refine g_iload_n C d_Ji_numberOfTrailingZeros_0f7a4_19 rfl (upG upS rfl) ?_
    refine g_ldcw C ck_Ji_264 d_Ji_numberOfTrailingZeros_0f7a4_20 ?_
    refine g_icmp_le (tgt := 34) C d_Ji_numberOfTrailingZeros_0f7a4_23 (by decide) hf (fun c3 hf => ?_) (fun c3 hf => ?_)
    · exact t_Ji_numberOfTrailingZeros_0f7a4_B34 C N _ _ _ _ ((upG upS rfl)) upS hf
    · refine g_iinc (v := 16) C d_Ji_numberOfTrailingZeros_0f7a4_26 upS (by decide) (by decide) ?_
      refine g_iload_n C d_Ji_numberOfTrailingZeros_0f7a4_29 rfl (upG (upG upS rfl) rfl) ?_
      refine g_bipush (v := 16) C d_Ji_numberOfTrailingZeros_0f7a4_30 (by decide) ?_
      refine g_iushr C d_Ji_numberOfTrailingZeros_0f7a4_32 ?_
      refine g_istore_n C d_Ji_numberOfTrailingZeros_0f7a4_33 rfl (by decide) ?_
      exact t_Ji_numberOfTrailingZeros_0f7a4_B34 C N _ _ _ _ upS ((upG upS rfl)) hf
  · refine g_iload_n C d_Ji_numberOfTrailingZeros_0f7a4_12 rfl upS ?_
    refine g_bipush (v := 32) C d_Ji_numberOfTrailingZeros_0f7a4_13 (by decide) ?_
    refine g_iand C d_Ji_numberOfTrailingZeros_0f7a4_15 ?_
    exact g_iret C d_Ji_numberOfTrailingZeros_0f7a4_16 hf
set_option maxHeartbeats 4000000 in
theorem t_Wa_worstPost_B56 {ad : Nat → Nat} {dA : Nat → ClassId} {D : va_G} {p : Program} {l : Launch} {e : Env} {s : State} {m : MethodId} {args : Array Value} {below : List Frame} {meth : Method} {c : Code} {r : Int32} {μ' : Mm} (C : Cx CLS SHX ad dA D p s m args meth c c_Wa_worstPost 4 R_Wa (some .int)) (N : Nat)   (k22 : Int32 → Int32 → Int32 → Mm → Option (Int32 × Mm)) (hk22 : ∀ (v1 : Int32) (v2 : Int32) (v3 : Int32) (μ : Mm) (lv : Nat → Option Value), lv 0 = some (.ref (ad 61)) → lv 1 = some (.int v1) → lv 2 = some (.int v2) → lv 3 = some (.int v3) → k22 v1 v2 v3 μ = some (r, μ') → Go CLS SHX ad dA D p l e (rmD 2) s m args below meth c 4 (some (.int r)) μ' 22 lv [] μ) : ∀ (v1 : Int32) (v2 : Int32) (v3 : Int32) (μ : Mm) (lv : Nat → Option Value), lv 0 = some (.ref (ad 61)) → lv 1 = some (.int v1) → lv 2 = some (.int v2) → lv 3 = some (.int v3) → f_Wa_worstPost_B56 N k22 v1 v2 v3 μ = some (r, μ') → Go CLS SHX ad dA D p l e (rmD 2) s m args below meth c 4 (some (.int r)) μ' 56 lv [] μ := by
  intro v1 v2 v3 μ lv hl0 hl1 hl2 hl3 hf
  unfold f_Wa_worstPost_B56 at hf
  refine g_iinc (v := 1) C d_Wa_worstPost_56 hl3 (by decide) (by decide) ?_
  refine g_goto (tgt := 22) C d_Wa_worstPost_59 (by decide) ?_
  exact hk22 _ _ _ _ _ ((upG hl0 rfl)) ((upG hl1 rfl)) ((upG hl2 rfl)) upS hf
set_option maxHeartbeats 4000000 in
theorem t_Wa_worstPost_L22 {ad : Nat → Nat} {dA : Nat → ClassId} {D : va_G} {p : Program} {l : Launch} {e : Env} {s : State} {m : MethodId} {args : Array Value} {below : List Frame} {meth : Method} {c : Code} {r : Int32} {μ' : Mm} (C : Cx CLS SHX ad dA D p s m args meth c c_Wa_worstPost 4 R_Wa (some .int)) (N : Nat)   : ∀ (n : Nat) (v1 : Int32) (v2 : Int32) (v3 : Int32) (μ : Mm) (lv : Nat → Option Value), lv 0 = some (.ref (ad 61)) → lv 1 = some (.int v1) → lv 2 = some (.int v2) → lv 3 = some (.int v3) → f_Wa_worstPost_L22 N n v1 v2 v3 μ = some (r, μ') → Go CLS SHX ad dA D p l e (rmD 2) s m args below meth c 4 (some (.int r)) μ' 22 lv [] μ := by
  intro n
  induction n with
  | zero => intro v1 v2 v3 μ lv hl0 hl1 hl2 hl3 hf; cases (show none = some _ from hf)
  | succ n ih =>
    intro v1 v2 v3 μ lv hl0 hl1 hl2 hl3 hf
    unfold f_Wa_worstPost_L22 at hf
    refine g_iload_n C d_Wa_worstPost_22 rfl hl3 ?_
    refine g_bipush (v := 16) C d_Wa_worstPost_23 (by decide) ?_
    refine g_icmp_ge (tgt := 62) C d_Wa_worstPost_25 (by decide) hf (fun c4 hf => ?_) (fun c4 hf => ?_)
    · refine g_iload_n C d_Wa_worstPost_62 rfl hl1 ?_
      exact g_iret C d_Wa_worstPost_63 hf
    · refine g_aload_n C d_Wa_worstPost_28 rfl hl0 ?_
      refine g_getI (k := 12) C k_Wa (by decide) fl_Wa_46 rfl rfl d_Wa_worstPost_29 ?_
      refine g_iload_n C d_Wa_worstPost_32 rfl hl3 ?_
      refine g_ishr C d_Wa_worstPost_33 ?_
      refine g_iconst (v := 1) C d_Wa_worstPost_34 (by decide) ?_
      refine g_iand C d_Wa_worstPost_35 ?_
      refine g_if_eq (tgt := 56) C d_Wa_worstPost_36 (by decide) hf (fun c5 hf => ?_) (fun c5 hf => ?_)
      · exact t_Wa_worstPost_B56 C N _ ih _ _ _ _ _ hl0 hl1 hl2 hl3 hf
      · refine g_aload_n C d_Wa_worstPost_39 rfl hl0 ?_
        refine g_iload_n C d_Wa_worstPost_40 rfl hl3 ?_
        refine g_cvI C k_Wa rfl mv_Wa_loadOf ml_Wa_167 d_Wa_worstPost_41 hf (fun r μ1 h => t_Wa_loadOf C.2.2.2.2.2.2.2.2.1 h) rfl rfl (by decide) (Nat.le_of_ble_eq_true rfl) (fun r7 μ6 hf => ?_)
        refine g_iload_n C d_Wa_worstPost_44 rfl hl2 ?_
        refine g_icmp_le (tgt := 56) C d_Wa_worstPost_45 (by decide) hf (fun c8 hf => ?_) (fun c8 hf => ?_)
        · exact t_Wa_worstPost_B56 C N _ ih _ _ _ _ _ hl0 hl1 hl2 hl3 hf
        · refine g_iload_n C d_Wa_worstPost_48 rfl hl3 ?_
          refine g_istore_n C d_Wa_worstPost_49 rfl (by decide) ?_
          refine g_aload_n C d_Wa_worstPost_50 rfl (upG hl0 rfl) ?_
          refine g_iload_n C d_Wa_worstPost_51 rfl (upG hl3 rfl) ?_
          refine g_cvI C k_Wa rfl mv_Wa_loadOf ml_Wa_167 d_Wa_worstPost_52 hf (fun r μ1 h => t_Wa_loadOf C.2.2.2.2.2.2.2.2.1 h) rfl rfl (by decide) (Nat.le_of_ble_eq_true rfl) (fun r10 μ9 hf => ?_)
          refine g_istore_n C d_Wa_worstPost_55 rfl (by decide) ?_
          exact t_Wa_worstPost_B56 C N _ ih _ _ _ _ _ ((upG (upG hl0 rfl) rfl)) ((upG upS rfl)) upS ((upG (upG hl3 rfl) rfl)) hf
set_option maxHeartbeats 4000000 in
theorem t_Wa_worstPost {l : Launch} {ad : Nat → Nat} {dA : Nat → ClassId} {D : va_G} (hi : Inj SHX ad) {N : Nat}   {μ μ' : Mm} {r : Int32} (hf : f_Wa_worstPost N  μ = some (r, μ')) : Ct CLS l SHX ad dA D y_Wa_worstPost c_Wa_worstPost 4 (some .int) 2 [.ref (ad 61)] μ (some (.int r)) μ' := by
  unfold f_Wa_worstPost at hf
  refine ct_of (by decide) hi (Nat.le_of_ble_eq_true rfl) ?_
  intro p e s m args below meth c C
  refine g_aload_n C d_Wa_worstPost_0 rfl rfl ?_
  refine g_getI (k := 14) C k_Wa (by decide) fl_Wa_52 rfl rfl d_Wa_worstPost_1 ?_
  refine g_if_eq (tgt := 15) C d_Wa_worstPost_4 (by decide) hf (fun c1 hf => ?_) (fun c1 hf => ?_)
  · refine g_bipush (v := -9) C d_Wa_worstPost_15 (by decide) ?_
    refine g_istore_n C d_Wa_worstPost_17 rfl (by decide) ?_
    refine g_iconst (v := -1) C d_Wa_worstPost_18 (by decide) ?_
    refine g_istore_n C d_Wa_worstPost_19 rfl (by decide) ?_
    refine g_iconst (v := 0) C d_Wa_worstPost_20 (by decide) ?_
    refine g_istore_n C d_Wa_worstPost_21 rfl (by decide) ?_
    exact t_Wa_worstPost_L22 C N N _ _ _ _ _ ((upG (upG (upG rfl rfl) rfl) rfl)) ((upG (upG upS rfl) rfl)) ((upG upS rfl)) upS hf
  · refine g_aload_n C d_Wa_worstPost_7 rfl rfl ?_
    refine g_getI (k := 14) C k_Wa (by decide) fl_Wa_52 rfl rfl d_Wa_worstPost_8 ?_
    refine g_csI C mv_Ji_numberOfTrailingZeros_0f7a4 ml_Wa_162 d_Wa_worstPost_11 hf (fun r μ1 h => t_Ji_numberOfTrailingZeros_0f7a4 C.2.2.2.2.2.2.2.2.1 h) rfl rfl (by decide) (Nat.le_of_ble_eq_true rfl) (fun r3 μ2 hf => ?_)
    exact g_iret C d_Wa_worstPost_14 hf
set_option maxHeartbeats 4000000 in
theorem t_Wa_bestForThief_B41 {ad : Nat → Nat} {dA : Nat → ClassId} {D : va_G} {p : Program} {l : Launch} {e : Env} {s : State} {m : MethodId} {args : Array Value} {below : List Frame} {meth : Method} {c : Code} {r : Int32} {μ' : Mm} (C : Cx CLS SHX ad dA D p s m args meth c c_Wa_bestForThief 4 R_Wa (some .int)) (N : Nat)   (k7 : Int32 → Int32 → Int32 → Mm → Option (Int32 × Mm)) (hk7 : ∀ (v1 : Int32) (v2 : Int32) (v3 : Int32) (μ : Mm) (lv : Nat → Option Value), lv 0 = some (.ref (ad 61)) → lv 1 = some (.int v1) → lv 2 = some (.int v2) → lv 3 = some (.int v3) → k7 v1 v2 v3 μ = some (r, μ') → Go CLS SHX ad dA D p l e (rmD 2) s m args below meth c 4 (some (.int r)) μ' 7 lv [] μ) : ∀ (v1 : Int32) (v2 : Int32) (v3 : Int32) (μ : Mm) (lv : Nat → Option Value), lv 0 = some (.ref (ad 61)) → lv 1 = some (.int v1) → lv 2 = some (.int v2) → lv 3 = some (.int v3) → f_Wa_bestForThief_B41 N k7 v1 v2 v3 μ = some (r, μ') → Go CLS SHX ad dA D p l e (rmD 2) s m args below meth c 4 (some (.int r)) μ' 41 lv [] μ := by
  intro v1 v2 v3 μ lv hl0 hl1 hl2 hl3 hf
  unfold f_Wa_bestForThief_B41 at hf
  refine g_iinc (v := 1) C d_Wa_bestForThief_41 hl3 (by decide) (by decide) ?_
  refine g_goto (tgt := 7) C d_Wa_bestForThief_44 (by decide) ?_
  exact hk7 _ _ _ _ _ ((upG hl0 rfl)) ((upG hl1 rfl)) ((upG hl2 rfl)) upS hf
set_option maxHeartbeats 4000000 in
theorem t_Wa_bestForThief_L7 {ad : Nat → Nat} {dA : Nat → ClassId} {D : va_G} {p : Program} {l : Launch} {e : Env} {s : State} {m : MethodId} {args : Array Value} {below : List Frame} {meth : Method} {c : Code} {r : Int32} {μ' : Mm} (C : Cx CLS SHX ad dA D p s m args meth c c_Wa_bestForThief 4 R_Wa (some .int)) (N : Nat)   : ∀ (n : Nat) (v1 : Int32) (v2 : Int32) (v3 : Int32) (μ : Mm) (lv : Nat → Option Value), lv 0 = some (.ref (ad 61)) → lv 1 = some (.int v1) → lv 2 = some (.int v2) → lv 3 = some (.int v3) → f_Wa_bestForThief_L7 N n v1 v2 v3 μ = some (r, μ') → Go CLS SHX ad dA D p l e (rmD 2) s m args below meth c 4 (some (.int r)) μ' 7 lv [] μ := by
  intro n
  induction n with
  | zero => intro v1 v2 v3 μ lv hl0 hl1 hl2 hl3 hf; cases (show none = some _ from hf)
  | succ n ih =>
    intro v1 v2 v3 μ lv hl0 hl1 hl2 hl3 hf
    unfold f_Wa_bestForThief_L7 at hf
    refine g_iload_n C d_Wa_bestForThief_7 rfl hl3 ?_
    refine g_bipush (v := 16) C d_Wa_bestForThief_8 (by decide) ?_
    refine g_icmp_ge (tgt := 47) C d_Wa_bestForThief_10 (by decide) hf (fun c1 hf => ?_) (fun c1 hf => ?_)
    · refine g_iload_n C d_Wa_bestForThief_47 rfl hl1 ?_
      exact g_iret C d_Wa_bestForThief_48 hf
    · refine g_aload_n C d_Wa_bestForThief_13 rfl hl0 ?_
      refine g_getI (k := 12) C k_Wa (by decide) fl_Wa_46 rfl rfl d_Wa_bestForThief_14 ?_
      refine g_iload_n C d_Wa_bestForThief_17 rfl hl3 ?_
      refine g_ishr C d_Wa_bestForThief_18 ?_
      refine g_iconst (v := 1) C d_Wa_bestForThief_19 (by decide) ?_
      refine g_iand C d_Wa_bestForThief_20 ?_
      refine g_if_eq (tgt := 41) C d_Wa_bestForThief_21 (by decide) hf (fun c2 hf => ?_) (fun c2 hf => ?_)
      · exact t_Wa_bestForThief_B41 C N _ ih _ _ _ _ _ hl0 hl1 hl2 hl3 hf
      · refine g_aload_n C d_Wa_bestForThief_24 rfl hl0 ?_
        refine g_iload_n C d_Wa_bestForThief_25 rfl hl3 ?_
        refine g_cvI C k_Wa rfl mv_Wa_lureOf ml_Wa_170 d_Wa_bestForThief_26 hf (fun r μ1 h => t_Wa_lureOf C.2.2.2.2.2.2.2.2.1 h) rfl rfl (by decide) (Nat.le_of_ble_eq_true rfl) (fun r4 μ3 hf => ?_)
        refine g_iload_n C d_Wa_bestForThief_29 rfl hl2 ?_
        refine g_icmp_le (tgt := 41) C d_Wa_bestForThief_30 (by decide) hf (fun c5 hf => ?_) (fun c5 hf => ?_)
        · exact t_Wa_bestForThief_B41 C N _ ih _ _ _ _ _ hl0 hl1 hl2 hl3 hf
        · refine g_iload_n C d_Wa_bestForThief_33 rfl hl3 ?_
          refine g_istore_n C d_Wa_bestForThief_34 rfl (by decide) ?_
          refine g_aload_n C d_Wa_bestForThief_35 rfl (upG hl0 rfl) ?_
          refine g_iload_n C d_Wa_bestForThief_36 rfl (upG hl3 rfl) ?_
          refine g_cvI C k_Wa rfl mv_Wa_lureOf ml_Wa_170 d_Wa_bestForThief_37 hf (fun r μ1 h => t_Wa_lureOf C.2.2.2.2.2.2.2.2.1 h) rfl rfl (by decide) (Nat.le_of_ble_eq_true rfl) (fun r7 μ6 hf => ?_)
          refine g_istore_n C d_Wa_bestForThief_40 rfl (by decide) ?_
          exact t_Wa_bestForThief_B41 C N _ ih _ _ _ _ _ ((upG (upG hl0 rfl) rfl)) ((upG upS rfl)) upS ((upG (upG hl3 rfl) rfl)) hf
set_option maxHeartbeats 4000000 in
theorem t_Wa_bestForThief {l : Launch} {ad : Nat → Nat} {dA : Nat → ClassId} {D : va_G} (hi : Inj SHX ad) {N : Nat}   {μ μ' : Mm} {r : Int32} (hf : f_Wa_bestForThief N  μ = some (r, μ')) : Ct CLS l SHX ad dA D y_Wa_bestForThief c_Wa_bestForThief 4 (some .int) 2 [.ref (ad 61)] μ (some (.int r)) μ' := by
  unfold f_Wa_bestForThief at hf
  refine ct_of (by decide) hi (Nat.le_of_ble_eq_true rfl) ?_
  intro p e s m args below meth c C
  refine g_bipush (v := -9) C d_Wa_bestForThief_0 (by decide) ?_
  refine g_istore_n C d_Wa_bestForThief_2 rfl (by decide) ?_
  refine g_iconst (v := 0) C d_Wa_bestForThief_3 (by decide) ?_
  refine g_istore_n C d_Wa_bestForThief_4 rfl (by decide) ?_
  refine g_iconst (v := 0) C d_Wa_bestForThief_5 (by decide) ?_
  refine g_istore_n C d_Wa_bestForThief_6 rfl (by decide) ?_
  exact t_Wa_bestForThief_L7 C N N _ _ _ _ _ ((upG (upG (upG rfl rfl) rfl) rfl)) ((upG (upG upS rfl) rfl)) ((upG upS rfl)) upS hf
set_option maxHeartbeats 4000000 in
theorem t_Wa_longestIdle_B42 {ad : Nat → Nat} {dA : Nat → ClassId} {D : va_G} {p : Program} {l : Launch} {e : Env} {s : State} {m : MethodId} {args : Array Value} {below : List Frame} {meth : Method} {c : Code} {r : Int32} {μ' : Mm} (C : Cx CLS SHX ad dA D p s m args meth c c_Wa_longestIdle 3 R_Wa (some .int)) (N : Nat)   (k14 : Int32 → Int32 → Mm → Option (Int32 × Mm)) (hk14 : ∀ (v1 : Int32) (v2 : Int32) (μ : Mm) (lv : Nat → Option Value), lv 0 = some (.ref (ad 61)) → lv 1 = some (.int v1) → lv 2 = some (.int v2) → k14 v1 v2 μ = some (r, μ') → Go CLS SHX ad dA D p l e (rmD 1) s m args below meth c 3 (some (.int r)) μ' 14 lv [] μ) : ∀ (v2 : Int32) (s0 : Int32) (s1 : Int32) (μ : Mm) (lv : Nat → Option Value), lv 0 = some (.ref (ad 61)) → lv 2 = some (.int v2) → f_Wa_longestIdle_B42 N k14 v2 s0 s1 μ = some (r, μ') → Go CLS SHX ad dA D p l e (rmD 1) s m args below meth c 3 (some (.int r)) μ' 42 lv [.int s1, .int s0] μ := by
  intro v2 s0 s1 μ lv hl0 hl2 hf
  unfold f_Wa_longestIdle_B42 at hf
  refine g_csI C mv_Jm_max_7cf53 ml_Wa_68 d_Wa_longestIdle_42 hf (fun r μ1 h => t_Jm_max_7cf53 C.2.2.2.2.2.2.2.2.1 h) rfl rfl (by decide) (Nat.le_of_ble_eq_true rfl) (fun r5 μ4 hf => ?_)
  refine g_istore_n C d_Wa_longestIdle_45 rfl (by decide) ?_
  refine g_iinc (v := 1) C d_Wa_longestIdle_46 (upG hl2 rfl) (by decide) (by decide) ?_
  refine g_goto (tgt := 14) C d_Wa_longestIdle_49 (by decide) ?_
  exact hk14 _ _ _ _ ((upG (upG hl0 rfl) rfl)) ((upG upS rfl)) upS hf
set_option maxHeartbeats 4000000 in
theorem t_Wa_longestIdle_L14 {ad : Nat → Nat} {dA : Nat → ClassId} {D : va_G} {p : Program} {l : Launch} {e : Env} {s : State} {m : MethodId} {args : Array Value} {below : List Frame} {meth : Method} {c : Code} {r : Int32} {μ' : Mm} (C : Cx CLS SHX ad dA D p s m args meth c c_Wa_longestIdle 3 R_Wa (some .int)) (N : Nat)   : ∀ (n : Nat) (v1 : Int32) (v2 : Int32) (μ : Mm) (lv : Nat → Option Value), lv 0 = some (.ref (ad 61)) → lv 1 = some (.int v1) → lv 2 = some (.int v2) → f_Wa_longestIdle_L14 N n v1 v2 μ = some (r, μ') → Go CLS SHX ad dA D p l e (rmD 1) s m args below meth c 3 (some (.int r)) μ' 14 lv [] μ := by
  intro n
  induction n with
  | zero => intro v1 v2 μ lv hl0 hl1 hl2 hf; cases (show none = some _ from hf)
  | succ n ih =>
    intro v1 v2 μ lv hl0 hl1 hl2 hf
    unfold f_Wa_longestIdle_L14 at hf
    refine g_iload_n C d_Wa_longestIdle_14 rfl hl2 ?_
    refine g_bipush (v := 16) C d_Wa_longestIdle_15 (by decide) ?_
    refine g_icmp_ge (tgt := 52) C d_Wa_longestIdle_17 (by decide) hf (fun c2 hf => ?_) (fun c2 hf => ?_)
    · refine g_iload_n C d_Wa_longestIdle_52 rfl hl1 ?_
      exact g_iret C d_Wa_longestIdle_53 hf
    · refine g_iload_n C d_Wa_longestIdle_20 rfl hl1 ?_
      refine g_aload_n C d_Wa_longestIdle_21 rfl hl0 ?_
      refine g_getI (k := 12) C k_Wa (by decide) fl_Wa_46 rfl rfl d_Wa_longestIdle_22 ?_
      refine g_iload_n C d_Wa_longestIdle_25 rfl hl2 ?_
      refine g_ishr C d_Wa_longestIdle_26 ?_
      refine g_iconst (v := 1) C d_Wa_longestIdle_27 (by decide) ?_
      refine g_iand C d_Wa_longestIdle_28 ?_
      refine g_if_eq (tgt := 41) C d_Wa_longestIdle_29 (by decide) hf (fun c3 hf => ?_) (fun c3 hf => ?_)
      · refine g_iconst (v := 0) C d_Wa_longestIdle_41 (by decide) ?_
        exact t_Wa_longestIdle_B42 C N _ ih _ _ _ _ _ hl0 hl2 hf
      · refine g_aload_n C d_Wa_longestIdle_32 rfl hl0 ?_
        refine g_getR (b := 62) (k := 2) C k_Wa (by decide) fl_Wa_15 rfl rfl d_Wa_longestIdle_33 ?_
        refine g_iload_n C d_Wa_longestIdle_36 rfl hl2 ?_
        refine g_iald C rfl d_Wa_longestIdle_37 hf (fun hf => ?_)
        refine g_goto (tgt := 42) C d_Wa_longestIdle_38 (by decide) ?_
        exact t_Wa_longestIdle_B42 C N _ ih _ _ _ _ _ hl0 hl2 hf
set_option maxHeartbeats 4000000 in
theorem t_Wa_longestIdle {l : Launch} {ad : Nat → Nat} {dA : Nat → ClassId} {D : va_G} (hi : Inj SHX ad) {N : Nat}   {μ μ' : Mm} {r : Int32} (hf : f_Wa_longestIdle N  μ = some (r, μ')) : Ct CLS l SHX ad dA D y_Wa_longestIdle c_Wa_longestIdle 3 (some .int) 1 [.ref (ad 61)] μ (some (.int r)) μ' := by
  unfold f_Wa_longestIdle at hf
  refine ct_of (by decide) hi (Nat.le_of_ble_eq_true rfl) ?_
  intro p e s m args below meth c C
  refine g_aload_n C d_Wa_longestIdle_0 rfl rfl ?_
  refine g_getI (k := 14) C k_Wa (by decide) fl_Wa_52 rfl rfl d_Wa_longestIdle_1 ?_
  refine g_if_eq (tgt := 10) C d_Wa_longestIdle_4 (by decide) hf (fun c1 hf => ?_) (fun c1 hf => ?_)
  · refine g_iconst (v := 0) C d_Wa_longestIdle_10 (by decide) ?_
    refine g_istore_n C d_Wa_longestIdle_11 rfl (by decide) ?_
    refine g_iconst (v := 0) C d_Wa_longestIdle_12 (by decide) ?_
    refine g_istore_n C d_Wa_longestIdle_13 rfl (by decide) ?_
    exact t_Wa_longestIdle_L14 C N N _ _ _ _ ((upG (upG rfl rfl) rfl)) ((upG upS rfl)) upS hf
  · refine g_bipush (v := -9) C d_Wa_longestIdle_7 (by decide) ?_
    exact g_iret C d_Wa_longestIdle_9 hf
set_option maxHeartbeats 4000000 in
theorem t_W_isRow {l : Launch} {ad : Nat → Nat} {dA : Nat → ClassId} {D : va_G} (hi : Inj SHX ad) {N : Nat} {a1 : Int32}  {μ μ' : Mm} {r : Int32} (hf : f_W_isRow N a1 μ = some (r, μ')) : Ct CLS l SHX ad dA D y_W_isRow c_W_isRow 1 (some .boolean) 0 [.int a1] μ (some (.int r)) μ' := by
  unfold f_W_isRow at hf
  refine ct_of (by decide) hi (Nat.le_of_ble_eq_true rfl) ?_
  intro p e s m args below meth c C
  refine g_iload_n C d_W_isRow_0 rfl rfl ?_
  refine g_if_lt (tgt := 14) C d_W_isRow_1 (by decide) hf (fun c1 hf => ?_) (fun c1 hf => ?_)
  · refine g_iconst (v := 0) C d_W_isRow_14 (by decide) ?_
    exact g_zretc C d_W_isRow_15 rfl hf
  · refine g_iload_n C d_W_isRow_4 rfl rfl ?_
    refine g_bipush (v := 8) C d_W_isRow_5 (by decide) ?_
    refine g_icmp_ge (tgt := 14) C d_W_isRow_7 (by decide) hf (fun c2 hf => ?_) (fun c2 hf => ?_)
    · refine g_iconst (v := 0) C d_W_isRow_14 (by decide) ?_
      exact g_zretc C d_W_isRow_15 rfl hf
    · refine g_iconst (v := 1) C d_W_isRow_10 (by decide) ?_
      refine g_goto (tgt := 15) C d_W_isRow_11 (by decide) ?_
      exact g_zretc C d_W_isRow_15 rfl hf
set_option maxHeartbeats 4000000 in
theorem t_W_row {l : Launch} {ad : Nat → Nat} {dA : Nat → ClassId} {D : va_G} (hi : Inj SHX ad) {N : Nat} {a1 : Int32} {a2 : Int32}  {μ μ' : Mm} {r : Int32} (hf : f_W_row N a1 a2 μ = some (r, μ')) : Ct CLS l SHX ad dA D y_W_row c_W_row 3 (some .int) 2 [.ref (ad 0), .int a1, .int a2] μ (some (.int r)) μ' := by
  unfold f_W_row at hf
  refine ct_of (by decide) hi (Nat.le_of_ble_eq_true rfl) ?_
  intro p e s m args below meth c C
  refine g_iload_n C d_W_row_0 rfl rfl ?_
  refine g_csI C mv_W_isRow ml_W_71 d_W_row_1 hf (fun r μ1 h => t_W_isRow C.2.2.2.2.2.2.2.2.1 h) rfl rfl (by decide) (Nat.le_of_ble_eq_true rfl) (fun r2 μ1 hf => ?_)
  refine g_if_eq (tgt := 13) C d_W_row_4 (by decide) hf (fun c3 hf => ?_) (fun c3 hf => ?_)
  · refine g_iconst (v := -1) C d_W_row_13 (by decide) ?_
    exact g_iret C d_W_row_14 hf
  · refine g_iload_n C d_W_row_7 rfl rfl ?_
    refine g_bipush (v := 40) C d_W_row_8 (by decide) ?_
    refine g_icmp_le (tgt := 15) C d_W_row_10 (by decide) hf (fun c4 hf => ?_) (fun c4 hf => ?_)
    · refine g_iload_n C d_W_row_15 rfl rfl ?_
      refine g_if_ge (tgt := 28) C d_W_row_16 (by decide) hf (fun c5 hf => ?_) (fun c5 hf => ?_)
      · refine g_aload_n C d_W_row_28 rfl rfl ?_
        refine g_getR (b := 3) (k := 1) C k_W (by decide) fl_W_19 rfl rfl d_W_row_29 ?_
        refine g_iload_n C d_W_row_32 rfl rfl ?_
        refine g_iload_n C d_W_row_33 rfl rfl ?_
        refine g_cvV C k_Sf rfl mv_Sf_put ml_W_79 d_W_row_34 hf (fun μ1 h => t_Sf_put C.2.2.2.2.2.2.2.2.1 h) rfl rfl (by decide) (Nat.le_of_ble_eq_true rfl) (fun μ6 hf => ?_)
        refine g_iload_n C d_W_row_37 rfl rfl ?_
        exact g_iret C d_W_row_38 hf
      · refine g_aload_n C d_W_row_19 rfl rfl ?_
        refine g_getR (b := 1) (k := 0) C k_W (by decide) fl_W_10 rfl rfl d_W_row_20 ?_
        refine g_iconst (v := 5) C d_W_row_23 (by decide) ?_
        refine g_cvI C k_Ta rfl mv_Ta_found ml_W_75 d_W_row_24 hf (fun r μ1 h => t_Ta_found C.2.2.2.2.2.2.2.2.1 h) rfl rfl (by decide) (Nat.le_of_ble_eq_true rfl) (fun r8 μ7 hf => ?_)
        exact g_iret C d_W_row_27 hf
    · refine g_iconst (v := -1) C d_W_row_13 (by decide) ?_
      exact g_iret C d_W_row_14 hf
set_option maxHeartbeats 4000000 in
theorem t_W_lay_B45 {ad : Nat → Nat} {dA : Nat → ClassId} {D : va_G} {p : Program} {l : Launch} {e : Env} {s : State} {m : MethodId} {args : Array Value} {below : List Frame} {meth : Method} {c : Code} {r : Int32} {μ' : Mm} (C : Cx CLS SHX ad dA D p s m args meth c c_W_lay 5 R_W (some .int)) (N : Nat)   : ∀  (μ : Mm) (lv : Nat → Option Value), lv 0 = some (.ref (ad 0)) → f_W_lay_B45 N μ = some (r, μ') → Go CLS SHX ad dA D p l e (rmD 1) s m args below meth c 5 (some (.int r)) μ' 45 lv [] μ := by
  intro μ lv hl0 hf
  unfold f_W_lay_B45 at hf
  refine g_aload_n C d_W_lay_45 rfl hl0 ?_
  refine g_getR (b := 1) (k := 0) C k_W (by decide) fl_W_10 rfl rfl d_W_lay_46 ?_
  refine g_iconst (v := 2) C d_W_lay_49 (by decide) ?_
  refine g_cvI C k_Ta rfl mv_Ta_found ml_W_75 d_W_lay_50 hf (fun r μ1 h => t_Ta_found C.2.2.2.2.2.2.2.2.1 h) rfl rfl (by decide) (Nat.le_of_ble_eq_true rfl) (fun r17 μ16 hf => ?_)
  exact g_iret C d_W_lay_53 hf
set_option maxHeartbeats 4000000 in
theorem t_W_lay {l : Launch} {ad : Nat → Nat} {dA : Nat → ClassId} {D : va_G} (hi : Inj SHX ad) {N : Nat} {a1 : Int32} {a2 : Int32} {a3 : Int32}  {μ μ' : Mm} {r : Int32} (hf : f_W_lay N a1 a2 a3 μ = some (r, μ')) : Ct CLS l SHX ad dA D y_W_lay c_W_lay 5 (some .int) 1 [.ref (ad 0), .int a1, .int a2, .int a3] μ (some (.int r)) μ' := by
  unfold f_W_lay at hf
  refine ct_of (by decide) hi (Nat.le_of_ble_eq_true rfl) ?_
  intro p e s m args below meth c C
  refine g_iload_n C d_W_lay_0 rfl rfl ?_
  refine g_csI C mv_W_isRow ml_W_71 d_W_lay_1 hf (fun r μ1 h => t_W_isRow C.2.2.2.2.2.2.2.2.1 h) rfl rfl (by decide) (Nat.le_of_ble_eq_true rfl) (fun r2 μ1 hf => ?_)
  refine g_if_ne (tgt := 9) C d_W_lay_4 (by decide) hf (fun c3 hf => ?_) (fun c3 hf => ?_)
  · refine g_iconst (v := -1) C d_W_lay_7 (by decide) ?_
    exact g_iret C d_W_lay_8 hf
  · refine g_aload_n C d_W_lay_9 rfl rfl ?_
    refine g_getR (b := 3) (k := 1) C k_W (by decide) fl_W_19 rfl rfl d_W_lay_10 ?_
    refine g_iload_n C d_W_lay_13 rfl rfl ?_
    refine g_cvI C k_Sf rfl mv_Sf_lacks ml_W_83 d_W_lay_14 hf (fun r μ1 h => t_Sf_lacks C.2.2.2.2.2.2.2.2.1 h) rfl rfl (by decide) (Nat.le_of_ble_eq_true rfl) (fun r5 μ4 hf => ?_)
    refine g_if_eq (tgt := 29) C d_W_lay_17 (by decide) hf (fun c6 hf => ?_) (fun c6 hf => ?_)
    · refine g_iload_n C d_W_lay_29 rfl rfl ?_
      refine g_if_lt (tgt := 45) C d_W_lay_30 (by decide) hf (fun c7 hf => ?_) (fun c7 hf => ?_)
      · exact t_W_lay_B45 C N _ _ rfl hf
      · refine g_iload_n C d_W_lay_33 rfl rfl ?_
        refine g_aload_n C d_W_lay_34 rfl rfl ?_
        refine g_getR (b := 3) (k := 1) C k_W (by decide) fl_W_19 rfl rfl d_W_lay_35 ?_
        refine g_iload_n C d_W_lay_38 rfl rfl ?_
        refine g_cvI C k_Sf rfl mv_Sf_sizeOf ml_W_86 d_W_lay_39 hf (fun r μ1 h => t_Sf_sizeOf C.2.2.2.2.2.2.2.2.1 h) rfl rfl (by decide) (Nat.le_of_ble_eq_true rfl) (fun r9 μ8 hf => ?_)
        refine g_icmp_lt (tgt := 54) C d_W_lay_42 (by decide) hf (fun c10 hf => ?_) (fun c10 hf => ?_)
        · refine g_aload_n C d_W_lay_54 rfl rfl ?_
          refine g_getR (b := 3) (k := 1) C k_W (by decide) fl_W_19 rfl rfl d_W_lay_55 ?_
          refine g_iload_n C d_W_lay_58 rfl rfl ?_
          refine g_iload_n C d_W_lay_59 rfl rfl ?_
          refine g_cvI C k_Sf rfl mv_Sf_byteAt ml_W_89 d_W_lay_60 hf (fun r μ1 h => t_Sf_byteAt C.2.2.2.2.2.2.2.2.1 h) rfl rfl (by decide) (Nat.le_of_ble_eq_true rfl) (fun r12 μ11 hf => ?_)
          refine g_istore C d_W_lay_63 (by decide) ?_
          refine g_aload_n C d_W_lay_65 rfl (upG rfl rfl) ?_
          refine g_getR (b := 3) (k := 1) C k_W (by decide) fl_W_19 rfl rfl d_W_lay_66 ?_
          refine g_iload_n C d_W_lay_69 rfl (upG rfl rfl) ?_
          refine g_iload_n C d_W_lay_70 rfl (upG rfl rfl) ?_
          refine g_iload_n C d_W_lay_71 rfl (upG rfl rfl) ?_
          refine g_cvV C k_Sf rfl mv_Sf_write ml_W_93 d_W_lay_72 hf (fun μ1 h => t_Sf_write C.2.2.2.2.2.2.2.2.1 h) rfl rfl (by decide) (Nat.le_of_ble_eq_true rfl) (fun μ13 hf => ?_)
          refine g_iload C d_W_lay_75 upS ?_
          refine g_sipush (v := 1000) C d_W_lay_77 (by decide) ?_
          refine g_iadd C d_W_lay_80 ?_
          exact g_iret C d_W_lay_81 hf
        · exact t_W_lay_B45 C N _ _ rfl hf
    · refine g_aload_n C d_W_lay_20 rfl rfl ?_
      refine g_getR (b := 1) (k := 0) C k_W (by decide) fl_W_10 rfl rfl d_W_lay_21 ?_
      refine g_iconst (v := 1) C d_W_lay_24 (by decide) ?_
      refine g_cvI C k_Ta rfl mv_Ta_found ml_W_75 d_W_lay_25 hf (fun r μ1 h => t_Ta_found C.2.2.2.2.2.2.2.2.1 h) rfl rfl (by decide) (Nat.le_of_ble_eq_true rfl) (fun r15 μ14 hf => ?_)
      exact g_iret C d_W_lay_28 hf
set_option maxHeartbeats 4000000 in
theorem t_W_tear {l : Launch} {ad : Nat → Nat} {dA : Nat → ClassId} {D : va_G} (hi : Inj SHX ad) {N : Nat} {a1 : Int32}  {μ μ' : Mm} {r : Int32} (hf : f_W_tear N a1 μ = some (r, μ')) : Ct CLS l SHX ad dA D y_W_tear c_W_tear 2 (some .int) 1 [.ref (ad 0), .int a1] μ (some (.int r)) μ' := by
  unfold f_W_tear at hf
  refine ct_of (by decide) hi (Nat.le_of_ble_eq_true rfl) ?_
  intro p e s m args below meth c C
  refine g_iload_n C d_W_tear_0 rfl rfl ?_
  refine g_csI C mv_W_isRow ml_W_71 d_W_tear_1 hf (fun r μ1 h => t_W_isRow C.2.2.2.2.2.2.2.2.1 h) rfl rfl (by decide) (Nat.le_of_ble_eq_true rfl) (fun r2 μ1 hf => ?_)
  refine g_if_ne (tgt := 9) C d_W_tear_4 (by decide) hf (fun c3 hf => ?_) (fun c3 hf => ?_)
  · refine g_iconst (v := -1) C d_W_tear_7 (by decide) ?_
    exact g_iret C d_W_tear_8 hf
  · refine g_aload_n C d_W_tear_9 rfl rfl ?_
    refine g_getR (b := 3) (k := 1) C k_W (by decide) fl_W_19 rfl rfl d_W_tear_10 ?_
    refine g_iload_n C d_W_tear_13 rfl rfl ?_
    refine g_cvI C k_Sf rfl mv_Sf_lacks ml_W_83 d_W_tear_14 hf (fun r μ1 h => t_Sf_lacks C.2.2.2.2.2.2.2.2.1 h) rfl rfl (by decide) (Nat.le_of_ble_eq_true rfl) (fun r5 μ4 hf => ?_)
    refine g_if_eq (tgt := 29) C d_W_tear_17 (by decide) hf (fun c6 hf => ?_) (fun c6 hf => ?_)
    · refine g_aload_n C d_W_tear_29 rfl rfl ?_
      refine g_getR (b := 3) (k := 1) C k_W (by decide) fl_W_19 rfl rfl d_W_tear_30 ?_
      refine g_iload_n C d_W_tear_33 rfl rfl ?_
      refine g_cvV C k_Sf rfl mv_Sf_remove ml_W_97 d_W_tear_34 hf (fun μ1 h => t_Sf_remove C.2.2.2.2.2.2.2.2.1 h) rfl rfl (by decide) (Nat.le_of_ble_eq_true rfl) (fun μ7 hf => ?_)
      refine g_iconst (v := 1) C d_W_tear_37 (by decide) ?_
      exact g_iret C d_W_tear_38 hf
    · refine g_aload_n C d_W_tear_20 rfl rfl ?_
      refine g_getR (b := 1) (k := 0) C k_W (by decide) fl_W_10 rfl rfl d_W_tear_21 ?_
      refine g_iconst (v := 1) C d_W_tear_24 (by decide) ?_
      refine g_cvI C k_Ta rfl mv_Ta_found ml_W_75 d_W_tear_25 hf (fun r μ1 h => t_Ta_found C.2.2.2.2.2.2.2.2.1 h) rfl rfl (by decide) (Nat.le_of_ble_eq_true rfl) (fun r9 μ8 hf => ?_)
      exact g_iret C d_W_tear_28 hf
set_option maxHeartbeats 4000000 in
theorem t_W_copy_B76 {ad : Nat → Nat} {dA : Nat → ClassId} {D : va_G} {p : Program} {l : Launch} {e : Env} {s : State} {m : MethodId} {args : Array Value} {below : List Frame} {meth : Method} {c : Code} {r : Int32} {μ' : Mm} (C : Cx CLS SHX ad dA D p s m args meth c c_W_copy 6 R_W (some .int)) (N : Nat)   : ∀  (μ : Mm) (lv : Nat → Option Value), lv 0 = some (.ref (ad 0)) → f_W_copy_B76 N μ = some (r, μ') → Go CLS SHX ad dA D p l e (rmD 2) s m args below meth c 6 (some (.int r)) μ' 76 lv [] μ := by
  intro μ lv hl0 hf
  unfold f_W_copy_B76 at hf
  refine g_aload_n C d_W_copy_76 rfl hl0 ?_
  refine g_getR (b := 1) (k := 0) C k_W (by decide) fl_W_10 rfl rfl d_W_copy_77 ?_
  refine g_iconst (v := 2) C d_W_copy_80 (by decide) ?_
  refine g_cvI C k_Ta rfl mv_Ta_found ml_W_75 d_W_copy_81 hf (fun r μ1 h => t_Ta_found C.2.2.2.2.2.2.2.2.1 h) rfl rfl (by decide) (Nat.le_of_ble_eq_true rfl) (fun r23 μ22 hf => ?_)
  exact g_iret C d_W_copy_84 hf
set_option maxHeartbeats 4000000 in
theorem t_W_copy_B38 {ad : Nat → Nat} {dA : Nat → ClassId} {D : va_G} {p : Program} {l : Launch} {e : Env} {s : State} {m : MethodId} {args : Array Value} {below : List Frame} {meth : Method} {c : Code} {r : Int32} {μ' : Mm} (C : Cx CLS SHX ad dA D p s m args meth c c_W_copy 6 R_W (some .int)) (N : Nat)   : ∀  (μ : Mm) (lv : Nat → Option Value), lv 0 = some (.ref (ad 0)) → f_W_copy_B38 N μ = some (r, μ') → Go CLS SHX ad dA D p l e (rmD 2) s m args below meth c 6 (some (.int r)) μ' 38 lv [] μ := by
  intro μ lv hl0 hf
  unfold f_W_copy_B38 at hf
  refine g_aload_n C d_W_copy_38 rfl hl0 ?_
  refine g_getR (b := 1) (k := 0) C k_W (by decide) fl_W_10 rfl rfl d_W_copy_39 ?_
  refine g_iconst (v := 1) C d_W_copy_42 (by decide) ?_
  refine g_cvI C k_Ta rfl mv_Ta_found ml_W_75 d_W_copy_43 hf (fun r μ1 h => t_Ta_found C.2.2.2.2.2.2.2.2.1 h) rfl rfl (by decide) (Nat.le_of_ble_eq_true rfl) (fun r21 μ20 hf => ?_)
  exact g_iret C d_W_copy_46 hf
set_option maxHeartbeats 4000000 in
theorem t_W_copy {l : Launch} {ad : Nat → Nat} {dA : Nat → ClassId} {D : va_G} (hi : Inj SHX ad) {N : Nat} {a1 : Int32} {a2 : Int32} {a3 : Int32} {a4 : Int32} {a5 : Int32}  {μ μ' : Mm} {r : Int32} (hf : f_W_copy N a1 a2 a3 a4 a5 μ = some (r, μ')) : Ct CLS l SHX ad dA D y_W_copy c_W_copy 6 (some .int) 2 [.ref (ad 0), .int a1, .int a2, .int a3, .int a4, .int a5] μ (some (.int r)) μ' := by
  unfold f_W_copy at hf
  refine ct_of (by decide) hi (Nat.le_of_ble_eq_true rfl) ?_
  intro p e s m args below meth c C
  refine g_iload_n C d_W_copy_0 rfl rfl ?_
  refine g_csI C mv_W_isRow ml_W_71 d_W_copy_1 hf (fun r μ1 h => t_W_isRow C.2.2.2.2.2.2.2.2.1 h) rfl rfl (by decide) (Nat.le_of_ble_eq_true rfl) (fun r2 μ1 hf => ?_)
  refine g_if_eq (tgt := 14) C d_W_copy_4 (by decide) hf (fun c3 hf => ?_) (fun c3 hf => ?_)
  · refine g_iconst (v := -1) C d_W_copy_14 (by decide) ?_
    exact g_iret C d_W_copy_15 hf
  · refine g_iload_n C d_W_copy_7 rfl rfl ?_
    refine g_csI C mv_W_isRow ml_W_71 d_W_copy_8 hf (fun r μ1 h => t_W_isRow C.2.2.2.2.2.2.2.2.1 h) rfl rfl (by decide) (Nat.le_of_ble_eq_true rfl) (fun r5 μ4 hf => ?_)
    refine g_if_ne (tgt := 16) C d_W_copy_11 (by decide) hf (fun c6 hf => ?_) (fun c6 hf => ?_)
    · refine g_iconst (v := -1) C d_W_copy_14 (by decide) ?_
      exact g_iret C d_W_copy_15 hf
    · refine g_aload_n C d_W_copy_16 rfl rfl ?_
      refine g_getR (b := 3) (k := 1) C k_W (by decide) fl_W_19 rfl rfl d_W_copy_17 ?_
      refine g_iload_n C d_W_copy_20 rfl rfl ?_
      refine g_cvI C k_Sf rfl mv_Sf_lacks ml_W_83 d_W_copy_21 hf (fun r μ1 h => t_Sf_lacks C.2.2.2.2.2.2.2.2.1 h) rfl rfl (by decide) (Nat.le_of_ble_eq_true rfl) (fun r8 μ7 hf => ?_)
      refine g_if_ne (tgt := 38) C d_W_copy_24 (by decide) hf (fun c9 hf => ?_) (fun c9 hf => ?_)
      · refine g_aload_n C d_W_copy_27 rfl rfl ?_
        refine g_getR (b := 3) (k := 1) C k_W (by decide) fl_W_19 rfl rfl d_W_copy_28 ?_
        refine g_iload_n C d_W_copy_31 rfl rfl ?_
        refine g_cvI C k_Sf rfl mv_Sf_lacks ml_W_83 d_W_copy_32 hf (fun r μ1 h => t_Sf_lacks C.2.2.2.2.2.2.2.2.1 h) rfl rfl (by decide) (Nat.le_of_ble_eq_true rfl) (fun r11 μ10 hf => ?_)
        refine g_if_eq (tgt := 47) C d_W_copy_35 (by decide) hf (fun c12 hf => ?_) (fun c12 hf => ?_)
        · refine g_aload_n C d_W_copy_47 rfl rfl ?_
          refine g_getR (b := 3) (k := 1) C k_W (by decide) fl_W_19 rfl rfl d_W_copy_48 ?_
          refine g_iload_n C d_W_copy_51 rfl rfl ?_
          refine g_iload_n C d_W_copy_52 rfl rfl ?_
          refine g_iload C d_W_copy_53 rfl ?_
          refine g_cvI C k_Sf rfl mv_Sf_holds ml_W_101 d_W_copy_55 hf (fun r μ1 h => t_Sf_holds C.2.2.2.2.2.2.2.2.1 h) rfl rfl (by decide) (Nat.le_of_ble_eq_true rfl) (fun r14 μ13 hf => ?_)
          refine g_if_eq (tgt := 76) C d_W_copy_58 (by decide) hf (fun c15 hf => ?_) (fun c15 hf => ?_)
          · exact t_W_copy_B76 C N _ _ rfl hf
          · refine g_aload_n C d_W_copy_61 rfl rfl ?_
            refine g_getR (b := 3) (k := 1) C k_W (by decide) fl_W_19 rfl rfl d_W_copy_62 ?_
            refine g_iload_n C d_W_copy_65 rfl rfl ?_
            refine g_iload C d_W_copy_66 rfl ?_
            refine g_iload C d_W_copy_68 rfl ?_
            refine g_cvI C k_Sf rfl mv_Sf_holds ml_W_101 d_W_copy_70 hf (fun r μ1 h => t_Sf_holds C.2.2.2.2.2.2.2.2.1 h) rfl rfl (by decide) (Nat.le_of_ble_eq_true rfl) (fun r17 μ16 hf => ?_)
            refine g_if_ne (tgt := 85) C d_W_copy_73 (by decide) hf (fun c18 hf => ?_) (fun c18 hf => ?_)
            · exact t_W_copy_B76 C N _ _ rfl hf
            · refine g_aload_n C d_W_copy_85 rfl rfl ?_
              refine g_getR (b := 3) (k := 1) C k_W (by decide) fl_W_19 rfl rfl d_W_copy_86 ?_
              refine g_iload_n C d_W_copy_89 rfl rfl ?_
              refine g_iload_n C d_W_copy_90 rfl rfl ?_
              refine g_iload_n C d_W_copy_91 rfl rfl ?_
              refine g_iload C d_W_copy_92 rfl ?_
              refine g_iload C d_W_copy_94 rfl ?_
              refine g_cvV C k_Sf rfl mv_Sf_move ml_W_105 d_W_copy_96 hf (fun μ1 h => t_Sf_move C.2.2.2.2.2.2.2.2.1 h) rfl rfl (by decide) (Nat.le_of_ble_eq_true rfl) (fun μ19 hf => ?_)
              refine g_iconst (v := 1) C d_W_copy_99 (by decide) ?_
              exact g_iret C d_W_copy_100 hf
        · exact t_W_copy_B38 C N _ _ rfl hf
      · exact t_W_copy_B38 C N _ _ rfl hf
