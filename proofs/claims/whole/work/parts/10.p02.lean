set_option maxHeartbeats 4000000 in
theorem t_Cr_isAnyPairSpent_B57 {ad : Nat → Nat} {dA : Nat → ClassId} {D : va_G} {p : Program} {l : Launch} {e : Env} {s : State} {m : MethodId} {args : Array Value} {below : List Frame} {meth : Method} {c : Code} {r : Int32} {μ' : Mm} (C : Cx CLS SHX ad dA D p s m args meth c c_Cr_isAnyPairSpent 4 R_Cr (some .boolean)) (N : Nat)   (k2 : Int32 → Mm → Option (Int32 × Mm)) (hk2 : ∀ (v1 : Int32) (μ : Mm) (lv : Nat → Option Value), lv 0 = some (.ref (ad 11)) → lv 1 = some (.int v1) → k2 v1 μ = some (r, μ') → Go CLS SHX ad dA D p l e (rmD 2) s m args below meth c 4 (some (.int r)) μ' 2 lv [] μ) : ∀ (v1 : Int32) (μ : Mm) (lv : Nat → Option Value), lv 0 = some (.ref (ad 11)) → lv 1 = some (.int v1) → f_Cr_isAnyPairSpent_B57 N k2 v1 μ = some (r, μ') → Go CLS SHX ad dA D p l e (rmD 2) s m args below meth c 4 (some (.int r)) μ' 57 lv [] μ := by
  intro v1 μ lv hl0 hl1 hf
  unfold f_Cr_isAnyPairSpent_B57 at hf
  refine g_iinc (v := 1) C d_Cr_isAnyPairSpent_57 hl1 (by decide) (by decide) ?_
  refine g_goto (tgt := 2) C d_Cr_isAnyPairSpent_60 (by decide) ?_
  exact hk2 _ _ _ ((upG hl0 rfl)) upS hf
set_option maxHeartbeats 4000000 in
theorem t_Cr_isAnyPairSpent_B51 {ad : Nat → Nat} {dA : Nat → ClassId} {D : va_G} {p : Program} {l : Launch} {e : Env} {s : State} {m : MethodId} {args : Array Value} {below : List Frame} {meth : Method} {c : Code} {r : Int32} {μ' : Mm} (C : Cx CLS SHX ad dA D p s m args meth c c_Cr_isAnyPairSpent 4 R_Cr (some .boolean)) (N : Nat)   (k2 : Int32 → Mm → Option (Int32 × Mm)) (hk2 : ∀ (v1 : Int32) (μ : Mm) (lv : Nat → Option Value), lv 0 = some (.ref (ad 11)) → lv 1 = some (.int v1) → k2 v1 μ = some (r, μ') → Go CLS SHX ad dA D p l e (rmD 2) s m args below meth c 4 (some (.int r)) μ' 2 lv [] μ) (k14 : Int32 → Int32 → Mm → Option (Int32 × Mm)) (hk14 : ∀ (v1 : Int32) (v2 : Int32) (μ : Mm) (lv : Nat → Option Value), lv 0 = some (.ref (ad 11)) → lv 1 = some (.int v1) → lv 2 = some (.int v2) → k14 v1 v2 μ = some (r, μ') → Go CLS SHX ad dA D p l e (rmD 2) s m args below meth c 4 (some (.int r)) μ' 14 lv [] μ) : ∀ (v1 : Int32) (v2 : Int32) (μ : Mm) (lv : Nat → Option Value), lv 0 = some (.ref (ad 11)) → lv 1 = some (.int v1) → lv 2 = some (.int v2) → f_Cr_isAnyPairSpent_B51 N k2 k14 v1 v2 μ = some (r, μ') → Go CLS SHX ad dA D p l e (rmD 2) s m args below meth c 4 (some (.int r)) μ' 51 lv [] μ := by
  intro v1 v2 μ lv hl0 hl1 hl2 hf
  unfold f_Cr_isAnyPairSpent_B51 at hf
  refine g_iinc (v := 1) C d_Cr_isAnyPairSpent_51 hl2 (by decide) (by decide) ?_
  refine g_goto (tgt := 14) C d_Cr_isAnyPairSpent_54 (by decide) ?_
  exact hk14 _ _ _ _ ((upG hl0 rfl)) ((upG hl1 rfl)) upS hf
set_option maxHeartbeats 4000000 in
theorem t_Cr_isAnyPairSpent_L14 {ad : Nat → Nat} {dA : Nat → ClassId} {D : va_G} {p : Program} {l : Launch} {e : Env} {s : State} {m : MethodId} {args : Array Value} {below : List Frame} {meth : Method} {c : Code} {r : Int32} {μ' : Mm} (C : Cx CLS SHX ad dA D p s m args meth c c_Cr_isAnyPairSpent 4 R_Cr (some .boolean)) (N : Nat)   (k2 : Int32 → Mm → Option (Int32 × Mm)) (hk2 : ∀ (v1 : Int32) (μ : Mm) (lv : Nat → Option Value), lv 0 = some (.ref (ad 11)) → lv 1 = some (.int v1) → k2 v1 μ = some (r, μ') → Go CLS SHX ad dA D p l e (rmD 2) s m args below meth c 4 (some (.int r)) μ' 2 lv [] μ) : ∀ (n : Nat) (v1 : Int32) (v2 : Int32) (μ : Mm) (lv : Nat → Option Value), lv 0 = some (.ref (ad 11)) → lv 1 = some (.int v1) → lv 2 = some (.int v2) → f_Cr_isAnyPairSpent_L14 N k2 n v1 v2 μ = some (r, μ') → Go CLS SHX ad dA D p l e (rmD 2) s m args below meth c 4 (some (.int r)) μ' 14 lv [] μ := by
  intro n
  induction n with
  | zero => intro v1 v2 μ lv hl0 hl1 hl2 hf; cases (show none = some _ from hf)
  | succ n ih =>
    intro v1 v2 μ lv hl0 hl1 hl2 hf
    unfold f_Cr_isAnyPairSpent_L14 at hf
    refine g_iload_n C d_Cr_isAnyPairSpent_14 rfl hl2 ?_
    refine g_aload_n C d_Cr_isAnyPairSpent_15 rfl hl0 ?_
    refine g_getI (k := 1) C k_Cr (by decide) fl_Cr_9 rfl rfl d_Cr_isAnyPairSpent_16 ?_
    refine g_icmp_ge (tgt := 57) C d_Cr_isAnyPairSpent_19 (by decide) hf (fun c3 hf => ?_) (fun c3 hf => ?_)
    · exact t_Cr_isAnyPairSpent_B57 C N _ hk2 _ _ _ hl0 hl1 hf
    · refine g_iconst (v := 1) C d_Cr_isAnyPairSpent_22 (by decide) ?_
      refine g_iload_n C d_Cr_isAnyPairSpent_23 rfl hl1 ?_
      refine g_ishl C d_Cr_isAnyPairSpent_24 ?_
      refine g_iconst (v := 1) C d_Cr_isAnyPairSpent_25 (by decide) ?_
      refine g_iload_n C d_Cr_isAnyPairSpent_26 rfl hl2 ?_
      refine g_ishl C d_Cr_isAnyPairSpent_27 ?_
      refine g_ior C d_Cr_isAnyPairSpent_28 ?_
      refine g_istore_n C d_Cr_isAnyPairSpent_29 rfl (by decide) ?_
      refine g_aload_n C d_Cr_isAnyPairSpent_30 rfl (upG hl0 rfl) ?_
      refine g_getI (k := 2) C k_Cr (by decide) fl_Cr_15 rfl rfl d_Cr_isAnyPairSpent_31 ?_
      refine g_iload_n C d_Cr_isAnyPairSpent_34 rfl upS ?_
      refine g_iand C d_Cr_isAnyPairSpent_35 ?_
      refine g_iload_n C d_Cr_isAnyPairSpent_36 rfl upS ?_
      refine g_icmp_ne (tgt := 51) C d_Cr_isAnyPairSpent_37 (by decide) hf (fun c5 hf => ?_) (fun c5 hf => ?_)
      · refine g_aload_n C d_Cr_isAnyPairSpent_40 rfl (upG hl0 rfl) ?_
        refine g_iload_n C d_Cr_isAnyPairSpent_41 rfl upS ?_
        refine g_cvI C k_Cr rfl mv_Cr_jointOf ml_Cr_76 d_Cr_isAnyPairSpent_42 hf (fun r μ1 h => t_Cr_jointOf C.2.2.2.2.2.2.2.2.1 h) rfl rfl (by decide) (Nat.le_of_ble_eq_true rfl) (fun r7 μ6 hf => ?_)
        refine g_iconst (v := 1) C d_Cr_isAnyPairSpent_45 (by decide) ?_
        refine g_icmp_ge (tgt := 51) C d_Cr_isAnyPairSpent_46 (by decide) hf (fun c8 hf => ?_) (fun c8 hf => ?_)
        · exact t_Cr_isAnyPairSpent_B51 C N _ hk2 _ ih _ _ _ _ ((upG hl0 rfl)) ((upG hl1 rfl)) ((upG hl2 rfl)) hf
        · refine g_iconst (v := 1) C d_Cr_isAnyPairSpent_49 (by decide) ?_
          exact g_zretc C d_Cr_isAnyPairSpent_50 rfl hf
      · exact t_Cr_isAnyPairSpent_B51 C N _ hk2 _ ih _ _ _ _ ((upG hl0 rfl)) ((upG hl1 rfl)) ((upG hl2 rfl)) hf
set_option maxHeartbeats 4000000 in
theorem t_Cr_isAnyPairSpent_L2 {ad : Nat → Nat} {dA : Nat → ClassId} {D : va_G} {p : Program} {l : Launch} {e : Env} {s : State} {m : MethodId} {args : Array Value} {below : List Frame} {meth : Method} {c : Code} {r : Int32} {μ' : Mm} (C : Cx CLS SHX ad dA D p s m args meth c c_Cr_isAnyPairSpent 4 R_Cr (some .boolean)) (N : Nat)   : ∀ (n : Nat) (v1 : Int32) (μ : Mm) (lv : Nat → Option Value), lv 0 = some (.ref (ad 11)) → lv 1 = some (.int v1) → f_Cr_isAnyPairSpent_L2 N n v1 μ = some (r, μ') → Go CLS SHX ad dA D p l e (rmD 2) s m args below meth c 4 (some (.int r)) μ' 2 lv [] μ := by
  intro n
  induction n with
  | zero => intro v1 μ lv hl0 hl1 hf; cases (show none = some _ from hf)
  | succ n ih =>
    intro v1 μ lv hl0 hl1 hf
    unfold f_Cr_isAnyPairSpent_L2 at hf
    refine g_iload_n C d_Cr_isAnyPairSpent_2 rfl hl1 ?_
    refine g_aload_n C d_Cr_isAnyPairSpent_3 rfl hl0 ?_
    refine g_getI (k := 1) C k_Cr (by decide) fl_Cr_9 rfl rfl d_Cr_isAnyPairSpent_4 ?_
    refine g_icmp_ge (tgt := 63) C d_Cr_isAnyPairSpent_7 (by decide) hf (fun c1 hf => ?_) (fun c1 hf => ?_)
    · refine g_iconst (v := 0) C d_Cr_isAnyPairSpent_63 (by decide) ?_
      exact g_zretc C d_Cr_isAnyPairSpent_64 rfl hf
    · refine g_iload_n C d_Cr_isAnyPairSpent_10 rfl hl1 ?_
      refine g_iconst (v := 1) C d_Cr_isAnyPairSpent_11 (by decide) ?_
      refine g_iadd C d_Cr_isAnyPairSpent_12 ?_
      refine g_istore_n C d_Cr_isAnyPairSpent_13 rfl (by decide) ?_
      exact t_Cr_isAnyPairSpent_L14 C N _ ih N _ _ _ _ ((upG hl0 rfl)) ((upG hl1 rfl)) upS hf
set_option maxHeartbeats 4000000 in
theorem t_Cr_isAnyPairSpent {l : Launch} {ad : Nat → Nat} {dA : Nat → ClassId} {D : va_G} (hi : Inj SHX ad) {N : Nat}   {μ μ' : Mm} {r : Int32} (hf : f_Cr_isAnyPairSpent N  μ = some (r, μ')) : Ct CLS l SHX ad dA D y_Cr_isAnyPairSpent c_Cr_isAnyPairSpent 4 (some .boolean) 2 [.ref (ad 11)] μ (some (.int r)) μ' := by
  unfold f_Cr_isAnyPairSpent at hf
  refine ct_of (by decide) hi (Nat.le_of_ble_eq_true rfl) ?_
  intro p e s m args below meth c C
  refine g_iconst (v := 0) C d_Cr_isAnyPairSpent_0 (by decide) ?_
  refine g_istore_n C d_Cr_isAnyPairSpent_1 rfl (by decide) ?_
  exact t_Cr_isAnyPairSpent_L2 C N N _ _ _ ((upG rfl rfl)) upS hf
set_option maxHeartbeats 4000000 in
theorem t_Cr_everSeen_B34 {ad : Nat → Nat} {dA : Nat → ClassId} {D : va_G} {p : Program} {l : Launch} {e : Env} {s : State} {m : MethodId} {args : Array Value} {below : List Frame} {meth : Method} {c : Code} {r : Int32} {μ' : Mm} (C : Cx CLS SHX ad dA D p s m args meth c c_Cr_everSeen 4 R_Cr (some .int)) (N : Nat)   (k4 : Int32 → Int32 → Int32 → Mm → Option (Int32 × Mm)) (hk4 : ∀ (v1 : Int32) (v2 : Int32) (v3 : Int32) (μ : Mm) (lv : Nat → Option Value), lv 0 = some (.ref (ad 11)) → lv 1 = some (.int v1) → lv 2 = some (.int v2) → lv 3 = some (.int v3) → k4 v1 v2 v3 μ = some (r, μ') → Go CLS SHX ad dA D p l e (rmD 0) s m args below meth c 4 (some (.int r)) μ' 4 lv [] μ) : ∀ (v1 : Int32) (v3 : Int32) (s0 : Int32) (s1 : Int32) (μ : Mm) (lv : Nat → Option Value), lv 0 = some (.ref (ad 11)) → lv 1 = some (.int v1) → lv 3 = some (.int v3) → f_Cr_everSeen_B34 N k4 v1 v3 s0 s1 μ = some (r, μ') → Go CLS SHX ad dA D p l e (rmD 0) s m args below meth c 4 (some (.int r)) μ' 34 lv [.int s1, .int s0] μ := by
  intro v1 v3 s0 s1 μ lv hl0 hl1 hl3 hf
  unfold f_Cr_everSeen_B34 at hf
  refine g_ior C d_Cr_everSeen_34 ?_
  refine g_istore_n C d_Cr_everSeen_35 rfl (by decide) ?_
  refine g_iinc (v := 1) C d_Cr_everSeen_36 (upG hl3 rfl) (by decide) (by decide) ?_
  refine g_goto (tgt := 4) C d_Cr_everSeen_39 (by decide) ?_
  exact hk4 _ _ _ _ _ ((upG (upG hl0 rfl) rfl)) ((upG (upG hl1 rfl) rfl)) ((upG upS rfl)) upS hf
set_option maxHeartbeats 4000000 in
theorem t_Cr_everSeen_L4 {ad : Nat → Nat} {dA : Nat → ClassId} {D : va_G} {p : Program} {l : Launch} {e : Env} {s : State} {m : MethodId} {args : Array Value} {below : List Frame} {meth : Method} {c : Code} {r : Int32} {μ' : Mm} (C : Cx CLS SHX ad dA D p s m args meth c c_Cr_everSeen 4 R_Cr (some .int)) (N : Nat)   : ∀ (n : Nat) (v1 : Int32) (v2 : Int32) (v3 : Int32) (μ : Mm) (lv : Nat → Option Value), lv 0 = some (.ref (ad 11)) → lv 1 = some (.int v1) → lv 2 = some (.int v2) → lv 3 = some (.int v3) → f_Cr_everSeen_L4 N n v1 v2 v3 μ = some (r, μ') → Go CLS SHX ad dA D p l e (rmD 0) s m args below meth c 4 (some (.int r)) μ' 4 lv [] μ := by
  intro n
  induction n with
  | zero => intro v1 v2 v3 μ lv hl0 hl1 hl2 hl3 hf; cases (show none = some _ from hf)
  | succ n ih =>
    intro v1 v2 v3 μ lv hl0 hl1 hl2 hl3 hf
    unfold f_Cr_everSeen_L4 at hf
    refine g_iload_n C d_Cr_everSeen_4 rfl hl3 ?_
    refine g_aload_n C d_Cr_everSeen_5 rfl hl0 ?_
    refine g_getI (k := 1) C k_Cr (by decide) fl_Cr_9 rfl rfl d_Cr_everSeen_6 ?_
    refine g_icmp_ge (tgt := 42) C d_Cr_everSeen_9 (by decide) hf (fun c1 hf => ?_) (fun c1 hf => ?_)
    · refine g_iload_n C d_Cr_everSeen_42 rfl hl2 ?_
      exact g_iret C d_Cr_everSeen_43 hf
    · refine g_iload_n C d_Cr_everSeen_12 rfl hl2 ?_
      refine g_iload_n C d_Cr_everSeen_13 rfl hl1 ?_
      refine g_iload_n C d_Cr_everSeen_14 rfl hl3 ?_
      refine g_ishr C d_Cr_everSeen_15 ?_
      refine g_iconst (v := 1) C d_Cr_everSeen_16 (by decide) ?_
      refine g_iand C d_Cr_everSeen_17 ?_
      refine g_if_eq (tgt := 33) C d_Cr_everSeen_18 (by decide) hf (fun c2 hf => ?_) (fun c2 hf => ?_)
      · refine g_iconst (v := 0) C d_Cr_everSeen_33 (by decide) ?_
        exact t_Cr_everSeen_B34 C N _ ih _ _ _ _ _ _ hl0 hl1 hl3 hf
      · refine g_aload_n C d_Cr_everSeen_21 rfl hl0 ?_
        refine g_getR (b := 12) (k := 3) C k_Cr (by decide) fl_Cr_20 rfl rfl d_Cr_everSeen_22 ?_
        refine g_iload_n C d_Cr_everSeen_25 rfl hl3 ?_
        refine g_aald C rfl d_Cr_everSeen_26 hf (fun hx3 hf => ?_)
        refine g_getI (k := 13) C k_Wk (by decide) fl_Cr_80 (shW _ (ix8 hx3)) rfl d_Cr_everSeen_27 ?_
        refine g_goto (tgt := 34) C d_Cr_everSeen_30 (by decide) ?_
        exact t_Cr_everSeen_B34 C N _ ih _ _ _ _ _ _ hl0 hl1 hl3 hf
set_option maxHeartbeats 4000000 in
theorem t_Cr_everSeen {l : Launch} {ad : Nat → Nat} {dA : Nat → ClassId} {D : va_G} (hi : Inj SHX ad) {N : Nat} {a1 : Int32}  {μ μ' : Mm} {r : Int32} (hf : f_Cr_everSeen N a1 μ = some (r, μ')) : Ct CLS l SHX ad dA D y_Cr_everSeen c_Cr_everSeen 4 (some .int) 0 [.ref (ad 11), .int a1] μ (some (.int r)) μ' := by
  unfold f_Cr_everSeen at hf
  refine ct_of (by decide) hi (Nat.le_of_ble_eq_true rfl) ?_
  intro p e s m args below meth c C
  refine g_iconst (v := 0) C d_Cr_everSeen_0 (by decide) ?_
  refine g_istore_n C d_Cr_everSeen_1 rfl (by decide) ?_
  refine g_iconst (v := 0) C d_Cr_everSeen_2 (by decide) ?_
  refine g_istore_n C d_Cr_everSeen_3 rfl (by decide) ?_
  exact t_Cr_everSeen_L4 C N N _ _ _ _ _ ((upG (upG rfl rfl) rfl)) ((upG (upG rfl rfl) rfl)) ((upG upS rfl)) upS hf
set_option maxHeartbeats 4000000 in
theorem t_Wk_legAt_L2 {ad : Nat → Nat} {dA : Nat → ClassId} {D : va_G} {p : Program} {l : Launch} {e : Env} {s : State} {m : MethodId} {args : Array Value} {below : List Frame} {meth : Method} {c : Code} {r : Int32} {μ' : Mm} (C : Cx CLS SHX ad dA D p s m args meth c c_Wk_legAt 3 R_Wk (some .int)) (N : Nat) {j : Nat} (hj : j < 8) : ∀ (n : Nat) (v1 : Int32) (v2 : Int32) (μ : Mm) (lv : Nat → Option Value), lv 0 = some (.ref (ad (WK j))) → lv 1 = some (.int v1) → lv 2 = some (.int v2) → f_Wk_legAt_L2 N j n v1 v2 μ = some (r, μ') → Go CLS SHX ad dA D p l e (rmD 0) s m args below meth c 3 (some (.int r)) μ' 2 lv [] μ := by
  intro n
  induction n with
  | zero => intro v1 v2 μ lv hl0 hl1 hl2 hf; cases (show none = some _ from hf)
  | succ n ih =>
    intro v1 v2 μ lv hl0 hl1 hl2 hf
    unfold f_Wk_legAt_L2 at hf
    refine g_iload_n C d_Wk_legAt_2 rfl hl2 ?_
    refine g_iconst (v := 1) C d_Wk_legAt_3 (by decide) ?_
    refine g_iadd C d_Wk_legAt_4 ?_
    refine g_aload_n C d_Wk_legAt_5 rfl hl0 ?_
    refine g_getI (k := 8) C k_Wk (by decide) fl_Wk_37 (shW _ hj) rfl d_Wk_legAt_6 ?_
    refine g_icmp_ge (tgt := 30) C d_Wk_legAt_9 (by decide) hf (fun c1 hf => ?_) (fun c1 hf => ?_)
    · refine g_iload_n C d_Wk_legAt_30 rfl hl2 ?_
      exact g_iret C d_Wk_legAt_31 hf
    · refine g_aload_n C d_Wk_legAt_12 rfl hl0 ?_
      refine g_getR (b := WK _ + 3) (k := 14) C k_Wk (by decide) fl_Wk_56 (shW _ hj) rfl d_Wk_legAt_13 ?_
      refine g_iload_n C d_Wk_legAt_16 rfl hl2 ?_
      refine g_iconst (v := 1) C d_Wk_legAt_17 (by decide) ?_
      refine g_iadd C d_Wk_legAt_18 ?_
      refine g_iald C (shW3 _ hj) d_Wk_legAt_19 hf (fun hf => ?_)
      refine g_iload_n C d_Wk_legAt_20 rfl hl1 ?_
      refine g_icmp_gt (tgt := 30) C d_Wk_legAt_21 (by decide) hf (fun c3 hf => ?_) (fun c3 hf => ?_)
      · refine g_iload_n C d_Wk_legAt_30 rfl hl2 ?_
        exact g_iret C d_Wk_legAt_31 hf
      · refine g_iinc (v := 1) C d_Wk_legAt_24 hl2 (by decide) (by decide) ?_
        refine g_goto (tgt := 2) C d_Wk_legAt_27 (by decide) ?_
        exact ih _ _ _ _ ((upG hl0 rfl)) ((upG hl1 rfl)) upS hf
set_option maxHeartbeats 4000000 in
theorem t_Wk_legAt {l : Launch} {ad : Nat → Nat} {dA : Nat → ClassId} {D : va_G} (hi : Inj SHX ad) {N : Nat} {j : Nat} {a1 : Int32} (hj : j < 8) {μ μ' : Mm} {r : Int32} (hf : f_Wk_legAt N j a1 μ = some (r, μ')) : Ct CLS l SHX ad dA D y_Wk_legAt c_Wk_legAt 3 (some .int) 0 [.ref (ad (WK j)), .int a1] μ (some (.int r)) μ' := by
  unfold f_Wk_legAt at hf
  refine ct_of (by decide) hi (Nat.le_of_ble_eq_true rfl) ?_
  intro p e s m args below meth c C
  refine g_iconst (v := 0) C d_Wk_legAt_0 (by decide) ?_
  refine g_istore_n C d_Wk_legAt_1 rfl (by decide) ?_
  exact t_Wk_legAt_L2 C N hj N _ _ _ _ ((upG rfl rfl)) ((upG rfl rfl)) upS hf
set_option maxHeartbeats 4000000 in
theorem t_Jm_floorMod_7cf53 {CL : List vw_C} {SH : List Shp} {l : Launch} {ad : Nat → Nat} {dA : Nat → ClassId} {D : va_G} (hi : Inj SH ad) {N : Nat} {a1 : Int32} {a2 : Int32}  {μ μ' : Mm} {r : Int32} (hf : f_Jm_floorMod_7cf53 N a1 a2 μ = some (r, μ')) : Ct CL l SH ad dA D y_Jm_floorMod_7cf53 c_Jm_floorMod_7cf53 3 (some .int) 0 [.int a1, .int a2] μ (some (.int r)) μ' := by
  unfold f_Jm_floorMod_7cf53 at hf
  refine ct_ofF (by decide +kernel) hi (Nat.le_of_ble_eq_true rfl) ?_
  intro p e s m args below meth c C
  refine g_iload_n C d_Jm_floorMod_7cf53_0 rfl rfl ?_
  refine g_iload_n C d_Jm_floorMod_7cf53_1 rfl rfl ?_
  refine g_irem C d_Jm_floorMod_7cf53_2 hf (fun hf => ?_)
  refine g_istore_n C d_Jm_floorMod_7cf53_3 rfl (by decide) ?_
  refine g_iload_n C d_Jm_floorMod_7cf53_4 rfl (upG rfl rfl) ?_
  refine g_iload_n C d_Jm_floorMod_7cf53_5 rfl (upG rfl rfl) ?_
  refine g_ixor C d_Jm_floorMod_7cf53_6 ?_
  refine g_if_ge (tgt := 18) C d_Jm_floorMod_7cf53_7 (by decide) hf (fun c2 hf => ?_) (fun c2 hf => ?_)
  · refine g_iload_n C d_Jm_floorMod_7cf53_18 rfl upS ?_
    exact g_iret C d_Jm_floorMod_7cf53_19 hf
  · refine g_iload_n C d_Jm_floorMod_7cf53_10 rfl upS ?_
    refine g_if_eq (tgt := 18) C d_Jm_floorMod_7cf53_11 (by decide) hf (fun c3 hf => ?_) (fun c3 hf => ?_)
    · refine g_iload_n C d_Jm_floorMod_7cf53_18 rfl upS ?_
      exact g_iret C d_Jm_floorMod_7cf53_19 hf
    · refine g_iload_n C d_Jm_floorMod_7cf53_14 rfl upS ?_
      refine g_iload_n C d_Jm_floorMod_7cf53_15 rfl (upG rfl rfl) ?_
      refine g_iadd C d_Jm_floorMod_7cf53_16 ?_
      exact g_iret C d_Jm_floorMod_7cf53_17 hf
set_option maxHeartbeats 4000000 in
theorem t_Wk_phaseAt {l : Launch} {ad : Nat → Nat} {dA : Nat → ClassId} {D : va_G} (hi : Inj SHX ad) {N : Nat} {j : Nat} {a1 : Int32} (hj : j < 8) {μ μ' : Mm} {r : Int32} (hf : f_Wk_phaseAt N j a1 μ = some (r, μ')) : Ct CLS l SHX ad dA D y_Wk_phaseAt c_Wk_phaseAt 2 (some .int) 1 [.ref (ad (WK j)), .int a1] μ (some (.int r)) μ' := by
  unfold f_Wk_phaseAt at hf
  refine ct_of (by decide) hi (Nat.le_of_ble_eq_true rfl) ?_
  intro p e s m args below meth c C
  refine g_iload_n C d_Wk_phaseAt_0 rfl rfl ?_
  refine g_aload_n C d_Wk_phaseAt_1 rfl rfl ?_
  refine g_getI (k := 7) C k_Wk (by decide) fl_Wk_34 (shW _ hj) rfl d_Wk_phaseAt_2 ?_
  refine g_isub C d_Wk_phaseAt_5 ?_
  refine g_aload_n C d_Wk_phaseAt_6 rfl rfl ?_
  refine g_getI (k := 12) C k_Wk (by decide) fl_Wk_50 (shW _ hj) rfl d_Wk_phaseAt_7 ?_
  refine g_csI C mv_Jm_floorMod_7cf53 ml_Wk_108 d_Wk_phaseAt_10 hf (fun r μ1 h => t_Jm_floorMod_7cf53 C.2.2.2.2.2.2.2.2.1 h) rfl rfl (by decide) (Nat.le_of_ble_eq_true rfl) (fun r2 μ1 hf => ?_)
  exact g_iret C d_Wk_phaseAt_13 hf
set_option maxHeartbeats 4000000 in
theorem t_Wk_seenAt {l : Launch} {ad : Nat → Nat} {dA : Nat → ClassId} {D : va_G} (hi : Inj SHX ad) {N : Nat} {j : Nat} {a1 : Int32} (hj : j < 8) {μ μ' : Mm} {r : Int32} (hf : f_Wk_seenAt N j a1 μ = some (r, μ')) : Ct CLS l SHX ad dA D y_Wk_seenAt c_Wk_seenAt 4 (some .int) 2 [.ref (ad (WK j)), .int a1] μ (some (.int r)) μ' := by
  unfold f_Wk_seenAt at hf
  refine ct_of (by decide) hi (Nat.le_of_ble_eq_true rfl) ?_
  intro p e s m args below meth c C
  refine g_aload_n C d_Wk_seenAt_0 rfl rfl ?_
  refine g_getI (k := 0) C k_Wk (by decide) fl_Wk_9 (shW _ hj) rfl d_Wk_seenAt_1 ?_
  refine g_iconst (v := 3) C d_Wk_seenAt_4 (by decide) ?_
  refine g_icmp_ne (tgt := 13) C d_Wk_seenAt_5 (by decide) hf (fun c1 hf => ?_) (fun c1 hf => ?_)
  · refine g_aload_n C d_Wk_seenAt_8 rfl rfl ?_
    refine g_getI (k := 13) C k_Wk (by decide) fl_Wk_53 (shW _ hj) rfl d_Wk_seenAt_9 ?_
    exact g_iret C d_Wk_seenAt_12 hf
  · refine g_aload_n C d_Wk_seenAt_13 rfl rfl ?_
    refine g_iload_n C d_Wk_seenAt_14 rfl rfl ?_
    refine g_cvI C k_Wk (shW _ hj) mv_Wk_phaseAt ml_Wk_111 d_Wk_seenAt_15 hf (fun r μ1 h => t_Wk_phaseAt C.2.2.2.2.2.2.2.2.1 hj h) rfl rfl (by decide) (Nat.le_of_ble_eq_true rfl) (fun r3 μ2 hf => ?_)
    refine g_istore_n C d_Wk_seenAt_18 rfl (by decide) ?_
    refine g_aload_n C d_Wk_seenAt_19 rfl (upG rfl rfl) ?_
    refine g_iload_n C d_Wk_seenAt_20 rfl upS ?_
    refine g_cvI C k_Wk (shW _ hj) mv_Wk_legAt ml_Wk_114 d_Wk_seenAt_21 hf (fun r μ1 h => t_Wk_legAt C.2.2.2.2.2.2.2.2.1 hj h) rfl rfl (by decide) (Nat.le_of_ble_eq_true rfl) (fun r5 μ4 hf => ?_)
    refine g_istore_n C d_Wk_seenAt_24 rfl (by decide) ?_
    refine g_iload_n C d_Wk_seenAt_25 rfl (upG upS rfl) ?_
    refine g_aload_n C d_Wk_seenAt_26 rfl (upG (upG rfl rfl) rfl) ?_
    refine g_getR (b := WK _ + 4) (k := 15) C k_Wk (by decide) fl_Wk_59 (shW _ hj) rfl d_Wk_seenAt_27 ?_
    refine g_iload_n C d_Wk_seenAt_30 rfl upS ?_
    refine g_iald C (shW4 _ hj) d_Wk_seenAt_31 hf (fun hf => ?_)
    refine g_icmp_gt (tgt := 44) C d_Wk_seenAt_32 (by decide) hf (fun c6 hf => ?_) (fun c6 hf => ?_)
    · refine g_iconst (v := 0) C d_Wk_seenAt_44 (by decide) ?_
      exact g_iret C d_Wk_seenAt_45 hf
    · refine g_aload_n C d_Wk_seenAt_35 rfl (upG (upG rfl rfl) rfl) ?_
      refine g_getR (b := WK _ + 5) (k := 16) C k_Wk (by decide) fl_Wk_62 (shW _ hj) rfl d_Wk_seenAt_36 ?_
      refine g_iload_n C d_Wk_seenAt_39 rfl upS ?_
      refine g_iald C (shW5 _ hj) d_Wk_seenAt_40 hf (fun hf => ?_)
      refine g_goto (tgt := 45) C d_Wk_seenAt_41 (by decide) ?_
      exact g_iret C d_Wk_seenAt_45 hf
set_option maxHeartbeats 4000000 in
theorem t_Cr_seenAt_B35 {ad : Nat → Nat} {dA : Nat → ClassId} {D : va_G} {p : Program} {l : Launch} {e : Env} {s : State} {m : MethodId} {args : Array Value} {below : List Frame} {meth : Method} {c : Code} {r : Int32} {μ' : Mm} (C : Cx CLS SHX ad dA D p s m args meth c c_Cr_seenAt 4 R_Cr (some .int)) (N : Nat)   (k4 : Int32 → Int32 → Int32 → Mm → Option (Int32 × Mm)) (hk4 : ∀ (v1 : Int32) (v2 : Int32) (v3 : Int32) (μ : Mm) (lv : Nat → Option Value), lv 0 = some (.ref (ad 11)) → lv 1 = some (.int v1) → lv 2 = some (.int v2) → lv 3 = some (.int v3) → k4 v1 v2 v3 μ = some (r, μ') → Go CLS SHX ad dA D p l e (rmD 3) s m args below meth c 4 (some (.int r)) μ' 4 lv [] μ) : ∀ (v1 : Int32) (v3 : Int32) (s0 : Int32) (s1 : Int32) (μ : Mm) (lv : Nat → Option Value), lv 0 = some (.ref (ad 11)) → lv 1 = some (.int v1) → lv 3 = some (.int v3) → f_Cr_seenAt_B35 N k4 v1 v3 s0 s1 μ = some (r, μ') → Go CLS SHX ad dA D p l e (rmD 3) s m args below meth c 4 (some (.int r)) μ' 35 lv [.int s1, .int s0] μ := by
  intro v1 v3 s0 s1 μ lv hl0 hl1 hl3 hf
  unfold f_Cr_seenAt_B35 at hf
  refine g_ior C d_Cr_seenAt_35 ?_
  refine g_istore_n C d_Cr_seenAt_36 rfl (by decide) ?_
  refine g_iinc (v := 1) C d_Cr_seenAt_37 (upG hl3 rfl) (by decide) (by decide) ?_
  refine g_goto (tgt := 4) C d_Cr_seenAt_40 (by decide) ?_
  exact hk4 _ _ _ _ _ ((upG (upG hl0 rfl) rfl)) ((upG (upG hl1 rfl) rfl)) ((upG upS rfl)) upS hf
set_option maxHeartbeats 4000000 in
theorem t_Cr_seenAt_L4 {ad : Nat → Nat} {dA : Nat → ClassId} {D : va_G} {p : Program} {l : Launch} {e : Env} {s : State} {m : MethodId} {args : Array Value} {below : List Frame} {meth : Method} {c : Code} {r : Int32} {μ' : Mm} (C : Cx CLS SHX ad dA D p s m args meth c c_Cr_seenAt 4 R_Cr (some .int)) (N : Nat)   : ∀ (n : Nat) (v1 : Int32) (v2 : Int32) (v3 : Int32) (μ : Mm) (lv : Nat → Option Value), lv 0 = some (.ref (ad 11)) → lv 1 = some (.int v1) → lv 2 = some (.int v2) → lv 3 = some (.int v3) → f_Cr_seenAt_L4 N n v1 v2 v3 μ = some (r, μ') → Go CLS SHX ad dA D p l e (rmD 3) s m args below meth c 4 (some (.int r)) μ' 4 lv [] μ := by
  intro n
  induction n with
  | zero => intro v1 v2 v3 μ lv hl0 hl1 hl2 hl3 hf; cases (show none = some _ from hf)
  | succ n ih =>
    intro v1 v2 v3 μ lv hl0 hl1 hl2 hl3 hf
    unfold f_Cr_seenAt_L4 at hf
    refine g_iload_n C d_Cr_seenAt_4 rfl hl3 ?_
    refine g_aload_n C d_Cr_seenAt_5 rfl hl0 ?_
    refine g_getI (k := 1) C k_Cr (by decide) fl_Cr_9 rfl rfl d_Cr_seenAt_6 ?_
    refine g_icmp_ge (tgt := 43) C d_Cr_seenAt_9 (by decide) hf (fun c1 hf => ?_) (fun c1 hf => ?_)
    · refine g_iload_n C d_Cr_seenAt_43 rfl hl2 ?_
      exact g_iret C d_Cr_seenAt_44 hf
    · refine g_iload_n C d_Cr_seenAt_12 rfl hl2 ?_
      refine g_aload_n C d_Cr_seenAt_13 rfl hl0 ?_
      refine g_iload_n C d_Cr_seenAt_14 rfl hl3 ?_
      refine g_cvI C k_Cr rfl mv_Cr_goes ml_Cr_83 d_Cr_seenAt_15 hf (fun r μ1 h => t_Cr_goes C.2.2.2.2.2.2.2.2.1 h) rfl rfl (by decide) (Nat.le_of_ble_eq_true rfl) (fun r3 μ2 hf => ?_)
      refine g_if_eq (tgt := 34) C d_Cr_seenAt_18 (by decide) hf (fun c4 hf => ?_) (fun c4 hf => ?_)
      · refine g_iconst (v := 0) C d_Cr_seenAt_34 (by decide) ?_
        exact t_Cr_seenAt_B35 C N _ ih _ _ _ _ _ _ hl0 hl1 hl3 hf
      · refine g_aload_n C d_Cr_seenAt_21 rfl hl0 ?_
        refine g_getR (b := 12) (k := 3) C k_Cr (by decide) fl_Cr_20 rfl rfl d_Cr_seenAt_22 ?_
        refine g_iload_n C d_Cr_seenAt_25 rfl hl3 ?_
        refine g_aald C rfl d_Cr_seenAt_26 hf (fun hx5 hf => ?_)
        refine g_iload_n C d_Cr_seenAt_27 rfl hl1 ?_
        refine g_cvI C k_Wk (shW _ (ix8 hx5)) mv_Wk_seenAt ml_Cr_87 d_Cr_seenAt_28 hf (fun r μ1 h => t_Wk_seenAt C.2.2.2.2.2.2.2.2.1 (ix8 hx5) h) rfl rfl (by decide) (Nat.le_of_ble_eq_true rfl) (fun r8 μ7 hf => ?_)
        refine g_goto (tgt := 35) C d_Cr_seenAt_31 (by decide) ?_
        exact t_Cr_seenAt_B35 C N _ ih _ _ _ _ _ _ hl0 hl1 hl3 hf
set_option maxHeartbeats 4000000 in
theorem t_Cr_seenAt {l : Launch} {ad : Nat → Nat} {dA : Nat → ClassId} {D : va_G} (hi : Inj SHX ad) {N : Nat} {a1 : Int32}  {μ μ' : Mm} {r : Int32} (hf : f_Cr_seenAt N a1 μ = some (r, μ')) : Ct CLS l SHX ad dA D y_Cr_seenAt c_Cr_seenAt 4 (some .int) 3 [.ref (ad 11), .int a1] μ (some (.int r)) μ' := by
  unfold f_Cr_seenAt at hf
  refine ct_of (by decide) hi (Nat.le_of_ble_eq_true rfl) ?_
  intro p e s m args below meth c C
  refine g_iconst (v := 0) C d_Cr_seenAt_0 (by decide) ?_
  refine g_istore_n C d_Cr_seenAt_1 rfl (by decide) ?_
  refine g_iconst (v := 0) C d_Cr_seenAt_2 (by decide) ?_
  refine g_istore_n C d_Cr_seenAt_3 rfl (by decide) ?_
  exact t_Cr_seenAt_L4 C N N _ _ _ _ _ ((upG (upG rfl rfl) rfl)) ((upG (upG rfl rfl) rfl)) ((upG upS rfl)) upS hf
set_option maxHeartbeats 4000000 in
theorem t_Cr_tell {l : Launch} {ad : Nat → Nat} {dA : Nat → ClassId} {D : va_G} (hi : Inj SHX ad) {N : Nat} {a1 : Int32} {a2 : Int32}  {μ μ' : Mm} {r : Int32} (hf : f_Cr_tell N a1 a2 μ = some (r, μ')) : Ct CLS l SHX ad dA D y_Cr_tell c_Cr_tell 4 (some .int) 1 [.ref (ad 11), .int a1, .int a2] μ (some (.int r)) μ' := by
  unfold f_Cr_tell at hf
  refine ct_of (by decide) hi (Nat.le_of_ble_eq_true rfl) ?_
  intro p e s m args below meth c C
  refine g_aload_n C d_Cr_tell_0 rfl rfl ?_
  refine g_getR (b := 12) (k := 3) C k_Cr (by decide) fl_Cr_20 rfl rfl d_Cr_tell_1 ?_
  refine g_iload_n C d_Cr_tell_4 rfl rfl ?_
  refine g_aald C rfl d_Cr_tell_5 hf (fun hx1 hf => ?_)
  refine g_astore_n C d_Cr_tell_6 rfl (by decide) ?_
  refine g_iload_n C d_Cr_tell_7 rfl (upG rfl rfl) ?_
  refine g_cas hf (fun e0 hf => ?_) (fun e0 hf => ?_)
  · refine g_tabIn (tgt := 48) C d_Cr_tell_8 (by rw [e0]; decide) (by rw [e0]; decide) (by rw [e0]; rfl) (by decide) ?_
    refine g_aload_n C d_Cr_tell_48 rfl upS ?_
    refine g_getI (k := 0) C k_Wk (by decide) fl_Cr_43 (shW _ (ix8 hx1)) rfl d_Cr_tell_49 ?_
    exact g_iret C d_Cr_tell_52 hf
  · skip
    refine g_cas hf (fun e1 hf => ?_) (fun e1 hf => ?_)
    · refine g_tabIn (tgt := 53) C d_Cr_tell_8 (by rw [e1]; decide) (by rw [e1]; decide) (by rw [e1]; rfl) (by decide) ?_
      refine g_aload_n C d_Cr_tell_53 rfl upS ?_
      refine g_cvI C k_Wk (shW _ (ix8 hx1)) mv_Wk_unitParts ml_Cr_90 d_Cr_tell_54 hf (fun r μ1 h => t_Wk_unitParts C.2.2.2.2.2.2.2.2.1 (ix8 hx1) h) rfl rfl (by decide) (Nat.le_of_ble_eq_true rfl) (fun r4 μ3 hf => ?_)
      exact g_iret C d_Cr_tell_57 hf
    · skip
      refine g_cas hf (fun e2 hf => ?_) (fun e2 hf => ?_)
      · refine g_tabIn (tgt := 58) C d_Cr_tell_8 (by rw [e2]; decide) (by rw [e2]; decide) (by rw [e2]; rfl) (by decide) ?_
        refine g_aload_n C d_Cr_tell_58 rfl upS ?_
        refine g_getI (k := 4) C k_Wk (by decide) fl_Cr_94 (shW _ (ix8 hx1)) rfl d_Cr_tell_59 ?_
        exact g_iret C d_Cr_tell_62 hf
      · skip
        refine g_cas hf (fun e3 hf => ?_) (fun e3 hf => ?_)
        · refine g_tabIn (tgt := 63) C d_Cr_tell_8 (by rw [e3]; decide) (by rw [e3]; decide) (by rw [e3]; rfl) (by decide) ?_
          refine g_aload_n C d_Cr_tell_63 rfl upS ?_
          refine g_getI (k := 5) C k_Wk (by decide) fl_Cr_97 (shW _ (ix8 hx1)) rfl d_Cr_tell_64 ?_
          refine g_if_eq (tgt := 74) C d_Cr_tell_67 (by decide) hf (fun c5 hf => ?_) (fun c5 hf => ?_)
          · refine g_iconst (v := 0) C d_Cr_tell_74 (by decide) ?_
            exact g_iret C d_Cr_tell_75 hf
          · refine g_iconst (v := 1) C d_Cr_tell_70 (by decide) ?_
            refine g_goto (tgt := 75) C d_Cr_tell_71 (by decide) ?_
            exact g_iret C d_Cr_tell_75 hf
        · skip
          refine g_cas hf (fun e4 hf => ?_) (fun e4 hf => ?_)
          · refine g_tabIn (tgt := 76) C d_Cr_tell_8 (by rw [e4]; decide) (by rw [e4]; decide) (by rw [e4]; rfl) (by decide) ?_
            refine g_aload_n C d_Cr_tell_76 rfl upS ?_
            refine g_getI (k := 8) C k_Wk (by decide) fl_Cr_100 (shW _ (ix8 hx1)) rfl d_Cr_tell_77 ?_
            exact g_iret C d_Cr_tell_80 hf
          · skip
            refine g_cas hf (fun e5 hf => ?_) (fun e5 hf => ?_)
            · refine g_tabIn (tgt := 81) C d_Cr_tell_8 (by rw [e5]; decide) (by rw [e5]; decide) (by rw [e5]; rfl) (by decide) ?_
              refine g_aload_n C d_Cr_tell_81 rfl (upG rfl rfl) ?_
              refine g_iload_n C d_Cr_tell_82 rfl (upG rfl rfl) ?_
              refine g_cvI C k_Cr rfl mv_Cr_goes ml_Cr_83 d_Cr_tell_83 hf (fun r μ1 h => t_Cr_goes C.2.2.2.2.2.2.2.2.1 h) rfl rfl (by decide) (Nat.le_of_ble_eq_true rfl) (fun r7 μ6 hf => ?_)
              refine g_if_eq (tgt := 93) C d_Cr_tell_86 (by decide) hf (fun c8 hf => ?_) (fun c8 hf => ?_)
              · refine g_iconst (v := 0) C d_Cr_tell_93 (by decide) ?_
                exact g_iret C d_Cr_tell_94 hf
              · refine g_iconst (v := 1) C d_Cr_tell_89 (by decide) ?_
                refine g_goto (tgt := 94) C d_Cr_tell_90 (by decide) ?_
                exact g_iret C d_Cr_tell_94 hf
            · skip
              have e0 := tni (k := 0) (0 : Int32) rfl e0
              have e1 := tni (k := 1) (1 : Int32) rfl e1
              have e2 := tni (k := 2) (2 : Int32) rfl e2
              have e3 := tni (k := 3) (3 : Int32) rfl e3
              have e4 := tni (k := 4) (4 : Int32) rfl e4
              have e5 := tni (k := 5) (5 : Int32) rfl e5
              refine g_tabOut (tgt := 95) C d_Cr_tell_8 (by omega) (by decide) ?_
              refine g_aload_n C d_Cr_tell_95 rfl (upG rfl rfl) ?_
              refine g_iload_n C d_Cr_tell_96 rfl (upG rfl rfl) ?_
              refine g_cvI C k_Cr rfl mv_Cr_goes ml_Cr_83 d_Cr_tell_97 hf (fun r μ1 h => t_Cr_goes C.2.2.2.2.2.2.2.2.1 h) rfl rfl (by decide) (Nat.le_of_ble_eq_true rfl) (fun r10 μ9 hf => ?_)
              refine g_if_eq (tgt := 110) C d_Cr_tell_100 (by decide) hf (fun c11 hf => ?_) (fun c11 hf => ?_)
              · refine g_bipush (v := -9) C d_Cr_tell_110 (by decide) ?_
                exact g_iret C d_Cr_tell_112 hf
              · refine g_aload_n C d_Cr_tell_103 rfl upS ?_
                refine g_getI (k := 12) C k_Wk (by decide) fl_Cr_69 (shW _ (ix8 hx1)) rfl d_Cr_tell_104 ?_
                refine g_goto (tgt := 112) C d_Cr_tell_107 (by decide) ?_
                exact g_iret C d_Cr_tell_112 hf
set_option maxHeartbeats 4000000 in
theorem t_Wk_markOf {l : Launch} {ad : Nat → Nat} {dA : Nat → ClassId} {D : va_G} (hi : Inj SHX ad) {N : Nat} {j : Nat} {a1 : Int32} (hj : j < 8) {μ μ' : Mm} {r : Int32} (hf : f_Wk_markOf N j a1 μ = some (r, μ')) : Ct CLS l SHX ad dA D y_Wk_markOf c_Wk_markOf 2 (some .int) 0 [.ref (ad (WK j)), .int a1] μ (some (.int r)) μ' := by
  unfold f_Wk_markOf at hf
  refine ct_of (by decide) hi (Nat.le_of_ble_eq_true rfl) ?_
  intro p e s m args below meth c C
  refine g_iload_n C d_Wk_markOf_0 rfl rfl ?_
  refine g_cas hf (fun e1 hf => ?_) (fun e1 hf => ?_)
  · refine g_tabIn (tgt := 28) C d_Wk_markOf_1 (by rw [e1]; decide) (by rw [e1]; decide) (by rw [e1]; rfl) (by decide) ?_
    refine g_aload_n C d_Wk_markOf_28 rfl rfl ?_
    refine g_getI (k := 1) C k_Wk (by decide) fl_Wk_15 (shW _ hj) rfl d_Wk_markOf_29 ?_
    exact g_iret C d_Wk_markOf_32 hf
  · skip
    refine g_cas hf (fun e2 hf => ?_) (fun e2 hf => ?_)
    · refine g_tabIn (tgt := 33) C d_Wk_markOf_1 (by rw [e2]; decide) (by rw [e2]; decide) (by rw [e2]; rfl) (by decide) ?_
      refine g_aload_n C d_Wk_markOf_33 rfl rfl ?_
      refine g_getI (k := 2) C k_Wk (by decide) fl_Wk_18 (shW _ hj) rfl d_Wk_markOf_34 ?_
      exact g_iret C d_Wk_markOf_37 hf
    · skip
      refine g_cas hf (fun e3 hf => ?_) (fun e3 hf => ?_)
      · refine g_tabIn (tgt := 38) C d_Wk_markOf_1 (by rw [e3]; decide) (by rw [e3]; decide) (by rw [e3]; rfl) (by decide) ?_
        refine g_aload_n C d_Wk_markOf_38 rfl rfl ?_
        refine g_getI (k := 3) C k_Wk (by decide) fl_Wk_21 (shW _ hj) rfl d_Wk_markOf_39 ?_
        exact g_iret C d_Wk_markOf_42 hf
      · skip
        have e1 := tni (k := 1) (1 : Int32) rfl e1
        have e2 := tni (k := 2) (2 : Int32) rfl e2
        have e3 := tni (k := 3) (3 : Int32) rfl e3
        refine g_tabOut (tgt := 43) C d_Wk_markOf_1 (by omega) (by decide) ?_
        refine g_aload_n C d_Wk_markOf_43 rfl rfl ?_
        refine g_getI (k := 8) C k_Wk (by decide) fl_Wk_37 (shW _ hj) rfl d_Wk_markOf_44 ?_
        refine g_if_le (tgt := 57) C d_Wk_markOf_47 (by decide) hf (fun c1 hf => ?_) (fun c1 hf => ?_)
        · refine g_bipush (v := -9) C d_Wk_markOf_57 (by decide) ?_
          exact g_iret C d_Wk_markOf_59 hf
        · refine g_aload_n C d_Wk_markOf_50 rfl rfl ?_
          refine g_getI (k := 7) C k_Wk (by decide) fl_Wk_34 (shW _ hj) rfl d_Wk_markOf_51 ?_
          refine g_goto (tgt := 59) C d_Wk_markOf_54 (by decide) ?_
          exact g_iret C d_Wk_markOf_59 hf
set_option maxHeartbeats 4000000 in
theorem t_Wk_mixPlanInto_L49 {ad : Nat → Nat} {dA : Nat → ClassId} {D : va_G} {p : Program} {l : Launch} {e : Env} {s : State} {m : MethodId} {args : Array Value} {below : List Frame} {meth : Method} {c : Code} {r : Int64} {μ' : Mm} (C : Cx CLS SHX ad dA D p s m args meth c c_Wk_mixPlanInto 6 R_Wk (some .long)) (N : Nat) {j : Nat} (hj : j < 8) : ∀ (n : Nat) (v3 : Int64) (v5 : Int32) (μ : Mm) (lv : Nat → Option Value), lv 0 = some (.ref (ad (WK j))) → lv 3 = some (.long v3) → lv 5 = some (.int v5) → f_Wk_mixPlanInto_L49 N j n v3 v5 μ = some (r, μ') → Go CLS SHX ad dA D p l e (rmD 1) s m args below meth c 6 (some (.long r)) μ' 49 lv [] μ := by
  intro n
  induction n with
  | zero => intro v3 v5 μ lv hl0 hl3 hl5 hf; cases (show none = some _ from hf)
  | succ n ih =>
    intro v3 v5 μ lv hl0 hl3 hl5 hf
    unfold f_Wk_mixPlanInto_L49 at hf
    refine g_iload C d_Wk_mixPlanInto_49 hl5 ?_
    refine g_aload_n C d_Wk_mixPlanInto_51 rfl hl0 ?_
    refine g_getI (k := 8) C k_Wk (by decide) fl_Wk_37 (shW _ hj) rfl d_Wk_mixPlanInto_52 ?_
    refine g_icmp_ge (tgt := 79) C d_Wk_mixPlanInto_55 (by decide) hf (fun c7 hf => ?_) (fun c7 hf => ?_)
    · refine g_lload_n C d_Wk_mixPlanInto_79 rfl hl3 ?_
      exact g_lret C d_Wk_mixPlanInto_80 hf
    · refine g_ldc2 C cl_Wk_117 d_Wk_mixPlanInto_58 ?_
      refine g_lload_n C d_Wk_mixPlanInto_61 rfl hl3 ?_
      refine g_lmul C d_Wk_mixPlanInto_62 ?_
      refine g_aload_n C d_Wk_mixPlanInto_63 rfl hl0 ?_
      refine g_getR (b := WK _ + 2) (k := 10) C k_Wk (by decide) fl_Wk_44 (shW _ hj) rfl d_Wk_mixPlanInto_64 ?_
      refine g_iload C d_Wk_mixPlanInto_67 hl5 ?_
      refine g_iald C (shW2 _ hj) d_Wk_mixPlanInto_69 hf (fun hf => ?_)
      refine g_i2l C d_Wk_mixPlanInto_70 ?_
      refine g_ladd C d_Wk_mixPlanInto_71 ?_
      refine g_lstore_n C d_Wk_mixPlanInto_72 rfl (by decide) ?_
      refine g_iinc (v := 1) C d_Wk_mixPlanInto_73 (upG hl5 rfl) (by decide) (by decide) ?_
      refine g_goto (tgt := 49) C d_Wk_mixPlanInto_76 (by decide) ?_
      exact ih _ _ _ _ ((upG (upG hl0 rfl) rfl)) ((upG upS rfl)) upS hf
set_option maxHeartbeats 4000000 in
theorem t_Wk_mixPlanInto_B46 {ad : Nat → Nat} {dA : Nat → ClassId} {D : va_G} {p : Program} {l : Launch} {e : Env} {s : State} {m : MethodId} {args : Array Value} {below : List Frame} {meth : Method} {c : Code} {r : Int64} {μ' : Mm} (C : Cx CLS SHX ad dA D p s m args meth c c_Wk_mixPlanInto 6 R_Wk (some .long)) (N : Nat) {j : Nat} (hj : j < 8) : ∀ (v3 : Int64) (μ : Mm) (lv : Nat → Option Value), lv 0 = some (.ref (ad (WK j))) → lv 3 = some (.long v3) → f_Wk_mixPlanInto_B46 N j v3 μ = some (r, μ') → Go CLS SHX ad dA D p l e (rmD 1) s m args below meth c 6 (some (.long r)) μ' 46 lv [] μ := by
  intro v3 μ lv hl0 hl3 hf
  unfold f_Wk_mixPlanInto_B46 at hf
  refine g_iconst (v := 0) C d_Wk_mixPlanInto_46 (by decide) ?_
  refine g_istore C d_Wk_mixPlanInto_47 (by decide) ?_
  exact t_Wk_mixPlanInto_L49 C N hj N _ _ _ _ ((upG hl0 rfl)) ((upG hl3 rfl)) upS hf
set_option maxHeartbeats 4000000 in
theorem t_Wk_mixPlanInto_L16 {ad : Nat → Nat} {dA : Nat → ClassId} {D : va_G} {p : Program} {l : Launch} {e : Env} {s : State} {m : MethodId} {args : Array Value} {below : List Frame} {meth : Method} {c : Code} {r : Int64} {μ' : Mm} (C : Cx CLS SHX ad dA D p s m args meth c c_Wk_mixPlanInto 6 R_Wk (some .long)) (N : Nat) {j : Nat} (hj : j < 8) : ∀ (n : Nat) (v3 : Int64) (v5 : Int32) (μ : Mm) (lv : Nat → Option Value), lv 0 = some (.ref (ad (WK j))) → lv 3 = some (.long v3) → lv 5 = some (.int v5) → f_Wk_mixPlanInto_L16 N j n v3 v5 μ = some (r, μ') → Go CLS SHX ad dA D p l e (rmD 1) s m args below meth c 6 (some (.long r)) μ' 16 lv [] μ := by
  intro n
  induction n with
  | zero => intro v3 v5 μ lv hl0 hl3 hl5 hf; cases (show none = some _ from hf)
  | succ n ih =>
    intro v3 v5 μ lv hl0 hl3 hl5 hf
    unfold f_Wk_mixPlanInto_L16 at hf
    refine g_iload C d_Wk_mixPlanInto_16 hl5 ?_
    refine g_aload_n C d_Wk_mixPlanInto_18 rfl hl0 ?_
    refine g_getI (k := 8) C k_Wk (by decide) fl_Wk_37 (shW _ hj) rfl d_Wk_mixPlanInto_19 ?_
    refine g_icmp_ge (tgt := 46) C d_Wk_mixPlanInto_22 (by decide) hf (fun c4 hf => ?_) (fun c4 hf => ?_)
    · exact t_Wk_mixPlanInto_B46 C N hj _ _ _ hl0 hl3 hf
    · refine g_ldc2 C cl_Wk_117 d_Wk_mixPlanInto_25 ?_
      refine g_lload_n C d_Wk_mixPlanInto_28 rfl hl3 ?_
      refine g_lmul C d_Wk_mixPlanInto_29 ?_
      refine g_aload_n C d_Wk_mixPlanInto_30 rfl hl0 ?_
      refine g_getR (b := WK _ + 1) (k := 9) C k_Wk (by decide) fl_Wk_40 (shW _ hj) rfl d_Wk_mixPlanInto_31 ?_
      refine g_iload C d_Wk_mixPlanInto_34 hl5 ?_
      refine g_iald C (shW1 _ hj) d_Wk_mixPlanInto_36 hf (fun hf => ?_)
      refine g_i2l C d_Wk_mixPlanInto_37 ?_
      refine g_ladd C d_Wk_mixPlanInto_38 ?_
      refine g_lstore_n C d_Wk_mixPlanInto_39 rfl (by decide) ?_
      refine g_iinc (v := 1) C d_Wk_mixPlanInto_40 (upG hl5 rfl) (by decide) (by decide) ?_
      refine g_goto (tgt := 16) C d_Wk_mixPlanInto_43 (by decide) ?_
      exact ih _ _ _ _ ((upG (upG hl0 rfl) rfl)) ((upG upS rfl)) upS hf
set_option maxHeartbeats 4000000 in
theorem t_Wk_mixPlanInto {l : Launch} {ad : Nat → Nat} {dA : Nat → ClassId} {D : va_G} (hi : Inj SHX ad) {N : Nat} {j : Nat} {a1 : Int64} (hj : j < 8) {μ μ' : Mm} {r : Int64} (hf : f_Wk_mixPlanInto N j a1 μ = some (r, μ')) : Ct CLS l SHX ad dA D y_Wk_mixPlanInto c_Wk_mixPlanInto 6 (some .long) 1 [.ref (ad (WK j)), .long a1] μ (some (.long r)) μ' := by
  unfold f_Wk_mixPlanInto at hf
  refine ct_of (by decide) hi (Nat.le_of_ble_eq_true rfl) ?_
  intro p e s m args below meth c C
  refine g_ldc2 C cl_Wk_117 d_Wk_mixPlanInto_0 ?_
  refine g_lload_n C d_Wk_mixPlanInto_3 rfl rfl ?_
  refine g_lmul C d_Wk_mixPlanInto_4 ?_
  refine g_aload_n C d_Wk_mixPlanInto_5 rfl rfl ?_
  refine g_iconst (v := 0) C d_Wk_mixPlanInto_6 (by decide) ?_
  refine g_cvI C k_Wk (shW _ hj) mv_Wk_markOf ml_Wk_119 d_Wk_mixPlanInto_7 hf (fun r μ1 h => t_Wk_markOf C.2.2.2.2.2.2.2.2.1 hj h) rfl rfl (by decide) (Nat.le_of_ble_eq_true rfl) (fun r2 μ1 hf => ?_)
  refine g_i2l C d_Wk_mixPlanInto_10 ?_
  refine g_ladd C d_Wk_mixPlanInto_11 ?_
  refine g_lstore_n C d_Wk_mixPlanInto_12 rfl (by decide) ?_
  refine g_iconst (v := 0) C d_Wk_mixPlanInto_13 (by decide) ?_
  refine g_istore C d_Wk_mixPlanInto_14 (by decide) ?_
  exact t_Wk_mixPlanInto_L16 C N hj N _ _ _ _ ((upG (upG rfl rfl) rfl)) ((upG upS rfl)) upS hf
set_option maxHeartbeats 4000000 in
theorem t_Cr_mixInto_B78 {ad : Nat → Nat} {dA : Nat → ClassId} {D : va_G} {p : Program} {l : Launch} {e : Env} {s : State} {m : MethodId} {args : Array Value} {below : List Frame} {meth : Method} {c : Code} {r : Int64} {μ' : Mm} (C : Cx CLS SHX ad dA D p s m args meth c c_Cr_mixInto 7 R_Cr (some .long)) (N : Nat)   (k5 : Int64 → Int32 → Mm → Option (Int64 × Mm)) (hk5 : ∀ (v3 : Int64) (v5 : Int32) (μ : Mm) (lv : Nat → Option Value), lv 0 = some (.ref (ad 11)) → lv 3 = some (.long v3) → lv 5 = some (.int v5) → k5 v3 v5 μ = some (r, μ') → Go CLS SHX ad dA D p l e (rmD 2) s m args below meth c 7 (some (.long r)) μ' 5 lv [] μ) : ∀ (v3 : Int64) (v5 : Int32) (μ : Mm) (lv : Nat → Option Value), lv 0 = some (.ref (ad 11)) → lv 3 = some (.long v3) → lv 5 = some (.int v5) → f_Cr_mixInto_B78 N k5 v3 v5 μ = some (r, μ') → Go CLS SHX ad dA D p l e (rmD 2) s m args below meth c 7 (some (.long r)) μ' 78 lv [] μ := by
  intro v3 v5 μ lv hl0 hl3 hl5 hf
  unfold f_Cr_mixInto_B78 at hf
  refine g_iinc (v := 1) C d_Cr_mixInto_78 hl5 (by decide) (by decide) ?_
  refine g_goto (tgt := 5) C d_Cr_mixInto_81 (by decide) ?_
  exact hk5 _ _ _ _ ((upG hl0 rfl)) ((upG hl3 rfl)) upS hf
set_option maxHeartbeats 4000000 in
theorem t_Cr_mixInto_B66 {ad : Nat → Nat} {dA : Nat → ClassId} {D : va_G} {p : Program} {l : Launch} {e : Env} {s : State} {m : MethodId} {args : Array Value} {below : List Frame} {meth : Method} {c : Code} {r : Int64} {μ' : Mm} (C : Cx CLS SHX ad dA D p s m args meth c c_Cr_mixInto 7 R_Cr (some .long)) (N : Nat)   (k5 : Int64 → Int32 → Mm → Option (Int64 × Mm)) (hk5 : ∀ (v3 : Int64) (v5 : Int32) (μ : Mm) (lv : Nat → Option Value), lv 0 = some (.ref (ad 11)) → lv 3 = some (.long v3) → lv 5 = some (.int v5) → k5 v3 v5 μ = some (r, μ') → Go CLS SHX ad dA D p l e (rmD 2) s m args below meth c 7 (some (.long r)) μ' 5 lv [] μ) : ∀ (v3 : Int64) (v5 : Int32) (μ : Mm) (lv : Nat → Option Value), lv 0 = some (.ref (ad 11)) → lv 3 = some (.long v3) → lv 5 = some (.int v5) → f_Cr_mixInto_B66 N k5 v3 v5 μ = some (r, μ') → Go CLS SHX ad dA D p l e (rmD 2) s m args below meth c 7 (some (.long r)) μ' 66 lv [] μ := by
  intro v3 v5 μ lv hl0 hl3 hl5 hf
  unfold f_Cr_mixInto_B66 at hf
  refine g_aload_n C d_Cr_mixInto_66 rfl hl0 ?_
  refine g_getR (b := 12) (k := 3) C k_Cr (by decide) fl_Cr_20 rfl rfl d_Cr_mixInto_67 ?_
  refine g_iload C d_Cr_mixInto_70 hl5 ?_
  refine g_aald C rfl d_Cr_mixInto_72 hf (fun hx12 hf => ?_)
  refine g_lload_n C d_Cr_mixInto_73 rfl hl3 ?_
  refine g_cvL C k_Wk (shW _ (ix8 hx12)) mv_Wk_mixPlanInto ml_Cr_112 d_Cr_mixInto_74 hf (fun r μ1 h => t_Wk_mixPlanInto C.2.2.2.2.2.2.2.2.1 (ix8 hx12) h) rfl rfl (by decide) (Nat.le_of_ble_eq_true rfl) (fun r15 μ14 hf => ?_)
  refine g_lstore_n C d_Cr_mixInto_77 rfl (by decide) ?_
  exact t_Cr_mixInto_B78 C N _ hk5 _ _ _ _ ((upG hl0 rfl)) upS ((upG hl5 rfl)) hf
set_option maxHeartbeats 4000000 in
theorem t_Cr_mixInto_L37 {ad : Nat → Nat} {dA : Nat → ClassId} {D : va_G} {p : Program} {l : Launch} {e : Env} {s : State} {m : MethodId} {args : Array Value} {below : List Frame} {meth : Method} {c : Code} {r : Int64} {μ' : Mm} (C : Cx CLS SHX ad dA D p s m args meth c c_Cr_mixInto 7 R_Cr (some .long)) (N : Nat)   (k5 : Int64 → Int32 → Mm → Option (Int64 × Mm)) (hk5 : ∀ (v3 : Int64) (v5 : Int32) (μ : Mm) (lv : Nat → Option Value), lv 0 = some (.ref (ad 11)) → lv 3 = some (.long v3) → lv 5 = some (.int v5) → k5 v3 v5 μ = some (r, μ') → Go CLS SHX ad dA D p l e (rmD 2) s m args below meth c 7 (some (.long r)) μ' 5 lv [] μ) : ∀ (n : Nat) (v3 : Int64) (v5 : Int32) (v6 : Int32) (μ : Mm) (lv : Nat → Option Value), lv 0 = some (.ref (ad 11)) → lv 3 = some (.long v3) → lv 5 = some (.int v5) → lv 6 = some (.int v6) → f_Cr_mixInto_L37 N k5 n v3 v5 v6 μ = some (r, μ') → Go CLS SHX ad dA D p l e (rmD 2) s m args below meth c 7 (some (.long r)) μ' 37 lv [] μ := by
  intro n
  induction n with
  | zero => intro v3 v5 v6 μ lv hl0 hl3 hl5 hl6 hf; cases (show none = some _ from hf)
  | succ n ih =>
    intro v3 v5 v6 μ lv hl0 hl3 hl5 hl6 hf
    unfold f_Cr_mixInto_L37 at hf
    refine g_iload C d_Cr_mixInto_37 hl6 ?_
    refine g_bipush (v := 6) C d_Cr_mixInto_39 (by decide) ?_
    refine g_icmp_gt (tgt := 66) C d_Cr_mixInto_41 (by decide) hf (fun c7 hf => ?_) (fun c7 hf => ?_)
    · exact t_Cr_mixInto_B66 C N _ hk5 _ _ _ _ hl0 hl3 hl5 hf
    · refine g_ldc2 C cl_Cr_106 d_Cr_mixInto_44 ?_
      refine g_lload_n C d_Cr_mixInto_47 rfl hl3 ?_
      refine g_lmul C d_Cr_mixInto_48 ?_
      refine g_aload_n C d_Cr_mixInto_49 rfl hl0 ?_
      refine g_iload C d_Cr_mixInto_50 hl5 ?_
      refine g_iload C d_Cr_mixInto_52 hl6 ?_
      refine g_cvI C k_Cr rfl mv_Cr_tell ml_Cr_108 d_Cr_mixInto_54 hf (fun r μ1 h => t_Cr_tell C.2.2.2.2.2.2.2.2.1 h) rfl rfl (by decide) (Nat.le_of_ble_eq_true rfl) (fun r9 μ8 hf => ?_)
      refine g_i2l C d_Cr_mixInto_57 ?_
      refine g_ladd C d_Cr_mixInto_58 ?_
      refine g_lstore_n C d_Cr_mixInto_59 rfl (by decide) ?_
      refine g_iinc (v := 1) C d_Cr_mixInto_60 (upG hl6 rfl) (by decide) (by decide) ?_
      refine g_goto (tgt := 37) C d_Cr_mixInto_63 (by decide) ?_
      exact ih _ _ _ _ _ ((upG (upG hl0 rfl) rfl)) ((upG upS rfl)) ((upG (upG hl5 rfl) rfl)) upS hf
set_option maxHeartbeats 4000000 in
theorem t_Cr_mixInto_L5 {ad : Nat → Nat} {dA : Nat → ClassId} {D : va_G} {p : Program} {l : Launch} {e : Env} {s : State} {m : MethodId} {args : Array Value} {below : List Frame} {meth : Method} {c : Code} {r : Int64} {μ' : Mm} (C : Cx CLS SHX ad dA D p s m args meth c c_Cr_mixInto 7 R_Cr (some .long)) (N : Nat)   : ∀ (n : Nat) (v3 : Int64) (v5 : Int32) (μ : Mm) (lv : Nat → Option Value), lv 0 = some (.ref (ad 11)) → lv 3 = some (.long v3) → lv 5 = some (.int v5) → f_Cr_mixInto_L5 N n v3 v5 μ = some (r, μ') → Go CLS SHX ad dA D p l e (rmD 2) s m args below meth c 7 (some (.long r)) μ' 5 lv [] μ := by
  intro n
  induction n with
  | zero => intro v3 v5 μ lv hl0 hl3 hl5 hf; cases (show none = some _ from hf)
  | succ n ih =>
    intro v3 v5 μ lv hl0 hl3 hl5 hf
    unfold f_Cr_mixInto_L5 at hf
    refine g_iload C d_Cr_mixInto_5 hl5 ?_
    refine g_aload_n C d_Cr_mixInto_7 rfl hl0 ?_
    refine g_getI (k := 1) C k_Cr (by decide) fl_Cr_9 rfl rfl d_Cr_mixInto_8 ?_
    refine g_icmp_ge (tgt := 84) C d_Cr_mixInto_11 (by decide) hf (fun c1 hf => ?_) (fun c1 hf => ?_)
    · refine g_lload_n C d_Cr_mixInto_84 rfl hl3 ?_
      exact g_lret C d_Cr_mixInto_85 hf
    · refine g_aload_n C d_Cr_mixInto_14 rfl hl0 ?_
      refine g_iload C d_Cr_mixInto_15 hl5 ?_
      refine g_cvI C k_Cr rfl mv_Cr_lacks ml_Cr_103 d_Cr_mixInto_17 hf (fun r μ1 h => t_Cr_lacks C.2.2.2.2.2.2.2.2.1 h) rfl rfl (by decide) (Nat.le_of_ble_eq_true rfl) (fun r3 μ2 hf => ?_)
      refine g_if_eq (tgt := 34) C d_Cr_mixInto_20 (by decide) hf (fun c4 hf => ?_) (fun c4 hf => ?_)
      · refine g_iconst (v := 0) C d_Cr_mixInto_34 (by decide) ?_
        refine g_istore C d_Cr_mixInto_35 (by decide) ?_
        exact t_Cr_mixInto_L37 C N _ ih N _ _ _ _ _ ((upG hl0 rfl)) ((upG hl3 rfl)) ((upG hl5 rfl)) upS hf
      · refine g_ldc2 C cl_Cr_106 d_Cr_mixInto_23 ?_
        refine g_lload_n C d_Cr_mixInto_26 rfl hl3 ?_
        refine g_lmul C d_Cr_mixInto_27 ?_
        refine g_lconst (v := 1) C d_Cr_mixInto_28 (by decide) ?_
        refine g_lsub C d_Cr_mixInto_29 ?_
        refine g_lstore_n C d_Cr_mixInto_30 rfl (by decide) ?_
        refine g_goto (tgt := 78) C d_Cr_mixInto_31 (by decide) ?_
        exact t_Cr_mixInto_B78 C N _ ih _ _ _ _ ((upG hl0 rfl)) upS ((upG hl5 rfl)) hf
set_option maxHeartbeats 4000000 in
theorem t_Cr_mixInto {l : Launch} {ad : Nat → Nat} {dA : Nat → ClassId} {D : va_G} (hi : Inj SHX ad) {N : Nat} {a1 : Int64}  {μ μ' : Mm} {r : Int64} (hf : f_Cr_mixInto N a1 μ = some (r, μ')) : Ct CLS l SHX ad dA D y_Cr_mixInto c_Cr_mixInto 7 (some .long) 2 [.ref (ad 11), .long a1] μ (some (.long r)) μ' := by
  unfold f_Cr_mixInto at hf
  refine ct_of (by decide) hi (Nat.le_of_ble_eq_true rfl) ?_
  intro p e s m args below meth c C
  refine g_lload_n C d_Cr_mixInto_0 rfl rfl ?_
  refine g_lstore_n C d_Cr_mixInto_1 rfl (by decide) ?_
  refine g_iconst (v := 0) C d_Cr_mixInto_2 (by decide) ?_
  refine g_istore C d_Cr_mixInto_3 (by decide) ?_
  exact t_Cr_mixInto_L5 C N N _ _ _ _ ((upG (upG rfl rfl) rfl)) ((upG upS rfl)) upS hf
set_option maxHeartbeats 4000000 in
theorem t_Gr_wallsChanged {l : Launch} {ad : Nat → Nat} {dA : Nat → ClassId} {D : va_G} (hi : Inj SHX ad) {N : Nat}   {μ μ' : Mm} (hf : f_Gr_wallsChanged N  μ = some μ') : Ct CLS l SHX ad dA D y_Gr_wallsChanged c_Gr_wallsChanged 1 (none) 0 [.ref (ad 6)] μ none μ' := by
  unfold f_Gr_wallsChanged at hf
  refine ct_of (by decide) hi (Nat.le_of_ble_eq_true rfl) ?_
  intro p e s m args below meth c C
  refine g_aload_n C d_Gr_wallsChanged_0 rfl rfl ?_
  refine g_iconst (v := 1) C d_Gr_wallsChanged_1 (by decide) ?_
  refine g_putZc (k := 9) C k_Gr (by decide) fl_Gr_41 rfl rfl rfl rfl d_Gr_wallsChanged_2 rfl ?_
  refine g_aload_n C d_Gr_wallsChanged_5 rfl rfl ?_
  refine g_dup C d_Gr_wallsChanged_6 rfl ?_
  refine g_getI (k := 4) C k_Gr (by decide) fl_Gr_24 rfl rfl d_Gr_wallsChanged_7 ?_
  refine g_iconst (v := 1) C d_Gr_wallsChanged_10 (by decide) ?_
  refine g_iadd C d_Gr_wallsChanged_11 ?_
  refine g_putI (k := 4) C k_Gr (by decide) fl_Gr_24 rfl rfl rfl rfl d_Gr_wallsChanged_12 ?_
  exact g_vret C d_Gr_wallsChanged_15 hf
set_option maxHeartbeats 4000000 in
theorem t_Gr_begin_B70 {ad : Nat → Nat} {dA : Nat → ClassId} {D : va_G} {p : Program} {l : Launch} {e : Env} {s : State} {m : MethodId} {args : Array Value} {below : List Frame} {meth : Method} {c : Code} {μ' : Mm} (C : Cx CLS SHX ad dA D p s m args meth c c_Gr_begin 4 R_Gr (none)) (N : Nat)   : ∀  (μ : Mm) (lv : Nat → Option Value), lv 0 = some (.ref (ad 6)) → f_Gr_begin_B70 N μ = some μ' → Go CLS SHX ad dA D p l e (rmD 1) s m args below meth c 4 none μ' 70 lv [] μ := by
  intro μ lv hl0 hf
  unfold f_Gr_begin_B70 at hf
  refine g_aload_n C d_Gr_begin_70 rfl hl0 ?_
  refine g_cvV C k_Gr rfl mv_Gr_wallsChanged ml_Gr_45 d_Gr_begin_71 hf (fun μ1 h => t_Gr_wallsChanged C.2.2.2.2.2.2.2.2.1 h) rfl rfl (by decide) (Nat.le_of_ble_eq_true rfl) (fun μ12 hf => ?_)
  exact g_vret C d_Gr_begin_74 hf
set_option maxHeartbeats 4000000 in
theorem t_Gr_begin_L44 {ad : Nat → Nat} {dA : Nat → ClassId} {D : va_G} {p : Program} {l : Launch} {e : Env} {s : State} {m : MethodId} {args : Array Value} {below : List Frame} {meth : Method} {c : Code} {μ' : Mm} (C : Cx CLS SHX ad dA D p s m args meth c c_Gr_begin 4 R_Gr (none)) (N : Nat)   : ∀ (n : Nat) (v3 : Int32) (μ : Mm) (lv : Nat → Option Value), lv 0 = some (.ref (ad 6)) → lv 3 = some (.int v3) → f_Gr_begin_L44 N n v3 μ = some μ' → Go CLS SHX ad dA D p l e (rmD 1) s m args below meth c 4 none μ' 44 lv [] μ := by
  intro n
  induction n with
  | zero => intro v3 μ lv hl0 hl3 hf; cases (show none = some _ from hf)
  | succ n ih =>
    intro v3 μ lv hl0 hl3 hf
    unfold f_Gr_begin_L44 at hf
    refine g_iload_n C d_Gr_begin_44 rfl hl3 ?_
    refine g_bipush (v := 16) C d_Gr_begin_45 (by decide) ?_
    refine g_icmp_ge (tgt := 70) C d_Gr_begin_47 (by decide) hf (fun c8 hf => ?_) (fun c8 hf => ?_)
    · exact t_Gr_begin_B70 C N _ _ hl0 hf
    · refine g_aload_n C d_Gr_begin_50 rfl hl0 ?_
      refine g_getR (b := 8) (k := 6) C k_Gr (by decide) fl_Gr_31 rfl rfl d_Gr_begin_51 ?_
      refine g_iload_n C d_Gr_begin_54 rfl hl3 ?_
      refine g_iconst (v := 1) C d_Gr_begin_55 (by decide) ?_
      refine g_iast C rfl d_Gr_begin_56 hf (fun hf => ?_)
      refine g_aload_n C d_Gr_begin_57 rfl hl0 ?_
      refine g_getR (b := 9) (k := 7) C k_Gr (by decide) fl_Gr_34 rfl rfl d_Gr_begin_58 ?_
      refine g_iload_n C d_Gr_begin_61 rfl hl3 ?_
      refine g_iconst (v := 0) C d_Gr_begin_62 (by decide) ?_
      refine g_zast C rfl d_Gr_begin_63 hf (fun hf => ?_)
      refine g_iinc (v := 1) C d_Gr_begin_64 hl3 (by decide) (by decide) ?_
      refine g_goto (tgt := 44) C d_Gr_begin_67 (by decide) ?_
      exact ih _ _ _ ((upG hl0 rfl)) upS hf
set_option maxHeartbeats 4000000 in
theorem t_Gr_begin_B42 {ad : Nat → Nat} {dA : Nat → ClassId} {D : va_G} {p : Program} {l : Launch} {e : Env} {s : State} {m : MethodId} {args : Array Value} {below : List Frame} {meth : Method} {c : Code} {μ' : Mm} (C : Cx CLS SHX ad dA D p s m args meth c c_Gr_begin 4 R_Gr (none)) (N : Nat)   : ∀  (μ : Mm) (lv : Nat → Option Value), lv 0 = some (.ref (ad 6)) → f_Gr_begin_B42 N μ = some μ' → Go CLS SHX ad dA D p l e (rmD 1) s m args below meth c 4 none μ' 42 lv [] μ := by
  intro μ lv hl0 hf
  unfold f_Gr_begin_B42 at hf
  refine g_iconst (v := 0) C d_Gr_begin_42 (by decide) ?_
  refine g_istore_n C d_Gr_begin_43 rfl (by decide) ?_
  exact t_Gr_begin_L44 C N N _ _ _ ((upG hl0 rfl)) upS hf
set_option maxHeartbeats 4000000 in
theorem t_Gr_begin_L22 {ad : Nat → Nat} {dA : Nat → ClassId} {D : va_G} {p : Program} {l : Launch} {e : Env} {s : State} {m : MethodId} {args : Array Value} {below : List Frame} {meth : Method} {c : Code} {μ' : Mm} (C : Cx CLS SHX ad dA D p s m args meth c c_Gr_begin 4 R_Gr (none)) (N : Nat)   : ∀ (n : Nat) (v3 : Int32) (μ : Mm) (lv : Nat → Option Value), lv 0 = some (.ref (ad 6)) → lv 3 = some (.int v3) → f_Gr_begin_L22 N n v3 μ = some μ' → Go CLS SHX ad dA D p l e (rmD 1) s m args below meth c 4 none μ' 22 lv [] μ := by
  intro n
  induction n with
  | zero => intro v3 μ lv hl0 hl3 hf; cases (show none = some _ from hf)
  | succ n ih =>
    intro v3 μ lv hl0 hl3 hf
    unfold f_Gr_begin_L22 at hf
    refine g_iload_n C d_Gr_begin_22 rfl hl3 ?_
    refine g_sipush (v := 256) C d_Gr_begin_23 (by decide) ?_
    refine g_icmp_ge (tgt := 42) C d_Gr_begin_26 (by decide) hf (fun c5 hf => ?_) (fun c5 hf => ?_)
    · exact t_Gr_begin_B42 C N _ _ hl0 hf
    · refine g_aload_n C d_Gr_begin_29 rfl hl0 ?_
      refine g_getR (b := 7) (k := 5) C k_Gr (by decide) fl_Gr_27 rfl rfl d_Gr_begin_30 ?_
      refine g_iload_n C d_Gr_begin_33 rfl hl3 ?_
      refine g_iconst (v := 0) C d_Gr_begin_34 (by decide) ?_
      refine g_iast C rfl d_Gr_begin_35 hf (fun hf => ?_)
      refine g_iinc (v := 1) C d_Gr_begin_36 hl3 (by decide) (by decide) ?_
      refine g_goto (tgt := 22) C d_Gr_begin_39 (by decide) ?_
      exact ih _ _ _ ((upG hl0 rfl)) upS hf
set_option maxHeartbeats 4000000 in
theorem t_Gr_begin {l : Launch} {ad : Nat → Nat} {dA : Nat → ClassId} {D : va_G} (hi : Inj SHX ad) {N : Nat} {a1 : Int32} {a2 : Int32}  {μ μ' : Mm} (hf : f_Gr_begin N a1 a2 μ = some μ') : Ct CLS l SHX ad dA D y_Gr_begin c_Gr_begin 4 (none) 1 [.ref (ad 6), .int a1, .int a2] μ none μ' := by
  unfold f_Gr_begin at hf
  refine ct_of (by decide) hi (Nat.le_of_ble_eq_true rfl) ?_
  intro p e s m args below meth c C
  refine g_aload_n C d_Gr_begin_0 rfl rfl ?_
  refine g_iload_n C d_Gr_begin_1 rfl rfl ?_
  refine g_putI (k := 0) C k_Gr (by decide) fl_Gr_9 rfl rfl rfl rfl d_Gr_begin_2 ?_
  refine g_aload_n C d_Gr_begin_5 rfl rfl ?_
  refine g_iload_n C d_Gr_begin_6 rfl rfl ?_
  refine g_putI (k := 1) C k_Gr (by decide) fl_Gr_15 rfl rfl rfl rfl d_Gr_begin_7 ?_
  refine g_aload_n C d_Gr_begin_10 rfl rfl ?_
  refine g_iconst (v := 0) C d_Gr_begin_11 (by decide) ?_
  refine g_putI (k := 2) C k_Gr (by decide) fl_Gr_18 rfl rfl rfl rfl d_Gr_begin_12 ?_
  refine g_aload_n C d_Gr_begin_15 rfl rfl ?_
  refine g_iconst (v := 0) C d_Gr_begin_16 (by decide) ?_
  refine g_putI (k := 3) C k_Gr (by decide) fl_Gr_21 rfl rfl rfl rfl d_Gr_begin_17 ?_
  refine g_iconst (v := 0) C d_Gr_begin_20 (by decide) ?_
  refine g_istore_n C d_Gr_begin_21 rfl (by decide) ?_
  exact t_Gr_begin_L22 C N N _ _ _ ((upG rfl rfl)) upS hf
set_option maxHeartbeats 4000000 in
theorem t_Gr_setLength {l : Launch} {ad : Nat → Nat} {dA : Nat → ClassId} {D : va_G} (hi : Inj SHX ad) {N : Nat} {a1 : Int32} {a2 : Int32} {a3 : Int32}  {μ μ' : Mm} (hf : f_Gr_setLength N a1 a2 a3 μ = some μ') : Ct CLS l SHX ad dA D y_Gr_setLength c_Gr_setLength 4 (none) 1 [.ref (ad 6), .int a1, .int a2, .int a3] μ none μ' := by
  unfold f_Gr_setLength at hf
  refine ct_of (by decide) hi (Nat.le_of_ble_eq_true rfl) ?_
  intro p e s m args below meth c C
  refine g_aload_n C d_Gr_setLength_0 rfl rfl ?_
  refine g_getR (b := 7) (k := 5) C k_Gr (by decide) fl_Gr_27 rfl rfl d_Gr_setLength_1 ?_
  refine g_iload_n C d_Gr_setLength_4 rfl rfl ?_
  refine g_bipush (v := 16) C d_Gr_setLength_5 (by decide) ?_
  refine g_imul C d_Gr_setLength_7 ?_
  refine g_iload_n C d_Gr_setLength_8 rfl rfl ?_
  refine g_iadd C d_Gr_setLength_9 ?_
  refine g_iload_n C d_Gr_setLength_10 rfl rfl ?_
  refine g_iast C rfl d_Gr_setLength_11 hf (fun hf => ?_)
  refine g_aload_n C d_Gr_setLength_12 rfl rfl ?_
  refine g_getR (b := 7) (k := 5) C k_Gr (by decide) fl_Gr_27 rfl rfl d_Gr_setLength_13 ?_
  refine g_iload_n C d_Gr_setLength_16 rfl rfl ?_
  refine g_bipush (v := 16) C d_Gr_setLength_17 (by decide) ?_
  refine g_imul C d_Gr_setLength_19 ?_
  refine g_iload_n C d_Gr_setLength_20 rfl rfl ?_
  refine g_iadd C d_Gr_setLength_21 ?_
  refine g_iload_n C d_Gr_setLength_22 rfl rfl ?_
  refine g_iast C rfl d_Gr_setLength_23 hf (fun hf => ?_)
  refine g_aload_n C d_Gr_setLength_24 rfl rfl ?_
  refine g_cvV C k_Gr rfl mv_Gr_wallsChanged ml_Gr_45 d_Gr_setLength_25 hf (fun μ1 h => t_Gr_wallsChanged C.2.2.2.2.2.2.2.2.1 h) rfl rfl (by decide) (Nat.le_of_ble_eq_true rfl) (fun μ5 hf => ?_)
  exact g_vret C d_Gr_setLength_28 hf
set_option maxHeartbeats 4000000 in
theorem t_Gr_build {l : Launch} {ad : Nat → Nat} {dA : Nat → ClassId} {D : va_G} (hi : Inj SHX ad) {N : Nat} {a1 : Int32} {a2 : Int32} {a3 : Int32}  {μ μ' : Mm} (hf : f_Gr_build N a1 a2 a3 μ = some μ') : Ct CLS l SHX ad dA D y_Gr_build c_Gr_build 4 (none) 2 [.ref (ad 6), .int a1, .int a2, .int a3] μ none μ' := by
  unfold f_Gr_build at hf
  refine ct_of (by decide) hi (Nat.le_of_ble_eq_true rfl) ?_
  intro p e s m args below meth c C
  refine g_aload_n C d_Gr_build_0 rfl rfl ?_
  refine g_iload_n C d_Gr_build_1 rfl rfl ?_
  refine g_iload_n C d_Gr_build_2 rfl rfl ?_
  refine g_iload_n C d_Gr_build_3 rfl rfl ?_
  refine g_cvV C k_Gr rfl mv_Gr_setLength ml_Gr_48 d_Gr_build_4 hf (fun μ1 h => t_Gr_setLength C.2.2.2.2.2.2.2.2.1 h) rfl rfl (by decide) (Nat.le_of_ble_eq_true rfl) (fun μ1 hf => ?_)
  refine g_aload_n C d_Gr_build_7 rfl rfl ?_
  refine g_dup C d_Gr_build_8 rfl ?_
  refine g_getI (k := 2) C k_Gr (by decide) fl_Gr_18 rfl rfl d_Gr_build_9 ?_
  refine g_iconst (v := 1) C d_Gr_build_12 (by decide) ?_
  refine g_iadd C d_Gr_build_13 ?_
  refine g_putI (k := 2) C k_Gr (by decide) fl_Gr_18 rfl rfl rfl rfl d_Gr_build_14 ?_
  exact g_vret C d_Gr_build_17 hf
set_option maxHeartbeats 4000000 in
theorem t_Gr_turnBroken_B21 {ad : Nat → Nat} {dA : Nat → ClassId} {D : va_G} {p : Program} {l : Launch} {e : Env} {s : State} {m : MethodId} {args : Array Value} {below : List Frame} {meth : Method} {c : Code} {μ' : Mm} (C : Cx CLS SHX ad dA D p s m args meth c c_Gr_turnBroken 4 R_Gr (none)) (N : Nat)   : ∀ (v1 : Int32) (v2 : Int32) (v3 : Int32) (s1 : Int32) (s2 : Int32) (μ : Mm) (lv : Nat → Option Value), lv 0 = some (.ref (ad 6)) → lv 1 = some (.int v1) → lv 2 = some (.int v2) → lv 3 = some (.int v3) → f_Gr_turnBroken_B21 N v1 v2 v3 s1 s2 μ = some μ' → Go CLS SHX ad dA D p l e (rmD 2) s m args below meth c 4 none μ' 21 lv [.int s2, .int s1, .ref (ad 6)] μ := by
  intro v1 v2 v3 s1 s2 μ lv hl0 hl1 hl2 hl3 hf
  unfold f_Gr_turnBroken_B21 at hf
  refine g_iadd C d_Gr_turnBroken_21 ?_
  refine g_putI (k := 3) C k_Gr (by decide) fl_Gr_21 rfl rfl rfl rfl d_Gr_turnBroken_22 ?_
  refine g_aload_n C d_Gr_turnBroken_25 rfl hl0 ?_
  refine g_iload_n C d_Gr_turnBroken_26 rfl hl1 ?_
  refine g_iload_n C d_Gr_turnBroken_27 rfl hl2 ?_
  refine g_iload_n C d_Gr_turnBroken_28 rfl hl3 ?_
  refine g_ineg C d_Gr_turnBroken_29 ?_
  refine g_cvV C k_Gr rfl mv_Gr_setLength ml_Gr_48 d_Gr_turnBroken_30 hf (fun μ1 h => t_Gr_setLength C.2.2.2.2.2.2.2.2.1 h) rfl rfl (by decide) (Nat.le_of_ble_eq_true rfl) (fun μ5 hf => ?_)
  exact g_vret C d_Gr_turnBroken_33 hf
set_option maxHeartbeats 4000000 in
theorem t_Gr_turnBroken {l : Launch} {ad : Nat → Nat} {dA : Nat → ClassId} {D : va_G} (hi : Inj SHX ad) {N : Nat} {a1 : Int32} {a2 : Int32}  {μ μ' : Mm} (hf : f_Gr_turnBroken N a1 a2 μ = some μ') : Ct CLS l SHX ad dA D y_Gr_turnBroken c_Gr_turnBroken 4 (none) 2 [.ref (ad 6), .int a1, .int a2] μ none μ' := by
  unfold f_Gr_turnBroken at hf
  refine ct_of (by decide) hi (Nat.le_of_ble_eq_true rfl) ?_
  intro p e s m args below meth c C
  refine g_aload_n C d_Gr_turnBroken_0 rfl rfl ?_
  refine g_iload_n C d_Gr_turnBroken_1 rfl rfl ?_
  refine g_iload_n C d_Gr_turnBroken_2 rfl rfl ?_
  refine g_cvI C k_Gr rfl mv_Gr_lengthOf ml_Gr_52 d_Gr_turnBroken_3 hf (fun r μ1 h => t_Gr_lengthOf C.2.2.2.2.2.2.2.2.1 h) rfl rfl (by decide) (Nat.le_of_ble_eq_true rfl) (fun r2 μ1 hf => ?_)
  refine g_istore_n C d_Gr_turnBroken_6 rfl (by decide) ?_
  refine g_aload_n C d_Gr_turnBroken_7 rfl (upG rfl rfl) ?_
  refine g_dup C d_Gr_turnBroken_8 rfl ?_
  refine g_getI (k := 3) C k_Gr (by decide) fl_Gr_21 rfl rfl d_Gr_turnBroken_9 ?_
  refine g_iload_n C d_Gr_turnBroken_12 rfl upS ?_
  refine g_if_le (tgt := 20) C d_Gr_turnBroken_13 (by decide) hf (fun c3 hf => ?_) (fun c3 hf => ?_)
  · refine g_iconst (v := -1) C d_Gr_turnBroken_20 (by decide) ?_
    exact t_Gr_turnBroken_B21 C N _ _ _ _ _ _ _ ((upG rfl rfl)) ((upG rfl rfl)) ((upG rfl rfl)) upS hf
  · refine g_iconst (v := 1) C d_Gr_turnBroken_16 (by decide) ?_
    refine g_goto (tgt := 21) C d_Gr_turnBroken_17 (by decide) ?_
    exact t_Gr_turnBroken_B21 C N _ _ _ _ _ _ _ ((upG rfl rfl)) ((upG rfl rfl)) ((upG rfl rfl)) upS hf
set_option maxHeartbeats 4000000 in
theorem t_Gr_changeWorth {l : Launch} {ad : Nat → Nat} {dA : Nat → ClassId} {D : va_G} (hi : Inj SHX ad) {N : Nat} {a1 : Int32} {a2 : Int32}  {μ μ' : Mm} {r : Int32} (hf : f_Gr_changeWorth N a1 a2 μ = some (r, μ')) : Ct CLS l SHX ad dA D y_Gr_changeWorth c_Gr_changeWorth 4 (some .int) 0 [.ref (ad 6), .int a1, .int a2] μ (some (.int r)) μ' := by
  unfold f_Gr_changeWorth at hf
  refine ct_of (by decide) hi (Nat.le_of_ble_eq_true rfl) ?_
  intro p e s m args below meth c C
  refine g_aload_n C d_Gr_changeWorth_0 rfl rfl ?_
  refine g_getR (b := 8) (k := 6) C k_Gr (by decide) fl_Gr_31 rfl rfl d_Gr_changeWorth_1 ?_
  refine g_iload_n C d_Gr_changeWorth_4 rfl rfl ?_
  refine g_iald C rfl d_Gr_changeWorth_5 hf (fun hf => ?_)
  refine g_istore_n C d_Gr_changeWorth_6 rfl (by decide) ?_
  refine g_aload_n C d_Gr_changeWorth_7 rfl (upG rfl rfl) ?_
  refine g_getR (b := 8) (k := 6) C k_Gr (by decide) fl_Gr_31 rfl rfl d_Gr_changeWorth_8 ?_
  refine g_iload_n C d_Gr_changeWorth_11 rfl (upG rfl rfl) ?_
  refine g_iload_n C d_Gr_changeWorth_12 rfl (upG rfl rfl) ?_
  refine g_iast C rfl d_Gr_changeWorth_13 hf (fun hf => ?_)
  refine g_aload_n C d_Gr_changeWorth_14 rfl (upG rfl rfl) ?_
  refine g_dup C d_Gr_changeWorth_15 rfl ?_
  refine g_getI (k := 4) C k_Gr (by decide) fl_Gr_24 rfl rfl d_Gr_changeWorth_16 ?_
  refine g_iconst (v := 1) C d_Gr_changeWorth_19 (by decide) ?_
  refine g_iadd C d_Gr_changeWorth_20 ?_
  refine g_putI (k := 4) C k_Gr (by decide) fl_Gr_24 rfl rfl rfl rfl d_Gr_changeWorth_21 ?_
  refine g_iload_n C d_Gr_changeWorth_24 rfl upS ?_
  exact g_iret C d_Gr_changeWorth_25 hf
set_option maxHeartbeats 4000000 in
theorem t_Gr_changeBase {l : Launch} {ad : Nat → Nat} {dA : Nat → ClassId} {D : va_G} (hi : Inj SHX ad) {N : Nat} {a1 : Int32} {a2 : Int32}  {μ μ' : Mm} {r : Int32} (hf : f_Gr_changeBase N a1 a2 μ = some (r, μ')) : Ct CLS l SHX ad dA D y_Gr_changeBase c_Gr_changeBase 4 (some .boolean) 0 [.ref (ad 6), .int a1, .int a2] μ (some (.int r)) μ' := by
  unfold f_Gr_changeBase at hf
  refine ct_of (by decide) hi (Nat.le_of_ble_eq_true rfl) ?_
  intro p e s m args below meth c C
  refine g_aload_n C d_Gr_changeBase_0 rfl rfl ?_
  refine g_getR (b := 9) (k := 7) C k_Gr (by decide) fl_Gr_34 rfl rfl d_Gr_changeBase_1 ?_
  refine g_iload_n C d_Gr_changeBase_4 rfl rfl ?_
  refine g_zald C rfl d_Gr_changeBase_5 hf (fun hf => ?_)
  refine g_istore_n C d_Gr_changeBase_6 rfl (by decide) ?_
  refine g_aload_n C d_Gr_changeBase_7 rfl (upG rfl rfl) ?_
  refine g_getR (b := 9) (k := 7) C k_Gr (by decide) fl_Gr_34 rfl rfl d_Gr_changeBase_8 ?_
  refine g_iload_n C d_Gr_changeBase_11 rfl (upG rfl rfl) ?_
  refine g_iload_n C d_Gr_changeBase_12 rfl (upG rfl rfl) ?_
  refine g_zast C rfl d_Gr_changeBase_13 hf (fun hf => ?_)
  refine g_aload_n C d_Gr_changeBase_14 rfl (upG rfl rfl) ?_
  refine g_dup C d_Gr_changeBase_15 rfl ?_
  refine g_getI (k := 4) C k_Gr (by decide) fl_Gr_24 rfl rfl d_Gr_changeBase_16 ?_
  refine g_iconst (v := 1) C d_Gr_changeBase_19 (by decide) ?_
  refine g_iadd C d_Gr_changeBase_20 ?_
  refine g_putI (k := 4) C k_Gr (by decide) fl_Gr_24 rfl rfl rfl rfl d_Gr_changeBase_21 ?_
  refine g_iload_n C d_Gr_changeBase_24 rfl upS ?_
  exact g_zret C d_Gr_changeBase_25 hf
set_option maxHeartbeats 4000000 in
theorem t_Gr_worthOf {l : Launch} {ad : Nat → Nat} {dA : Nat → ClassId} {D : va_G} (hi : Inj SHX ad) {N : Nat} {a1 : Int32}  {μ μ' : Mm} {r : Int32} (hf : f_Gr_worthOf N a1 μ = some (r, μ')) : Ct CLS l SHX ad dA D y_Gr_worthOf c_Gr_worthOf 2 (some .int) 0 [.ref (ad 6), .int a1] μ (some (.int r)) μ' := by
  unfold f_Gr_worthOf at hf
  refine ct_of (by decide) hi (Nat.le_of_ble_eq_true rfl) ?_
  intro p e s m args below meth c C
  refine g_aload_n C d_Gr_worthOf_0 rfl rfl ?_
  refine g_getR (b := 8) (k := 6) C k_Gr (by decide) fl_Gr_31 rfl rfl d_Gr_worthOf_1 ?_
  refine g_iload_n C d_Gr_worthOf_4 rfl rfl ?_
  refine g_iald C rfl d_Gr_worthOf_5 hf (fun hf => ?_)
  exact g_iret C d_Gr_worthOf_6 hf
set_option maxHeartbeats 4000000 in
theorem t_Gr_worthy_B29 {ad : Nat → Nat} {dA : Nat → ClassId} {D : va_G} {p : Program} {l : Launch} {e : Env} {s : State} {m : MethodId} {args : Array Value} {below : List Frame} {meth : Method} {c : Code} {r : Int32} {μ' : Mm} (C : Cx CLS SHX ad dA D p s m args meth c c_Gr_worthy 3 R_Gr (some .int)) (N : Nat)   (k4 : Int32 → Int32 → Mm → Option (Int32 × Mm)) (hk4 : ∀ (v1 : Int32) (v2 : Int32) (μ : Mm) (lv : Nat → Option Value), lv 0 = some (.ref (ad 6)) → lv 1 = some (.int v1) → lv 2 = some (.int v2) → k4 v1 v2 μ = some (r, μ') → Go CLS SHX ad dA D p l e (rmD 0) s m args below meth c 3 (some (.int r)) μ' 4 lv [] μ) : ∀ (v2 : Int32) (s0 : Int32) (s1 : Int32) (μ : Mm) (lv : Nat → Option Value), lv 0 = some (.ref (ad 6)) → lv 2 = some (.int v2) → f_Gr_worthy_B29 N k4 v2 s0 s1 μ = some (r, μ') → Go CLS SHX ad dA D p l e (rmD 0) s m args below meth c 3 (some (.int r)) μ' 29 lv [.int s1, .int s0] μ := by
  intro v2 s0 s1 μ lv hl0 hl2 hf
  unfold f_Gr_worthy_B29 at hf
  refine g_ior C d_Gr_worthy_29 ?_
  refine g_istore_n C d_Gr_worthy_30 rfl (by decide) ?_
  refine g_iinc (v := 1) C d_Gr_worthy_31 (upG hl2 rfl) (by decide) (by decide) ?_
  refine g_goto (tgt := 4) C d_Gr_worthy_34 (by decide) ?_
  exact hk4 _ _ _ _ ((upG (upG hl0 rfl) rfl)) ((upG upS rfl)) upS hf
set_option maxHeartbeats 4000000 in
theorem t_Gr_worthy_L4 {ad : Nat → Nat} {dA : Nat → ClassId} {D : va_G} {p : Program} {l : Launch} {e : Env} {s : State} {m : MethodId} {args : Array Value} {below : List Frame} {meth : Method} {c : Code} {r : Int32} {μ' : Mm} (C : Cx CLS SHX ad dA D p s m args meth c c_Gr_worthy 3 R_Gr (some .int)) (N : Nat)   : ∀ (n : Nat) (v1 : Int32) (v2 : Int32) (μ : Mm) (lv : Nat → Option Value), lv 0 = some (.ref (ad 6)) → lv 1 = some (.int v1) → lv 2 = some (.int v2) → f_Gr_worthy_L4 N n v1 v2 μ = some (r, μ') → Go CLS SHX ad dA D p l e (rmD 0) s m args below meth c 3 (some (.int r)) μ' 4 lv [] μ := by
  intro n
  induction n with
  | zero => intro v1 v2 μ lv hl0 hl1 hl2 hf; cases (show none = some _ from hf)
  | succ n ih =>
    intro v1 v2 μ lv hl0 hl1 hl2 hf
    unfold f_Gr_worthy_L4 at hf
    refine g_iload_n C d_Gr_worthy_4 rfl hl2 ?_
    refine g_aload_n C d_Gr_worthy_5 rfl hl0 ?_
    refine g_getI (k := 1) C k_Gr (by decide) fl_Gr_15 rfl rfl d_Gr_worthy_6 ?_
    refine g_icmp_ge (tgt := 37) C d_Gr_worthy_9 (by decide) hf (fun c1 hf => ?_) (fun c1 hf => ?_)
    · refine g_iload_n C d_Gr_worthy_37 rfl hl1 ?_
      exact g_iret C d_Gr_worthy_38 hf
    · refine g_iload_n C d_Gr_worthy_12 rfl hl1 ?_
      refine g_aload_n C d_Gr_worthy_13 rfl hl0 ?_
      refine g_getR (b := 8) (k := 6) C k_Gr (by decide) fl_Gr_31 rfl rfl d_Gr_worthy_14 ?_
      refine g_iload_n C d_Gr_worthy_17 rfl hl2 ?_
      refine g_iald C rfl d_Gr_worthy_18 hf (fun hf => ?_)
      refine g_if_le (tgt := 28) C d_Gr_worthy_19 (by decide) hf (fun c2 hf => ?_) (fun c2 hf => ?_)
      · refine g_iconst (v := 0) C d_Gr_worthy_28 (by decide) ?_
        exact t_Gr_worthy_B29 C N _ ih _ _ _ _ _ hl0 hl2 hf
      · refine g_iconst (v := 1) C d_Gr_worthy_22 (by decide) ?_
        refine g_iload_n C d_Gr_worthy_23 rfl hl2 ?_
        refine g_ishl C d_Gr_worthy_24 ?_
        refine g_goto (tgt := 29) C d_Gr_worthy_25 (by decide) ?_
        exact t_Gr_worthy_B29 C N _ ih _ _ _ _ _ hl0 hl2 hf
set_option maxHeartbeats 4000000 in
theorem t_Gr_worthy {l : Launch} {ad : Nat → Nat} {dA : Nat → ClassId} {D : va_G} (hi : Inj SHX ad) {N : Nat}   {μ μ' : Mm} {r : Int32} (hf : f_Gr_worthy N  μ = some (r, μ')) : Ct CLS l SHX ad dA D y_Gr_worthy c_Gr_worthy 3 (some .int) 0 [.ref (ad 6)] μ (some (.int r)) μ' := by
  unfold f_Gr_worthy at hf
  refine ct_of (by decide) hi (Nat.le_of_ble_eq_true rfl) ?_
  intro p e s m args below meth c C
  refine g_iconst (v := 0) C d_Gr_worthy_0 (by decide) ?_
  refine g_istore_n C d_Gr_worthy_1 rfl (by decide) ?_
  refine g_iconst (v := 0) C d_Gr_worthy_2 (by decide) ?_
  refine g_istore_n C d_Gr_worthy_3 rfl (by decide) ?_
  exact t_Gr_worthy_L4 C N N _ _ _ _ ((upG (upG rfl rfl) rfl)) ((upG upS rfl)) upS hf
set_option maxHeartbeats 4000000 in
theorem t_Gr_mixInto_B99 {ad : Nat → Nat} {dA : Nat → ClassId} {D : va_G} {p : Program} {l : Launch} {e : Env} {s : State} {m : MethodId} {args : Array Value} {below : List Frame} {meth : Method} {c : Code} {r : Int64} {μ' : Mm} (C : Cx CLS SHX ad dA D p s m args meth c c_Gr_mixInto 7 R_Gr (some .long)) (N : Nat)   (k60 : Int64 → Int32 → Mm → Option (Int64 × Mm)) (hk60 : ∀ (v3 : Int64) (v5 : Int32) (μ : Mm) (lv : Nat → Option Value), lv 0 = some (.ref (ad 6)) → lv 3 = some (.long v3) → lv 5 = some (.int v5) → k60 v3 v5 μ = some (r, μ') → Go CLS SHX ad dA D p l e (rmD 1) s m args below meth c 7 (some (.long r)) μ' 60 lv [] μ) : ∀ (v5 : Int32) (s0 : Int64) (s1 : Int32) (μ : Mm) (lv : Nat → Option Value), lv 0 = some (.ref (ad 6)) → lv 5 = some (.int v5) → f_Gr_mixInto_B99 N k60 v5 s0 s1 μ = some (r, μ') → Go CLS SHX ad dA D p l e (rmD 1) s m args below meth c 7 (some (.long r)) μ' 99 lv [.int s1, .long s0] μ := by
  intro v5 s0 s1 μ lv hl0 hl5 hf
  unfold f_Gr_mixInto_B99 at hf
  refine g_i2l C d_Gr_mixInto_99 ?_
  refine g_ladd C d_Gr_mixInto_100 ?_
  refine g_lstore_n C d_Gr_mixInto_101 rfl (by decide) ?_
  refine g_iinc (v := 1) C d_Gr_mixInto_102 (upG hl5 rfl) (by decide) (by decide) ?_
  refine g_goto (tgt := 60) C d_Gr_mixInto_105 (by decide) ?_
  exact hk60 _ _ _ _ ((upG (upG hl0 rfl) rfl)) ((upG upS rfl)) upS hf
set_option maxHeartbeats 4000000 in
theorem t_Gr_mixInto_L60 {ad : Nat → Nat} {dA : Nat → ClassId} {D : va_G} {p : Program} {l : Launch} {e : Env} {s : State} {m : MethodId} {args : Array Value} {below : List Frame} {meth : Method} {c : Code} {r : Int64} {μ' : Mm} (C : Cx CLS SHX ad dA D p s m args meth c c_Gr_mixInto 7 R_Gr (some .long)) (N : Nat)   : ∀ (n : Nat) (v3 : Int64) (v5 : Int32) (μ : Mm) (lv : Nat → Option Value), lv 0 = some (.ref (ad 6)) → lv 3 = some (.long v3) → lv 5 = some (.int v5) → f_Gr_mixInto_L60 N n v3 v5 μ = some (r, μ') → Go CLS SHX ad dA D p l e (rmD 1) s m args below meth c 7 (some (.long r)) μ' 60 lv [] μ := by
  intro n
  induction n with
  | zero => intro v3 v5 μ lv hl0 hl3 hl5 hf; cases (show none = some _ from hf)
  | succ n ih =>
    intro v3 v5 μ lv hl0 hl3 hl5 hf
    unfold f_Gr_mixInto_L60 at hf
    refine g_iload C d_Gr_mixInto_60 hl5 ?_
    refine g_aload_n C d_Gr_mixInto_62 rfl hl0 ?_
    refine g_getI (k := 1) C k_Gr (by decide) fl_Gr_15 rfl rfl d_Gr_mixInto_63 ?_
    refine g_icmp_ge (tgt := 108) C d_Gr_mixInto_66 (by decide) hf (fun c9 hf => ?_) (fun c9 hf => ?_)
    · refine g_lload_n C d_Gr_mixInto_108 rfl hl3 ?_
      exact g_lret C d_Gr_mixInto_109 hf
    · refine g_ldc2 C cl_Gr_64 d_Gr_mixInto_69 ?_
      refine g_lload_n C d_Gr_mixInto_72 rfl hl3 ?_
      refine g_lmul C d_Gr_mixInto_73 ?_
      refine g_aload_n C d_Gr_mixInto_74 rfl hl0 ?_
      refine g_getR (b := 8) (k := 6) C k_Gr (by decide) fl_Gr_31 rfl rfl d_Gr_mixInto_75 ?_
      refine g_iload C d_Gr_mixInto_78 hl5 ?_
      refine g_iald C rfl d_Gr_mixInto_80 hf (fun hf => ?_)
      refine g_i2l C d_Gr_mixInto_81 ?_
      refine g_ladd C d_Gr_mixInto_82 ?_
      refine g_aload_n C d_Gr_mixInto_83 rfl hl0 ?_
      refine g_getR (b := 9) (k := 7) C k_Gr (by decide) fl_Gr_34 rfl rfl d_Gr_mixInto_84 ?_
      refine g_iload C d_Gr_mixInto_87 hl5 ?_
      refine g_zald C rfl d_Gr_mixInto_89 hf (fun hf => ?_)
      refine g_if_eq (tgt := 98) C d_Gr_mixInto_90 (by decide) hf (fun c10 hf => ?_) (fun c10 hf => ?_)
      · refine g_iconst (v := 0) C d_Gr_mixInto_98 (by decide) ?_
        exact t_Gr_mixInto_B99 C N _ ih _ _ _ _ _ hl0 hl5 hf
      · refine g_bipush (v := 10) C d_Gr_mixInto_93 (by decide) ?_
        refine g_goto (tgt := 99) C d_Gr_mixInto_95 (by decide) ?_
        exact t_Gr_mixInto_B99 C N _ ih _ _ _ _ _ hl0 hl5 hf
set_option maxHeartbeats 4000000 in
theorem t_Gr_mixInto_B57 {ad : Nat → Nat} {dA : Nat → ClassId} {D : va_G} {p : Program} {l : Launch} {e : Env} {s : State} {m : MethodId} {args : Array Value} {below : List Frame} {meth : Method} {c : Code} {r : Int64} {μ' : Mm} (C : Cx CLS SHX ad dA D p s m args meth c c_Gr_mixInto 7 R_Gr (some .long)) (N : Nat)   : ∀ (v3 : Int64) (μ : Mm) (lv : Nat → Option Value), lv 0 = some (.ref (ad 6)) → lv 3 = some (.long v3) → f_Gr_mixInto_B57 N v3 μ = some (r, μ') → Go CLS SHX ad dA D p l e (rmD 1) s m args below meth c 7 (some (.long r)) μ' 57 lv [] μ := by
  intro v3 μ lv hl0 hl3 hf
  unfold f_Gr_mixInto_B57 at hf
  refine g_iconst (v := 0) C d_Gr_mixInto_57 (by decide) ?_
  refine g_istore C d_Gr_mixInto_58 (by decide) ?_
  exact t_Gr_mixInto_L60 C N N _ _ _ _ ((upG hl0 rfl)) ((upG hl3 rfl)) upS hf
set_option maxHeartbeats 4000000 in
theorem t_Gr_mixInto_B51 {ad : Nat → Nat} {dA : Nat → ClassId} {D : va_G} {p : Program} {l : Launch} {e : Env} {s : State} {m : MethodId} {args : Array Value} {below : List Frame} {meth : Method} {c : Code} {r : Int64} {μ' : Mm} (C : Cx CLS SHX ad dA D p s m args meth c c_Gr_mixInto 7 R_Gr (some .long)) (N : Nat)   (k5 : Int64 → Int32 → Mm → Option (Int64 × Mm)) (hk5 : ∀ (v3 : Int64) (v5 : Int32) (μ : Mm) (lv : Nat → Option Value), lv 0 = some (.ref (ad 6)) → lv 3 = some (.long v3) → lv 5 = some (.int v5) → k5 v3 v5 μ = some (r, μ') → Go CLS SHX ad dA D p l e (rmD 1) s m args below meth c 7 (some (.long r)) μ' 5 lv [] μ) : ∀ (v3 : Int64) (v5 : Int32) (μ : Mm) (lv : Nat → Option Value), lv 0 = some (.ref (ad 6)) → lv 3 = some (.long v3) → lv 5 = some (.int v5) → f_Gr_mixInto_B51 N k5 v3 v5 μ = some (r, μ') → Go CLS SHX ad dA D p l e (rmD 1) s m args below meth c 7 (some (.long r)) μ' 51 lv [] μ := by
  intro v3 v5 μ lv hl0 hl3 hl5 hf
  unfold f_Gr_mixInto_B51 at hf
  refine g_iinc (v := 1) C d_Gr_mixInto_51 hl5 (by decide) (by decide) ?_
  refine g_goto (tgt := 5) C d_Gr_mixInto_54 (by decide) ?_
  exact hk5 _ _ _ _ ((upG hl0 rfl)) ((upG hl3 rfl)) upS hf
set_option maxHeartbeats 4000000 in
theorem t_Gr_mixInto_L20 {ad : Nat → Nat} {dA : Nat → ClassId} {D : va_G} {p : Program} {l : Launch} {e : Env} {s : State} {m : MethodId} {args : Array Value} {below : List Frame} {meth : Method} {c : Code} {r : Int64} {μ' : Mm} (C : Cx CLS SHX ad dA D p s m args meth c c_Gr_mixInto 7 R_Gr (some .long)) (N : Nat)   (k5 : Int64 → Int32 → Mm → Option (Int64 × Mm)) (hk5 : ∀ (v3 : Int64) (v5 : Int32) (μ : Mm) (lv : Nat → Option Value), lv 0 = some (.ref (ad 6)) → lv 3 = some (.long v3) → lv 5 = some (.int v5) → k5 v3 v5 μ = some (r, μ') → Go CLS SHX ad dA D p l e (rmD 1) s m args below meth c 7 (some (.long r)) μ' 5 lv [] μ) : ∀ (n : Nat) (v3 : Int64) (v5 : Int32) (v6 : Int32) (μ : Mm) (lv : Nat → Option Value), lv 0 = some (.ref (ad 6)) → lv 3 = some (.long v3) → lv 5 = some (.int v5) → lv 6 = some (.int v6) → f_Gr_mixInto_L20 N k5 n v3 v5 v6 μ = some (r, μ') → Go CLS SHX ad dA D p l e (rmD 1) s m args below meth c 7 (some (.long r)) μ' 20 lv [] μ := by
  intro n
  induction n with
  | zero => intro v3 v5 v6 μ lv hl0 hl3 hl5 hl6 hf; cases (show none = some _ from hf)
  | succ n ih =>
    intro v3 v5 v6 μ lv hl0 hl3 hl5 hl6 hf
    unfold f_Gr_mixInto_L20 at hf
    refine g_iload C d_Gr_mixInto_20 hl6 ?_
    refine g_aload_n C d_Gr_mixInto_22 rfl hl0 ?_
    refine g_getI (k := 1) C k_Gr (by decide) fl_Gr_15 rfl rfl d_Gr_mixInto_23 ?_
    refine g_icmp_ge (tgt := 51) C d_Gr_mixInto_26 (by decide) hf (fun c3 hf => ?_) (fun c3 hf => ?_)
    · exact t_Gr_mixInto_B51 C N _ hk5 _ _ _ _ hl0 hl3 hl5 hf
    · refine g_ldc2 C cl_Gr_64 d_Gr_mixInto_29 ?_
      refine g_lload_n C d_Gr_mixInto_32 rfl hl3 ?_
      refine g_lmul C d_Gr_mixInto_33 ?_
      refine g_aload_n C d_Gr_mixInto_34 rfl hl0 ?_
      refine g_iload C d_Gr_mixInto_35 hl5 ?_
      refine g_iload C d_Gr_mixInto_37 hl6 ?_
      refine g_cvI C k_Gr rfl mv_Gr_lengthOf ml_Gr_52 d_Gr_mixInto_39 hf (fun r μ1 h => t_Gr_lengthOf C.2.2.2.2.2.2.2.2.1 h) rfl rfl (by decide) (Nat.le_of_ble_eq_true rfl) (fun r5 μ4 hf => ?_)
      refine g_i2l C d_Gr_mixInto_42 ?_
      refine g_ladd C d_Gr_mixInto_43 ?_
      refine g_lstore_n C d_Gr_mixInto_44 rfl (by decide) ?_
      refine g_iinc (v := 1) C d_Gr_mixInto_45 (upG hl6 rfl) (by decide) (by decide) ?_
      refine g_goto (tgt := 20) C d_Gr_mixInto_48 (by decide) ?_
      exact ih _ _ _ _ _ ((upG (upG hl0 rfl) rfl)) ((upG upS rfl)) ((upG (upG hl5 rfl) rfl)) upS hf
set_option maxHeartbeats 4000000 in
theorem t_Gr_mixInto_L5 {ad : Nat → Nat} {dA : Nat → ClassId} {D : va_G} {p : Program} {l : Launch} {e : Env} {s : State} {m : MethodId} {args : Array Value} {below : List Frame} {meth : Method} {c : Code} {r : Int64} {μ' : Mm} (C : Cx CLS SHX ad dA D p s m args meth c c_Gr_mixInto 7 R_Gr (some .long)) (N : Nat)   : ∀ (n : Nat) (v3 : Int64) (v5 : Int32) (μ : Mm) (lv : Nat → Option Value), lv 0 = some (.ref (ad 6)) → lv 3 = some (.long v3) → lv 5 = some (.int v5) → f_Gr_mixInto_L5 N n v3 v5 μ = some (r, μ') → Go CLS SHX ad dA D p l e (rmD 1) s m args below meth c 7 (some (.long r)) μ' 5 lv [] μ := by
  intro n
  induction n with
  | zero => intro v3 v5 μ lv hl0 hl3 hl5 hf; cases (show none = some _ from hf)
  | succ n ih =>
    intro v3 v5 μ lv hl0 hl3 hl5 hf
    unfold f_Gr_mixInto_L5 at hf
    refine g_iload C d_Gr_mixInto_5 hl5 ?_
    refine g_aload_n C d_Gr_mixInto_7 rfl hl0 ?_
    refine g_getI (k := 1) C k_Gr (by decide) fl_Gr_15 rfl rfl d_Gr_mixInto_8 ?_
    refine g_icmp_ge (tgt := 57) C d_Gr_mixInto_11 (by decide) hf (fun c1 hf => ?_) (fun c1 hf => ?_)
    · exact t_Gr_mixInto_B57 C N _ _ _ hl0 hl3 hf
    · refine g_iload C d_Gr_mixInto_14 hl5 ?_
      refine g_iconst (v := 1) C d_Gr_mixInto_16 (by decide) ?_
      refine g_iadd C d_Gr_mixInto_17 ?_
      refine g_istore C d_Gr_mixInto_18 (by decide) ?_
      exact t_Gr_mixInto_L20 C N _ ih N _ _ _ _ _ ((upG hl0 rfl)) ((upG hl3 rfl)) ((upG hl5 rfl)) upS hf
set_option maxHeartbeats 4000000 in
theorem t_Gr_mixInto {l : Launch} {ad : Nat → Nat} {dA : Nat → ClassId} {D : va_G} (hi : Inj SHX ad) {N : Nat} {a1 : Int64}  {μ μ' : Mm} {r : Int64} (hf : f_Gr_mixInto N a1 μ = some (r, μ')) : Ct CLS l SHX ad dA D y_Gr_mixInto c_Gr_mixInto 7 (some .long) 1 [.ref (ad 6), .long a1] μ (some (.long r)) μ' := by
  unfold f_Gr_mixInto at hf
  refine ct_of (by decide) hi (Nat.le_of_ble_eq_true rfl) ?_
  intro p e s m args below meth c C
  refine g_lload_n C d_Gr_mixInto_0 rfl rfl ?_
  refine g_lstore_n C d_Gr_mixInto_1 rfl (by decide) ?_
  refine g_iconst (v := 0) C d_Gr_mixInto_2 (by decide) ?_
  refine g_istore C d_Gr_mixInto_3 (by decide) ?_
  exact t_Gr_mixInto_L5 C N N _ _ _ _ ((upG (upG rfl rfl) rfl)) ((upG upS rfl)) upS hf
set_option maxHeartbeats 4000000 in
theorem t_Jm_max_f86c9 {CL : List vw_C} {SH : List Shp} {l : Launch} {ad : Nat → Nat} {dA : Nat → ClassId} {D : va_G} (hi : Inj SH ad) {N : Nat} {a1 : Int64} {a2 : Int64}  {μ μ' : Mm} {r : Int64} (hf : f_Jm_max_f86c9 N a1 a2 μ = some (r, μ')) : Ct CL l SH ad dA D y_Jm_max_f86c9 c_Jm_max_f86c9 4 (some .long) 0 [.long a1, .long a2] μ (some (.long r)) μ' := by
  unfold f_Jm_max_f86c9 at hf
  refine ct_ofF (by decide +kernel) hi (Nat.le_of_ble_eq_true rfl) ?_
  intro p e s m args below meth c C
  refine g_lload_n C d_Jm_max_f86c9_0 rfl rfl ?_
  refine g_lload_n C d_Jm_max_f86c9_1 rfl rfl ?_
  refine g_lcmp C d_Jm_max_f86c9_2 ?_
  refine g_if_lt (tgt := 10) C d_Jm_max_f86c9_3 (by decide) hf (fun c1 hf => ?_) (fun c1 hf => ?_)
  · refine g_lload_n C d_Jm_max_f86c9_10 rfl rfl ?_
    exact g_lret C d_Jm_max_f86c9_11 hf
  · refine g_lload_n C d_Jm_max_f86c9_6 rfl rfl ?_
    refine g_goto (tgt := 11) C d_Jm_max_f86c9_7 (by decide) ?_
    exact g_lret C d_Jm_max_f86c9_11 hf
set_option maxHeartbeats 4000000 in
theorem t_Jm_min_f86c9 {CL : List vw_C} {SH : List Shp} {l : Launch} {ad : Nat → Nat} {dA : Nat → ClassId} {D : va_G} (hi : Inj SH ad) {N : Nat} {a1 : Int64} {a2 : Int64}  {μ μ' : Mm} {r : Int64} (hf : f_Jm_min_f86c9 N a1 a2 μ = some (r, μ')) : Ct CL l SH ad dA D y_Jm_min_f86c9 c_Jm_min_f86c9 4 (some .long) 0 [.long a1, .long a2] μ (some (.long r)) μ' := by
  unfold f_Jm_min_f86c9 at hf
  refine ct_ofF (by decide +kernel) hi (Nat.le_of_ble_eq_true rfl) ?_
  intro p e s m args below meth c C
  refine g_lload_n C d_Jm_min_f86c9_0 rfl rfl ?_
  refine g_lload_n C d_Jm_min_f86c9_1 rfl rfl ?_
  refine g_lcmp C d_Jm_min_f86c9_2 ?_
  refine g_if_gt (tgt := 10) C d_Jm_min_f86c9_3 (by decide) hf (fun c1 hf => ?_) (fun c1 hf => ?_)
  · refine g_lload_n C d_Jm_min_f86c9_10 rfl rfl ?_
    exact g_lret C d_Jm_min_f86c9_11 hf
  · refine g_lload_n C d_Jm_min_f86c9_6 rfl rfl ?_
    refine g_goto (tgt := 11) C d_Jm_min_f86c9_7 (by decide) ?_
    exact g_lret C d_Jm_min_f86c9_11 hf
set_option maxHeartbeats 4000000 in
theorem t_Me_sameWay_B112 {ad : Nat → Nat} {dA : Nat → ClassId} {D : va_G} {p : Program} {l : Launch} {e : Env} {s : State} {m : MethodId} {args : Array Value} {below : List Frame} {meth : Method} {c : Code} {r : Int64} {μ' : Mm} (C : Cx CLS SHX ad dA D p s m args meth c c_Me_sameWay 9 R_Me (some .long)) (N : Nat)   : ∀  (μ : Mm) (lv : Nat → Option Value), f_Me_sameWay_B112 N μ = some (r, μ') → Go CLS SHX ad dA D p l e (rmD 0) s m args below meth c 9 (some (.long r)) μ' 112 lv [] μ := by
  intro μ lv hf
  unfold f_Me_sameWay_B112 at hf
  refine g_ldc2 C cl_Me_57 d_Me_sameWay_112 ?_
  exact g_lret C d_Me_sameWay_115 hf
set_option maxHeartbeats 4000000 in
theorem t_Me_sameWay {l : Launch} {ad : Nat → Nat} {dA : Nat → ClassId} {D : va_G} (hi : Inj SHX ad) {N : Nat} {a1 : Int64} {a2 : Int64}  {μ μ' : Mm} {r : Int64} (hf : f_Me_sameWay N a1 a2 μ = some (r, μ')) : Ct CLS l SHX ad dA D y_Me_sameWay c_Me_sameWay 9 (some .long) 0 [.ref (ad 71), .long a1, .long a2] μ (some (.long r)) μ' := by
  unfold f_Me_sameWay at hf
  refine ct_of (by decide) hi (Nat.le_of_ble_eq_true rfl) ?_
  intro p e s m args below meth c C
  refine g_aload_n C d_Me_sameWay_0 rfl rfl ?_
  refine g_getR (b := 72) (k := 1) C k_Me (by decide) fl_Me_30 rfl rfl d_Me_sameWay_1 ?_
  refine g_getI (k := 5) C k_St (by decide) fl_Me_90 rfl rfl d_Me_sameWay_4 ?_
  refine g_aload_n C d_Me_sameWay_7 rfl rfl ?_
  refine g_getR (b := 73) (k := 2) C k_Me (by decide) fl_Me_34 rfl rfl d_Me_sameWay_8 ?_
  refine g_getI (k := 5) C k_St (by decide) fl_Me_90 rfl rfl d_Me_sameWay_11 ?_
  refine g_isub C d_Me_sameWay_14 ?_
  refine g_i2l C d_Me_sameWay_15 ?_
  refine g_lstore C d_Me_sameWay_16 (by decide) ?_
  refine g_lload C d_Me_sameWay_18 upS ?_
  refine g_lconst (v := 0) C d_Me_sameWay_20 (by decide) ?_
  refine g_lcmp C d_Me_sameWay_21 ?_
  refine g_if_ne (tgt := 51) C d_Me_sameWay_22 (by decide) hf (fun c2 hf => ?_) (fun c2 hf => ?_)
  · refine g_aload_n C d_Me_sameWay_25 rfl (upG rfl rfl) ?_
    refine g_getR (b := 72) (k := 1) C k_Me (by decide) fl_Me_30 rfl rfl d_Me_sameWay_26 ?_
    refine g_getL (k := 7) C k_St (by decide) fl_Me_78 rfl rfl d_Me_sameWay_29 ?_
    refine g_aload_n C d_Me_sameWay_32 rfl (upG rfl rfl) ?_
    refine g_getR (b := 73) (k := 2) C k_Me (by decide) fl_Me_34 rfl rfl d_Me_sameWay_33 ?_
    refine g_getL (k := 7) C k_St (by decide) fl_Me_78 rfl rfl d_Me_sameWay_36 ?_
    refine g_lcmp C d_Me_sameWay_39 ?_
    refine g_if_ne (tgt := 47) C d_Me_sameWay_40 (by decide) hf (fun c3 hf => ?_) (fun c3 hf => ?_)
    · refine g_lload_n C d_Me_sameWay_43 rfl (upG rfl rfl) ?_
      refine g_goto (tgt := 50) C d_Me_sameWay_44 (by decide) ?_
      exact g_lret C d_Me_sameWay_50 hf
    · refine g_ldc2 C cl_Me_57 d_Me_sameWay_47 ?_
      exact g_lret C d_Me_sameWay_50 hf
  · refine g_aload_n C d_Me_sameWay_51 rfl (upG rfl rfl) ?_
    refine g_getR (b := 72) (k := 1) C k_Me (by decide) fl_Me_30 rfl rfl d_Me_sameWay_52 ?_
    refine g_getI (k := 5) C k_St (by decide) fl_Me_90 rfl rfl d_Me_sameWay_55 ?_
    refine g_i2l C d_Me_sameWay_58 ?_
    refine g_aload_n C d_Me_sameWay_59 rfl (upG rfl rfl) ?_
    refine g_getR (b := 72) (k := 1) C k_Me (by decide) fl_Me_30 rfl rfl d_Me_sameWay_60 ?_
    refine g_getL (k := 7) C k_St (by decide) fl_Me_78 rfl rfl d_Me_sameWay_63 ?_
    refine g_lmul C d_Me_sameWay_66 ?_
    refine g_aload_n C d_Me_sameWay_67 rfl (upG rfl rfl) ?_
    refine g_getR (b := 73) (k := 2) C k_Me (by decide) fl_Me_34 rfl rfl d_Me_sameWay_68 ?_
    refine g_getI (k := 5) C k_St (by decide) fl_Me_90 rfl rfl d_Me_sameWay_71 ?_
    refine g_i2l C d_Me_sameWay_74 ?_
    refine g_aload_n C d_Me_sameWay_75 rfl (upG rfl rfl) ?_
    refine g_getR (b := 73) (k := 2) C k_Me (by decide) fl_Me_34 rfl rfl d_Me_sameWay_76 ?_
    refine g_getL (k := 7) C k_St (by decide) fl_Me_78 rfl rfl d_Me_sameWay_79 ?_
    refine g_lmul C d_Me_sameWay_82 ?_
    refine g_lsub C d_Me_sameWay_83 ?_
    refine g_ldc2 C cl_Me_41 d_Me_sameWay_84 ?_
    refine g_lload C d_Me_sameWay_87 upS ?_
    refine g_ldiv C d_Me_sameWay_89 hf (fun hf => ?_)
    refine g_lmul C d_Me_sameWay_90 ?_
    refine g_lstore C d_Me_sameWay_91 (by decide) ?_
    refine g_lload C d_Me_sameWay_93 upS ?_
    refine g_lload_n C d_Me_sameWay_95 rfl (upG (upG rfl rfl) rfl) ?_
    refine g_lcmp C d_Me_sameWay_96 ?_
    refine g_if_lt (tgt := 112) C d_Me_sameWay_97 (by decide) hf (fun c5 hf => ?_) (fun c5 hf => ?_)
    · exact t_Me_sameWay_B112 C N _ _ hf
    · refine g_lload C d_Me_sameWay_100 upS ?_
      refine g_lload_n C d_Me_sameWay_102 rfl (upG (upG rfl rfl) rfl) ?_
      refine g_lcmp C d_Me_sameWay_103 ?_
      refine g_if_ge (tgt := 112) C d_Me_sameWay_104 (by decide) hf (fun c6 hf => ?_) (fun c6 hf => ?_)
      · exact t_Me_sameWay_B112 C N _ _ hf
      · refine g_lload C d_Me_sameWay_107 upS ?_
        refine g_goto (tgt := 115) C d_Me_sameWay_109 (by decide) ?_
        exact g_lret C d_Me_sameWay_115 hf
set_option maxHeartbeats 4000000 in
theorem t_Me_towards_B119 {ad : Nat → Nat} {dA : Nat → ClassId} {D : va_G} {p : Program} {l : Launch} {e : Env} {s : State} {m : MethodId} {args : Array Value} {below : List Frame} {meth : Method} {c : Code} {r : Int64} {μ' : Mm} (C : Cx CLS SHX ad dA D p s m args meth c c_Me_towards 11 R_Me (some .long)) (N : Nat)   : ∀  (μ : Mm) (lv : Nat → Option Value), f_Me_towards_B119 N μ = some (r, μ') → Go CLS SHX ad dA D p l e (rmD 0) s m args below meth c 11 (some (.long r)) μ' 119 lv [] μ := by
  intro μ lv hf
  unfold f_Me_towards_B119 at hf
  refine g_ldc2 C cl_Me_57 d_Me_towards_119 ?_
  exact g_lret C d_Me_towards_122 hf
set_option maxHeartbeats 4000000 in
theorem t_Me_towards {l : Launch} {ad : Nat → Nat} {dA : Nat → ClassId} {D : va_G} (hi : Inj SHX ad) {N : Nat} {a1 : Int64} {a2 : Int64}  {μ μ' : Mm} {r : Int64} (hf : f_Me_towards N a1 a2 μ = some (r, μ')) : Ct CLS l SHX ad dA D y_Me_towards c_Me_towards 11 (some .long) 0 [.ref (ad 71), .long a1, .long a2] μ (some (.long r)) μ' := by
  unfold f_Me_towards at hf
  refine ct_of (by decide) hi (Nat.le_of_ble_eq_true rfl) ?_
  intro p e s m args below meth c C
  refine g_aload_n C d_Me_towards_0 rfl rfl ?_
  refine g_getR (b := 72) (k := 1) C k_Me (by decide) fl_Me_30 rfl rfl d_Me_towards_1 ?_
  refine g_getI (k := 5) C k_St (by decide) fl_Me_90 rfl rfl d_Me_towards_4 ?_
  refine g_aload_n C d_Me_towards_7 rfl rfl ?_
  refine g_getR (b := 73) (k := 2) C k_Me (by decide) fl_Me_34 rfl rfl d_Me_towards_8 ?_
  refine g_getI (k := 5) C k_St (by decide) fl_Me_90 rfl rfl d_Me_towards_11 ?_
  refine g_iadd C d_Me_towards_14 ?_
  refine g_i2l C d_Me_towards_15 ?_
  refine g_lstore C d_Me_towards_16 (by decide) ?_
  refine g_lload C d_Me_towards_18 upS ?_
  refine g_lconst (v := 1) C d_Me_towards_20 (by decide) ?_
  refine g_lcmp C d_Me_towards_21 ?_
  refine g_if_ge (tgt := 29) C d_Me_towards_22 (by decide) hf (fun c2 hf => ?_) (fun c2 hf => ?_)
  · refine g_aload_n C d_Me_towards_29 rfl (upG rfl rfl) ?_
    refine g_getR (b := 72) (k := 1) C k_Me (by decide) fl_Me_30 rfl rfl d_Me_towards_30 ?_
    refine g_getI (k := 5) C k_St (by decide) fl_Me_90 rfl rfl d_Me_towards_33 ?_
    refine g_i2l C d_Me_towards_36 ?_
    refine g_aload_n C d_Me_towards_37 rfl (upG rfl rfl) ?_
    refine g_getR (b := 72) (k := 1) C k_Me (by decide) fl_Me_30 rfl rfl d_Me_towards_38 ?_
    refine g_getL (k := 8) C k_St (by decide) fl_Me_63 rfl rfl d_Me_towards_41 ?_
    refine g_aload_n C d_Me_towards_44 rfl (upG rfl rfl) ?_
    refine g_getR (b := 72) (k := 1) C k_Me (by decide) fl_Me_30 rfl rfl d_Me_towards_45 ?_
    refine g_getL (k := 7) C k_St (by decide) fl_Me_78 rfl rfl d_Me_towards_48 ?_
    refine g_lsub C d_Me_towards_51 ?_
    refine g_lmul C d_Me_towards_52 ?_
    refine g_lstore C d_Me_towards_53 (by decide) ?_
    refine g_lload C d_Me_towards_55 upS ?_
    refine g_aload_n C d_Me_towards_57 rfl (upG (upG rfl rfl) rfl) ?_
    refine g_getR (b := 72) (k := 1) C k_Me (by decide) fl_Me_30 rfl rfl d_Me_towards_58 ?_
    refine g_getI (k := 5) C k_St (by decide) fl_Me_90 rfl rfl d_Me_towards_61 ?_
    refine g_i2l C d_Me_towards_64 ?_
    refine g_aload_n C d_Me_towards_65 rfl (upG (upG rfl rfl) rfl) ?_
    refine g_getR (b := 72) (k := 1) C k_Me (by decide) fl_Me_30 rfl rfl d_Me_towards_66 ?_
    refine g_getL (k := 7) C k_St (by decide) fl_Me_78 rfl rfl d_Me_towards_69 ?_
    refine g_lmul C d_Me_towards_72 ?_
    refine g_ladd C d_Me_towards_73 ?_
    refine g_aload_n C d_Me_towards_74 rfl (upG (upG rfl rfl) rfl) ?_
    refine g_getR (b := 73) (k := 2) C k_Me (by decide) fl_Me_34 rfl rfl d_Me_towards_75 ?_
    refine g_getI (k := 5) C k_St (by decide) fl_Me_90 rfl rfl d_Me_towards_78 ?_
    refine g_i2l C d_Me_towards_81 ?_
    refine g_aload_n C d_Me_towards_82 rfl (upG (upG rfl rfl) rfl) ?_
    refine g_getR (b := 73) (k := 2) C k_Me (by decide) fl_Me_34 rfl rfl d_Me_towards_83 ?_
    refine g_getL (k := 7) C k_St (by decide) fl_Me_78 rfl rfl d_Me_towards_86 ?_
    refine g_lmul C d_Me_towards_89 ?_
    refine g_ladd C d_Me_towards_90 ?_
    refine g_ldc2 C cl_Me_41 d_Me_towards_91 ?_
    refine g_lload C d_Me_towards_94 (upG upS rfl) ?_
    refine g_ldiv C d_Me_towards_96 hf (fun hf => ?_)
    refine g_lmul C d_Me_towards_97 ?_
    refine g_lstore C d_Me_towards_98 (by decide) ?_
    refine g_lload C d_Me_towards_100 upS ?_
    refine g_lload_n C d_Me_towards_102 rfl (upG (upG (upG rfl rfl) rfl) rfl) ?_
    refine g_lcmp C d_Me_towards_103 ?_
    refine g_if_lt (tgt := 119) C d_Me_towards_104 (by decide) hf (fun c5 hf => ?_) (fun c5 hf => ?_)
    · exact t_Me_towards_B119 C N _ _ hf
    · refine g_lload C d_Me_towards_107 upS ?_
      refine g_lload_n C d_Me_towards_109 rfl (upG (upG (upG rfl rfl) rfl) rfl) ?_
      refine g_lcmp C d_Me_towards_110 ?_
      refine g_if_ge (tgt := 119) C d_Me_towards_111 (by decide) hf (fun c6 hf => ?_) (fun c6 hf => ?_)
      · exact t_Me_towards_B119 C N _ _ hf
      · refine g_lload C d_Me_towards_114 upS ?_
        refine g_goto (tgt := 122) C d_Me_towards_116 (by decide) ?_
        exact g_lret C d_Me_towards_122 hf
  · refine g_ldc2 C cl_Me_57 d_Me_towards_25 ?_
    exact g_lret C d_Me_towards_28 hf
set_option maxHeartbeats 4000000 in
theorem t_Me_together_B189 {ad : Nat → Nat} {dA : Nat → ClassId} {D : va_G} {p : Program} {l : Launch} {e : Env} {s : State} {m : MethodId} {args : Array Value} {below : List Frame} {meth : Method} {c : Code} {r : Int64} {μ' : Mm} (C : Cx CLS SHX ad dA D p s m args meth c c_Me_together 7 R_Me (some .long)) (N : Nat)   : ∀  (μ : Mm) (lv : Nat → Option Value), f_Me_together_B189 N μ = some (r, μ') → Go CLS SHX ad dA D p l e (rmD 1) s m args below meth c 7 (some (.long r)) μ' 189 lv [] μ := by
  intro μ lv hf
  unfold f_Me_together_B189 at hf
  refine g_ldc2 C cl_Me_57 d_Me_together_189 ?_
  exact g_lret C d_Me_together_192 hf
set_option maxHeartbeats 4000000 in
theorem t_Me_together_B147 {ad : Nat → Nat} {dA : Nat → ClassId} {D : va_G} {p : Program} {l : Launch} {e : Env} {s : State} {m : MethodId} {args : Array Value} {below : List Frame} {meth : Method} {c : Code} {r : Int64} {μ' : Mm} (C : Cx CLS SHX ad dA D p s m args meth c c_Me_together 7 R_Me (some .long)) (N : Nat)   : ∀ (v3 : Int64) (v5 : Int64) (μ : Mm) (lv : Nat → Option Value), lv 0 = some (.ref (ad 71)) → lv 3 = some (.long v3) → lv 5 = some (.long v5) → f_Me_together_B147 N v3 v5 μ = some (r, μ') → Go CLS SHX ad dA D p l e (rmD 1) s m args below meth c 7 (some (.long r)) μ' 147 lv [] μ := by
  intro v3 v5 μ lv hl0 hl3 hl5 hf
  unfold f_Me_together_B147 at hf
  refine g_aload_n C d_Me_together_147 rfl hl0 ?_
  refine g_getR (b := 72) (k := 1) C k_Me (by decide) fl_Me_30 rfl rfl d_Me_together_148 ?_
  refine g_getI (k := 3) C k_St (by decide) fl_Me_74 rfl rfl d_Me_together_151 ?_
  refine g_aload_n C d_Me_together_154 rfl hl0 ?_
  refine g_getR (b := 73) (k := 2) C k_Me (by decide) fl_Me_34 rfl rfl d_Me_together_155 ?_
  refine g_getI (k := 4) C k_St (by decide) fl_Me_81 rfl rfl d_Me_together_158 ?_
  refine g_icmp_ne (tgt := 189) C d_Me_together_161 (by decide) hf (fun c17 hf => ?_) (fun c17 hf => ?_)
  · refine g_aload_n C d_Me_together_164 rfl hl0 ?_
    refine g_getR (b := 72) (k := 1) C k_Me (by decide) fl_Me_30 rfl rfl d_Me_together_165 ?_
    refine g_getI (k := 4) C k_St (by decide) fl_Me_81 rfl rfl d_Me_together_168 ?_
    refine g_aload_n C d_Me_together_171 rfl hl0 ?_
    refine g_getR (b := 73) (k := 2) C k_Me (by decide) fl_Me_34 rfl rfl d_Me_together_172 ?_
    refine g_getI (k := 3) C k_St (by decide) fl_Me_74 rfl rfl d_Me_together_175 ?_
    refine g_icmp_ne (tgt := 189) C d_Me_together_178 (by decide) hf (fun c18 hf => ?_) (fun c18 hf => ?_)
    · refine g_aload_n C d_Me_together_181 rfl hl0 ?_
      refine g_lload_n C d_Me_together_182 rfl hl3 ?_
      refine g_lload C d_Me_together_183 hl5 ?_
      refine g_cvL C k_Me rfl mv_Me_towards ml_Me_87 d_Me_together_185 hf (fun r μ1 h => t_Me_towards C.2.2.2.2.2.2.2.2.1 h) rfl rfl (by decide) (Nat.le_of_ble_eq_true rfl) (fun r20 μ19 hf => ?_)
      exact g_lret C d_Me_together_188 hf
    · exact t_Me_together_B189 C N _ _ hf
  · exact t_Me_together_B189 C N _ _ hf
set_option maxHeartbeats 4000000 in
theorem t_Me_together_B45 {ad : Nat → Nat} {dA : Nat → ClassId} {D : va_G} {p : Program} {l : Launch} {e : Env} {s : State} {m : MethodId} {args : Array Value} {below : List Frame} {meth : Method} {c : Code} {r : Int64} {μ' : Mm} (C : Cx CLS SHX ad dA D p s m args meth c c_Me_together 7 R_Me (some .long)) (N : Nat)   : ∀ (v1 : Int64) (μ : Mm) (lv : Nat → Option Value), lv 0 = some (.ref (ad 71)) → lv 1 = some (.long v1) → f_Me_together_B45 N v1 μ = some (r, μ') → Go CLS SHX ad dA D p l e (rmD 1) s m args below meth c 7 (some (.long r)) μ' 45 lv [] μ := by
  intro v1 μ lv hl0 hl1 hf
  unfold f_Me_together_B45 at hf
  refine g_lload_n C d_Me_together_45 rfl hl1 ?_
  refine g_aload_n C d_Me_together_46 rfl hl0 ?_
  refine g_getR (b := 72) (k := 1) C k_Me (by decide) fl_Me_30 rfl rfl d_Me_together_47 ?_
  refine g_getL (k := 7) C k_St (by decide) fl_Me_78 rfl rfl d_Me_together_50 ?_
  refine g_aload_n C d_Me_together_53 rfl hl0 ?_
  refine g_getR (b := 73) (k := 2) C k_Me (by decide) fl_Me_34 rfl rfl d_Me_together_54 ?_
  refine g_getL (k := 7) C k_St (by decide) fl_Me_78 rfl rfl d_Me_together_57 ?_
  refine g_csL C mv_Jm_max_f86c9 ml_Me_51 d_Me_together_60 hf (fun r μ1 h => t_Jm_max_f86c9 C.2.2.2.2.2.2.2.2.1 h) rfl rfl (by decide) (Nat.le_of_ble_eq_true rfl) (fun r6 μ5 hf => ?_)
  refine g_ldc2 C cl_Me_41 d_Me_together_63 ?_
  refine g_lmul C d_Me_together_66 ?_
  refine g_csL C mv_Jm_max_f86c9 ml_Me_51 d_Me_together_67 hf (fun r μ1 h => t_Jm_max_f86c9 C.2.2.2.2.2.2.2.2.1 h) rfl rfl (by decide) (Nat.le_of_ble_eq_true rfl) (fun r8 μ7 hf => ?_)
  refine g_lstore_n C d_Me_together_70 rfl (by decide) ?_
  refine g_aload_n C d_Me_together_71 rfl (upG hl0 rfl) ?_
  refine g_getR (b := 72) (k := 1) C k_Me (by decide) fl_Me_30 rfl rfl d_Me_together_72 ?_
  refine g_getL (k := 8) C k_St (by decide) fl_Me_63 rfl rfl d_Me_together_75 ?_
  refine g_aload_n C d_Me_together_78 rfl (upG hl0 rfl) ?_
  refine g_getR (b := 73) (k := 2) C k_Me (by decide) fl_Me_34 rfl rfl d_Me_together_79 ?_
  refine g_getL (k := 8) C k_St (by decide) fl_Me_63 rfl rfl d_Me_together_82 ?_
  refine g_csL C mv_Jm_min_f86c9 ml_Me_66 d_Me_together_85 hf (fun r μ1 h => t_Jm_min_f86c9 C.2.2.2.2.2.2.2.2.1 h) rfl rfl (by decide) (Nat.le_of_ble_eq_true rfl) (fun r10 μ9 hf => ?_)
  refine g_ldc2 C cl_Me_41 d_Me_together_88 ?_
  refine g_lmul C d_Me_together_91 ?_
  refine g_lstore C d_Me_together_92 (by decide) ?_
  refine g_lload_n C d_Me_together_94 rfl (upG upS rfl) ?_
  refine g_lload C d_Me_together_95 upS ?_
  refine g_lcmp C d_Me_together_97 ?_
  refine g_if_lt (tgt := 105) C d_Me_together_98 (by decide) hf (fun c12 hf => ?_) (fun c12 hf => ?_)
  · refine g_aload_n C d_Me_together_105 rfl (upG (upG hl0 rfl) rfl) ?_
    refine g_getR (b := 72) (k := 1) C k_Me (by decide) fl_Me_30 rfl rfl d_Me_together_106 ?_
    refine g_getI (k := 3) C k_St (by decide) fl_Me_74 rfl rfl d_Me_together_109 ?_
    refine g_aload_n C d_Me_together_112 rfl (upG (upG hl0 rfl) rfl) ?_
    refine g_getR (b := 73) (k := 2) C k_Me (by decide) fl_Me_34 rfl rfl d_Me_together_113 ?_
    refine g_getI (k := 3) C k_St (by decide) fl_Me_74 rfl rfl d_Me_together_116 ?_
    refine g_icmp_ne (tgt := 147) C d_Me_together_119 (by decide) hf (fun c13 hf => ?_) (fun c13 hf => ?_)
    · refine g_aload_n C d_Me_together_122 rfl (upG (upG hl0 rfl) rfl) ?_
      refine g_getR (b := 72) (k := 1) C k_Me (by decide) fl_Me_30 rfl rfl d_Me_together_123 ?_
      refine g_getI (k := 4) C k_St (by decide) fl_Me_81 rfl rfl d_Me_together_126 ?_
      refine g_aload_n C d_Me_together_129 rfl (upG (upG hl0 rfl) rfl) ?_
      refine g_getR (b := 73) (k := 2) C k_Me (by decide) fl_Me_34 rfl rfl d_Me_together_130 ?_
      refine g_getI (k := 4) C k_St (by decide) fl_Me_81 rfl rfl d_Me_together_133 ?_
      refine g_icmp_ne (tgt := 147) C d_Me_together_136 (by decide) hf (fun c14 hf => ?_) (fun c14 hf => ?_)
      · refine g_aload_n C d_Me_together_139 rfl (upG (upG hl0 rfl) rfl) ?_
        refine g_lload_n C d_Me_together_140 rfl (upG upS rfl) ?_
        refine g_lload C d_Me_together_141 upS ?_
        refine g_cvL C k_Me rfl mv_Me_sameWay ml_Me_84 d_Me_together_143 hf (fun r μ1 h => t_Me_sameWay C.2.2.2.2.2.2.2.2.1 h) rfl rfl (by decide) (Nat.le_of_ble_eq_true rfl) (fun r16 μ15 hf => ?_)
        exact g_lret C d_Me_together_146 hf
      · exact t_Me_together_B147 C N _ _ _ _ ((upG (upG hl0 rfl) rfl)) ((upG upS rfl)) upS hf
    · exact t_Me_together_B147 C N _ _ _ _ ((upG (upG hl0 rfl) rfl)) ((upG upS rfl)) upS hf
  · refine g_ldc2 C cl_Me_57 d_Me_together_101 ?_
    exact g_lret C d_Me_together_104 hf
set_option maxHeartbeats 4000000 in
theorem t_Me_together {l : Launch} {ad : Nat → Nat} {dA : Nat → ClassId} {D : va_G} (hi : Inj SHX ad) {N : Nat} {a1 : Int64}  {μ μ' : Mm} {r : Int64} (hf : f_Me_together N a1 μ = some (r, μ')) : Ct CLS l SHX ad dA D y_Me_together c_Me_together 7 (some .long) 1 [.ref (ad 71), .long a1] μ (some (.long r)) μ' := by
  unfold f_Me_together at hf
  refine ct_of (by decide) hi (Nat.le_of_ble_eq_true rfl) ?_
  intro p e s m args below meth c C
  refine g_aload_n C d_Me_together_0 rfl rfl ?_
  refine g_getR (b := 72) (k := 1) C k_Me (by decide) fl_Me_30 rfl rfl d_Me_together_1 ?_
  refine g_getI (k := 3) C k_St (by decide) fl_Me_74 rfl rfl d_Me_together_4 ?_
  refine g_aload_n C d_Me_together_7 rfl rfl ?_
  refine g_getR (b := 73) (k := 2) C k_Me (by decide) fl_Me_34 rfl rfl d_Me_together_8 ?_
  refine g_getI (k := 3) C k_St (by decide) fl_Me_74 rfl rfl d_Me_together_11 ?_
  refine g_icmp_ne (tgt := 45) C d_Me_together_14 (by decide) hf (fun c1 hf => ?_) (fun c1 hf => ?_)
  · refine g_lload_n C d_Me_together_17 rfl rfl ?_
    refine g_aload_n C d_Me_together_18 rfl rfl ?_
    refine g_getR (b := 72) (k := 1) C k_Me (by decide) fl_Me_30 rfl rfl d_Me_together_19 ?_
    refine g_getL (k := 7) C k_St (by decide) fl_Me_78 rfl rfl d_Me_together_22 ?_
    refine g_aload_n C d_Me_together_25 rfl rfl ?_
    refine g_getR (b := 73) (k := 2) C k_Me (by decide) fl_Me_34 rfl rfl d_Me_together_26 ?_
    refine g_getL (k := 7) C k_St (by decide) fl_Me_78 rfl rfl d_Me_together_29 ?_
    refine g_csL C mv_Jm_min_f86c9 ml_Me_66 d_Me_together_32 hf (fun r μ1 h => t_Jm_min_f86c9 C.2.2.2.2.2.2.2.2.1 h) rfl rfl (by decide) (Nat.le_of_ble_eq_true rfl) (fun r3 μ2 hf => ?_)
    refine g_ldc2 C cl_Me_41 d_Me_together_35 ?_
    refine g_lmul C d_Me_together_38 ?_
    refine g_lcmp C d_Me_together_39 ?_
    refine g_if_gt (tgt := 45) C d_Me_together_40 (by decide) hf (fun c4 hf => ?_) (fun c4 hf => ?_)
    · exact t_Me_together_B45 C N _ _ _ rfl rfl hf
    · refine g_lload_n C d_Me_together_43 rfl rfl ?_
      exact g_lret C d_Me_together_44 hf
  · exact t_Me_together_B45 C N _ _ _ rfl rfl hf
set_option maxHeartbeats 4000000 in
theorem t_St_read {l : Launch} {ad : Nat → Nat} {dA : Nat → ClassId} {D : va_G} (hi : Inj SHX ad) {N : Nat} {q : Nat} (hq : q = 72 ∨ q = 73) {μ μ' : Mm} (hf : f_St_read N q μ = some μ') : Ct CLS l SHX ad dA D y_St_read c_St_read 1 (none) 1 [.ref (ad q)] μ none μ' := by
  unfold f_St_read at hf
  refine ct_of (by decide) hi (Nat.le_of_ble_eq_true rfl) ?_
  intro p e s m args below meth c C
  refine g_aload_n C d_St_read_0 rfl rfl ?_
  refine g_aload_n C d_St_read_1 rfl rfl ?_
  refine g_getW (k := 0) C k_St (by decide) fl_St_37 (shS hq) rfl d_St_read_2 ?_
  obtain ⟨hw1, hf⟩ := chk8 hf
  refine g_getR (b := WK _ + 1) (k := 9) C k_Wk (by decide) fl_St_81 (shW _ hw1) rfl d_St_read_5 ?_
  refine g_aload_n C d_St_read_8 rfl rfl ?_
  refine g_getI (k := 1) C k_St (by decide) fl_St_9 (shS hq) rfl d_St_read_9 ?_
  refine g_iald C (shW1 _ hw1) d_St_read_12 hf (fun hf => ?_)
  refine g_putI (k := 3) C k_St (by decide) fl_St_19 (shS hq) rfl rfl rfl d_St_read_13 ?_
  refine g_aload_n C d_St_read_16 rfl rfl ?_
  refine g_aload_n C d_St_read_17 rfl rfl ?_
  refine g_getW (k := 0) C k_St (by decide) fl_St_37 (shS hq) rfl d_St_read_18 ?_
  obtain ⟨hw5, hf⟩ := chk8 hf
  refine g_getR (b := WK _ + 1) (k := 9) C k_Wk (by decide) fl_St_81 (shW _ hw5) rfl d_St_read_21 ?_
  refine g_aload_n C d_St_read_24 rfl rfl ?_
  refine g_getW (k := 0) C k_St (by decide) fl_St_37 (shS hq) rfl d_St_read_25 ?_
  obtain ⟨hw7, hf⟩ := chk8 hf
  refine g_aload_n C d_St_read_28 rfl rfl ?_
  refine g_getI (k := 1) C k_St (by decide) fl_St_9 (shS hq) rfl d_St_read_29 ?_
  refine g_cvI C k_Wk (shW _ hw7) mv_Wk_legBehind ml_St_85 d_St_read_32 hf (fun r μ1 h => t_Wk_legBehind C.2.2.2.2.2.2.2.2.1 hw7 h) rfl rfl (by decide) (Nat.le_of_ble_eq_true rfl) (fun r10 μ9 hf => ?_)
  refine g_iald C (shW1 _ hw5) d_St_read_35 hf (fun hf => ?_)
  refine g_putI (k := 4) C k_St (by decide) fl_St_22 (shS hq) rfl rfl rfl d_St_read_36 ?_
  refine g_aload_n C d_St_read_39 rfl rfl ?_
  refine g_aload_n C d_St_read_40 rfl rfl ?_
  refine g_getL (k := 2) C k_St (by decide) fl_St_15 (shS hq) rfl d_St_read_41 ?_
  refine g_aload_n C d_St_read_44 rfl rfl ?_
  refine g_getW (k := 0) C k_St (by decide) fl_St_37 (shS hq) rfl d_St_read_45 ?_
  obtain ⟨hw12, hf⟩ := chk8 hf
  refine g_getR (b := WK _ + 3) (k := 14) C k_Wk (by decide) fl_St_88 (shW _ hw12) rfl d_St_read_48 ?_
  refine g_aload_n C d_St_read_51 rfl rfl ?_
  refine g_getI (k := 1) C k_St (by decide) fl_St_9 (shS hq) rfl d_St_read_52 ?_
  refine g_iald C (shW3 _ hw12) d_St_read_55 hf (fun hf => ?_)
  refine g_i2l C d_St_read_56 ?_
  refine g_ladd C d_St_read_57 ?_
  refine g_putL (k := 6) C k_St (by decide) fl_St_28 (shS hq) rfl rfl rfl d_St_read_58 ?_
  refine g_aload_n C d_St_read_61 rfl rfl ?_
  refine g_aload_n C d_St_read_62 rfl rfl ?_
  refine g_getL (k := 2) C k_St (by decide) fl_St_15 (shS hq) rfl d_St_read_63 ?_
  refine g_aload_n C d_St_read_66 rfl rfl ?_
  refine g_getW (k := 0) C k_St (by decide) fl_St_37 (shS hq) rfl d_St_read_67 ?_
  obtain ⟨hw16, hf⟩ := chk8 hf
  refine g_getR (b := WK _ + 4) (k := 15) C k_Wk (by decide) fl_St_90 (shW _ hw16) rfl d_St_read_70 ?_
  refine g_aload_n C d_St_read_73 rfl rfl ?_
  refine g_getI (k := 1) C k_St (by decide) fl_St_9 (shS hq) rfl d_St_read_74 ?_
  refine g_iald C (shW4 _ hw16) d_St_read_77 hf (fun hf => ?_)
  refine g_i2l C d_St_read_78 ?_
  refine g_ladd C d_St_read_79 ?_
  refine g_putL (k := 7) C k_St (by decide) fl_St_31 (shS hq) rfl rfl rfl d_St_read_80 ?_
  refine g_aload_n C d_St_read_83 rfl rfl ?_
  refine g_aload_n C d_St_read_84 rfl rfl ?_
  refine g_getL (k := 2) C k_St (by decide) fl_St_15 (shS hq) rfl d_St_read_85 ?_
  refine g_aload_n C d_St_read_88 rfl rfl ?_
  refine g_getW (k := 0) C k_St (by decide) fl_St_37 (shS hq) rfl d_St_read_89 ?_
  obtain ⟨hw20, hf⟩ := chk8 hf
  refine g_getR (b := WK _ + 3) (k := 14) C k_Wk (by decide) fl_St_88 (shW _ hw20) rfl d_St_read_92 ?_
  refine g_aload_n C d_St_read_95 rfl rfl ?_
  refine g_getI (k := 1) C k_St (by decide) fl_St_9 (shS hq) rfl d_St_read_96 ?_
  refine g_iconst (v := 1) C d_St_read_99 (by decide) ?_
  refine g_iadd C d_St_read_100 ?_
  refine g_iald C (shW3 _ hw20) d_St_read_101 hf (fun hf => ?_)
  refine g_i2l C d_St_read_102 ?_
  refine g_ladd C d_St_read_103 ?_
  refine g_putL (k := 8) C k_St (by decide) fl_St_34 (shS hq) rfl rfl rfl d_St_read_104 ?_
  exact g_vret C d_St_read_107 hf
set_option maxHeartbeats 4000000 in
theorem t_St_goOn_B51 {ad : Nat → Nat} {dA : Nat → ClassId} {D : va_G} {p : Program} {l : Launch} {e : Env} {s : State} {m : MethodId} {args : Array Value} {below : List Frame} {meth : Method} {c : Code} {μ' : Mm} (C : Cx CLS SHX ad dA D p s m args meth c c_St_goOn 1 R_St (none)) (N : Nat) {q : Nat} (hq : q = 72 ∨ q = 73) : ∀  (μ : Mm) (lv : Nat → Option Value), lv 0 = some (.ref (ad q)) → f_St_goOn_B51 N q μ = some μ' → Go CLS SHX ad dA D p l e (rmD 2) s m args below meth c 1 none μ' 51 lv [] μ := by
  intro μ lv hl0 hf
  unfold f_St_goOn_B51 at hf
  refine g_aload_n C d_St_goOn_51 rfl hl0 ?_
  refine g_cvV C k_St (shS hq) mv_St_read ml_St_74 d_St_goOn_52 hf (fun μ1 h => t_St_read C.2.2.2.2.2.2.2.2.1 hq h) rfl rfl (by decide) (Nat.le_of_ble_eq_true rfl) (fun μ13 hf => ?_)
  exact g_vret C d_St_goOn_55 hf
set_option maxHeartbeats 4000000 in
theorem t_St_goOn {l : Launch} {ad : Nat → Nat} {dA : Nat → ClassId} {D : va_G} (hi : Inj SHX ad) {N : Nat} {q : Nat} (hq : q = 72 ∨ q = 73) {μ μ' : Mm} (hf : f_St_goOn N q μ = some μ') : Ct CLS l SHX ad dA D y_St_goOn c_St_goOn 1 (none) 2 [.ref (ad q)] μ none μ' := by
  unfold f_St_goOn at hf
  refine ct_of (by decide) hi (Nat.le_of_ble_eq_true rfl) ?_
  intro p e s m args below meth c C
  refine g_aload_n C d_St_goOn_0 rfl rfl ?_
  refine g_getW (k := 0) C k_St (by decide) fl_St_37 (shS hq) rfl d_St_goOn_1 ?_
  obtain ⟨hw1, hf⟩ := chk8 hf
  refine g_getI (k := 0) C k_Wk (by decide) fl_St_41 (shW _ hw1) rfl d_St_goOn_4 ?_
  refine g_iconst (v := 3) C d_St_goOn_7 (by decide) ?_
  refine g_icmp_ne (tgt := 12) C d_St_goOn_8 (by decide) hf (fun c3 hf => ?_) (fun c3 hf => ?_)
  · exact g_vret C d_St_goOn_11 hf
  · refine g_aload_n C d_St_goOn_12 rfl rfl ?_
    refine g_aload_n C d_St_goOn_13 rfl rfl ?_
    refine g_getW (k := 0) C k_St (by decide) fl_St_37 (shS hq) rfl d_St_goOn_14 ?_
    obtain ⟨hw4, hf⟩ := chk8 hf
    refine g_aload_n C d_St_goOn_17 rfl rfl ?_
    refine g_getI (k := 1) C k_St (by decide) fl_St_9 (shS hq) rfl d_St_goOn_18 ?_
    refine g_cvI C k_Wk (shW _ hw4) mv_Wk_legBehind ml_St_85 d_St_goOn_21 hf (fun r μ1 h => t_Wk_legBehind C.2.2.2.2.2.2.2.2.1 hw4 h) rfl rfl (by decide) (Nat.le_of_ble_eq_true rfl) (fun r7 μ6 hf => ?_)
    refine g_putI (k := 1) C k_St (by decide) fl_St_9 (shS hq) rfl rfl rfl d_St_goOn_24 ?_
    refine g_aload_n C d_St_goOn_27 rfl rfl ?_
    refine g_getI (k := 1) C k_St (by decide) fl_St_9 (shS hq) rfl d_St_goOn_28 ?_
    refine g_if_ne (tgt := 51) C d_St_goOn_31 (by decide) hf (fun c9 hf => ?_) (fun c9 hf => ?_)
    · refine g_aload_n C d_St_goOn_34 rfl rfl ?_
      refine g_dup C d_St_goOn_35 rfl ?_
      refine g_getL (k := 2) C k_St (by decide) fl_St_15 (shS hq) rfl d_St_goOn_36 ?_
      refine g_aload_n C d_St_goOn_39 rfl rfl ?_
      refine g_getW (k := 0) C k_St (by decide) fl_St_37 (shS hq) rfl d_St_goOn_40 ?_
      obtain ⟨hw10, hf⟩ := chk8 hf
      refine g_getI (k := 12) C k_Wk (by decide) fl_St_60 (shW _ hw10) rfl d_St_goOn_43 ?_
      refine g_i2l C d_St_goOn_46 ?_
      refine g_ladd C d_St_goOn_47 ?_
      refine g_putL (k := 2) C k_St (by decide) fl_St_15 (shS hq) rfl rfl rfl d_St_goOn_48 ?_
      exact t_St_goOn_B51 C N hq _ _ rfl hf
    · exact t_St_goOn_B51 C N hq _ _ rfl hf
