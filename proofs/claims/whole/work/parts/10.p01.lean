set_option maxHeartbeats 4000000 in
theorem t_Cr_has {l : Launch} {ad : Nat → Nat} {dA : Nat → ClassId} {D : va_G} (hi : Inj SHX ad) {N : Nat} {a1 : Int32}  {μ μ' : Mm} {r : Int32} (hf : f_Cr_has N a1 μ = some (r, μ')) : Ct CLS l SHX ad dA D y_Cr_has c_Cr_has 2 (some .boolean) 0 [.ref (ad 11), .int a1] μ (some (.int r)) μ' := by
  unfold f_Cr_has at hf
  refine ct_of (by decide) hi (Nat.le_of_ble_eq_true rfl) ?_
  intro p e s m args below meth c C
  refine g_iload_n C d_Cr_has_0 rfl rfl ?_
  refine g_if_lt (tgt := 16) C d_Cr_has_1 (by decide) hf (fun c1 hf => ?_) (fun c1 hf => ?_)
  · refine g_iconst (v := 0) C d_Cr_has_16 (by decide) ?_
    exact g_zretc C d_Cr_has_17 rfl hf
  · refine g_iload_n C d_Cr_has_4 rfl rfl ?_
    refine g_aload_n C d_Cr_has_5 rfl rfl ?_
    refine g_getI (k := 1) C k_Cr (by decide) fl_Cr_9 rfl rfl d_Cr_has_6 ?_
    refine g_icmp_ge (tgt := 16) C d_Cr_has_9 (by decide) hf (fun c2 hf => ?_) (fun c2 hf => ?_)
    · refine g_iconst (v := 0) C d_Cr_has_16 (by decide) ?_
      exact g_zretc C d_Cr_has_17 rfl hf
    · refine g_iconst (v := 1) C d_Cr_has_12 (by decide) ?_
      refine g_goto (tgt := 17) C d_Cr_has_13 (by decide) ?_
      exact g_zretc C d_Cr_has_17 rfl hf
set_option maxHeartbeats 4000000 in
theorem t_Cr_lacks {l : Launch} {ad : Nat → Nat} {dA : Nat → ClassId} {D : va_G} (hi : Inj SHX ad) {N : Nat} {a1 : Int32}  {μ μ' : Mm} {r : Int32} (hf : f_Cr_lacks N a1 μ = some (r, μ')) : Ct CLS l SHX ad dA D y_Cr_lacks c_Cr_lacks 2 (some .boolean) 0 [.ref (ad 11), .int a1] μ (some (.int r)) μ' := by
  unfold f_Cr_lacks at hf
  refine ct_of (by decide) hi (Nat.le_of_ble_eq_true rfl) ?_
  intro p e s m args below meth c C
  refine g_aload_n C d_Cr_lacks_0 rfl rfl ?_
  refine g_getR (b := 12) (k := 3) C k_Cr (by decide) fl_Cr_20 rfl rfl d_Cr_lacks_1 ?_
  refine g_iload_n C d_Cr_lacks_4 rfl rfl ?_
  refine g_aald C rfl d_Cr_lacks_5 hf (fun hx1 hf => ?_)
  refine g_getI (k := 6) C k_Wk (by decide) fl_Cr_36 (shW _ (ix8 hx1)) rfl d_Cr_lacks_6 ?_
  exact g_zret C d_Cr_lacks_9 hf
set_option maxHeartbeats 4000000 in
theorem t_Cr_get {l : Launch} {ad : Nat → Nat} {dA : Nat → ClassId} {D : va_G} (hi : Inj SHX ad) {N : Nat} {a1 : Int32}  {μ μ' : Mm} {r : Nat} (hf : f_Cr_get N a1 μ = some (r, μ')) : Ct CLS l SHX ad dA D y_Cr_get c_Cr_get 2 (some (.object "WallWalkers$Walker")) 0 [.ref (ad 11), .int a1] μ (some (.ref (ad (WK r)))) μ' := by
  unfold f_Cr_get at hf
  refine ct_of (by decide) hi (Nat.le_of_ble_eq_true rfl) ?_
  intro p e s m args below meth c C
  refine g_aload_n C d_Cr_get_0 rfl rfl ?_
  refine g_getR (b := 12) (k := 3) C k_Cr (by decide) fl_Cr_20 rfl rfl d_Cr_get_1 ?_
  refine g_iload_n C d_Cr_get_4 rfl rfl ?_
  refine g_aald C rfl d_Cr_get_5 hf (fun hx1 hf => ?_)
  exact g_wret C d_Cr_get_6 hf
set_option maxHeartbeats 4000000 in
theorem t_Cr_changing {l : Launch} {ad : Nat → Nat} {dA : Nat → ClassId} {D : va_G} (hi : Inj SHX ad) {N : Nat} {a1 : Int32}  {μ μ' : Mm} {r : Nat} (hf : f_Cr_changing N a1 μ = some (r, μ')) : Ct CLS l SHX ad dA D y_Cr_changing c_Cr_changing 2 (some (.object "WallWalkers$Walker")) 0 [.ref (ad 11), .int a1] μ (some (.ref (ad (WK r)))) μ' := by
  unfold f_Cr_changing at hf
  refine ct_of (by decide) hi (Nat.le_of_ble_eq_true rfl) ?_
  intro p e s m args below meth c C
  refine g_aload_n C d_Cr_changing_0 rfl rfl ?_
  refine g_iconst (v := 1) C d_Cr_changing_1 (by decide) ?_
  refine g_putZc (k := 4) C k_Cr (by decide) fl_Cr_24 rfl rfl rfl rfl d_Cr_changing_2 rfl ?_
  refine g_aload_n C d_Cr_changing_5 rfl rfl ?_
  refine g_getR (b := 12) (k := 3) C k_Cr (by decide) fl_Cr_20 rfl rfl d_Cr_changing_6 ?_
  refine g_iload_n C d_Cr_changing_9 rfl rfl ?_
  refine g_aald C rfl d_Cr_changing_10 hf (fun hx2 hf => ?_)
  exact g_wret C d_Cr_changing_11 hf
set_option maxHeartbeats 4000000 in
theorem t_Cr_add_B77 {ad : Nat → Nat} {dA : Nat → ClassId} {D : va_G} {p : Program} {l : Launch} {e : Env} {s : State} {m : MethodId} {args : Array Value} {below : List Frame} {meth : Method} {c : Code} {r : Int32} {μ' : Mm} (C : Cx CLS SHX ad dA D p s m args meth c c_Cr_add 6 R_Cr (some .int)) (N : Nat)   : ∀ (v4 : Int32) (s0 : Nat) (s1 : Int32) (μ : Mm) (lv : Nat → Option Value), s0 < 8 → lv 4 = some (.int v4) → f_Cr_add_B77 N v4 s0 s1 μ = some (r, μ') → Go CLS SHX ad dA D p l e (rmD 1) s m args below meth c 6 (some (.int r)) μ' 77 lv [.int s1, .ref (ad (WK s0))] μ := by
  intro v4 s0 s1 μ lv hs0 hl4 hf
  unfold f_Cr_add_B77 at hf
  refine g_putI (k := 3) C k_Wk (by decide) fl_Cr_52 (shW _ hs0) rfl rfl rfl d_Cr_add_77 ?_
  refine g_iload C d_Cr_add_80 hl4 ?_
  exact g_iret C d_Cr_add_82 hf
set_option maxHeartbeats 4000000 in
theorem t_Cr_add_B62 {ad : Nat → Nat} {dA : Nat → ClassId} {D : va_G} {p : Program} {l : Launch} {e : Env} {s : State} {m : MethodId} {args : Array Value} {below : List Frame} {meth : Method} {c : Code} {r : Int32} {μ' : Mm} (C : Cx CLS SHX ad dA D p s m args meth c c_Cr_add 6 R_Cr (some .int)) (N : Nat)   : ∀ (v1 : Int32) (v2 : Int32) (v4 : Int32) (v5 : Nat) (s0 : Nat) (s1 : Int32) (μ : Mm) (lv : Nat → Option Value), v5 < 8 → s0 < 8 → lv 1 = some (.int v1) → lv 2 = some (.int v2) → lv 4 = some (.int v4) → lv 5 = some (.ref (ad (WK v5))) → f_Cr_add_B62 N v1 v2 v4 v5 s0 s1 μ = some (r, μ') → Go CLS SHX ad dA D p l e (rmD 1) s m args below meth c 6 (some (.int r)) μ' 62 lv [.int s1, .ref (ad (WK s0))] μ := by
  intro v1 v2 v4 v5 s0 s1 μ lv hv5 hs0 hl1 hl2 hl4 hl5 hf
  unfold f_Cr_add_B62 at hf
  refine g_putI (k := 2) C k_Wk (by decide) fl_Cr_49 (shW _ hs0) rfl rfl rfl d_Cr_add_62 ?_
  refine g_aload C d_Cr_add_65 hl5 ?_
  refine g_iload_n C d_Cr_add_67 rfl hl1 ?_
  refine g_iconst (v := 3) C d_Cr_add_68 (by decide) ?_
  refine g_icmp_ne (tgt := 76) C d_Cr_add_69 (by decide) hf (fun c12 hf => ?_) (fun c12 hf => ?_)
  · refine g_iload_n C d_Cr_add_72 rfl hl2 ?_
    refine g_goto (tgt := 77) C d_Cr_add_73 (by decide) ?_
    exact t_Cr_add_B77 C N _ _ _ _ _ hv5 hl4 hf
  · refine g_iconst (v := 0) C d_Cr_add_76 (by decide) ?_
    exact t_Cr_add_B77 C N _ _ _ _ _ hv5 hl4 hf
set_option maxHeartbeats 4000000 in
theorem t_Cr_add_B47 {ad : Nat → Nat} {dA : Nat → ClassId} {D : va_G} {p : Program} {l : Launch} {e : Env} {s : State} {m : MethodId} {args : Array Value} {below : List Frame} {meth : Method} {c : Code} {r : Int32} {μ' : Mm} (C : Cx CLS SHX ad dA D p s m args meth c c_Cr_add 6 R_Cr (some .int)) (N : Nat)   : ∀ (v1 : Int32) (v2 : Int32) (v3 : Int32) (v4 : Int32) (v5 : Nat) (s0 : Nat) (s1 : Int32) (μ : Mm) (lv : Nat → Option Value), v5 < 8 → s0 < 8 → lv 1 = some (.int v1) → lv 2 = some (.int v2) → lv 3 = some (.int v3) → lv 4 = some (.int v4) → lv 5 = some (.ref (ad (WK v5))) → f_Cr_add_B47 N v1 v2 v3 v4 v5 s0 s1 μ = some (r, μ') → Go CLS SHX ad dA D p l e (rmD 1) s m args below meth c 6 (some (.int r)) μ' 47 lv [.int s1, .ref (ad (WK s0))] μ := by
  intro v1 v2 v3 v4 v5 s0 s1 μ lv hv5 hs0 hl1 hl2 hl3 hl4 hl5 hf
  unfold f_Cr_add_B47 at hf
  refine g_putI (k := 1) C k_Wk (by decide) fl_Cr_46 (shW _ hs0) rfl rfl rfl d_Cr_add_47 ?_
  refine g_aload C d_Cr_add_50 hl5 ?_
  refine g_iload_n C d_Cr_add_52 rfl hl1 ?_
  refine g_iconst (v := 2) C d_Cr_add_53 (by decide) ?_
  refine g_icmp_ne (tgt := 61) C d_Cr_add_54 (by decide) hf (fun c10 hf => ?_) (fun c10 hf => ?_)
  · refine g_iload_n C d_Cr_add_57 rfl hl3 ?_
    refine g_goto (tgt := 62) C d_Cr_add_58 (by decide) ?_
    exact t_Cr_add_B62 C N _ _ _ _ _ _ _ _ hv5 hv5 hl1 hl2 hl4 hl5 hf
  · refine g_iconst (v := 0) C d_Cr_add_61 (by decide) ?_
    exact t_Cr_add_B62 C N _ _ _ _ _ _ _ _ hv5 hv5 hl1 hl2 hl4 hl5 hf
set_option maxHeartbeats 4000000 in
theorem t_Cr_add_B42 {ad : Nat → Nat} {dA : Nat → ClassId} {D : va_G} {p : Program} {l : Launch} {e : Env} {s : State} {m : MethodId} {args : Array Value} {below : List Frame} {meth : Method} {c : Code} {r : Int32} {μ' : Mm} (C : Cx CLS SHX ad dA D p s m args meth c c_Cr_add 6 R_Cr (some .int)) (N : Nat)   : ∀ (v1 : Int32) (v2 : Int32) (v3 : Int32) (v4 : Int32) (v5 : Nat) (s0 : Nat) (μ : Mm) (lv : Nat → Option Value), v5 < 8 → s0 < 8 → lv 1 = some (.int v1) → lv 2 = some (.int v2) → lv 3 = some (.int v3) → lv 4 = some (.int v4) → lv 5 = some (.ref (ad (WK v5))) → f_Cr_add_B42 N v1 v2 v3 v4 v5 s0 μ = some (r, μ') → Go CLS SHX ad dA D p l e (rmD 1) s m args below meth c 6 (some (.int r)) μ' 42 lv [.ref (ad (WK s0))] μ := by
  intro v1 v2 v3 v4 v5 s0 μ lv hv5 hs0 hl1 hl2 hl3 hl4 hl5 hf
  unfold f_Cr_add_B42 at hf
  refine g_iload_n C d_Cr_add_42 rfl hl2 ?_
  refine g_goto (tgt := 47) C d_Cr_add_43 (by decide) ?_
  exact t_Cr_add_B47 C N _ _ _ _ _ _ _ _ _ hv5 hs0 hl1 hl2 hl3 hl4 hl5 hf
set_option maxHeartbeats 4000000 in
theorem t_Cr_add {l : Launch} {ad : Nat → Nat} {dA : Nat → ClassId} {D : va_G} (hi : Inj SHX ad) {N : Nat} {a1 : Int32} {a2 : Int32} {a3 : Int32}  {μ μ' : Mm} {r : Int32} (hf : f_Cr_add N a1 a2 a3 μ = some (r, μ')) : Ct CLS l SHX ad dA D y_Cr_add c_Cr_add 6 (some .int) 1 [.ref (ad 11), .int a1, .int a2, .int a3] μ (some (.int r)) μ' := by
  unfold f_Cr_add at hf
  refine ct_of (by decide) hi (Nat.le_of_ble_eq_true rfl) ?_
  intro p e s m args below meth c C
  refine g_aload_n C d_Cr_add_0 rfl rfl ?_
  refine g_getI (k := 1) C k_Cr (by decide) fl_Cr_9 rfl rfl d_Cr_add_1 ?_
  refine g_istore C d_Cr_add_4 (by decide) ?_
  refine g_aload_n C d_Cr_add_6 rfl (upG rfl rfl) ?_
  refine g_dup C d_Cr_add_7 rfl ?_
  refine g_getI (k := 1) C k_Cr (by decide) fl_Cr_9 rfl rfl d_Cr_add_8 ?_
  refine g_iconst (v := 1) C d_Cr_add_11 (by decide) ?_
  refine g_iadd C d_Cr_add_12 ?_
  refine g_putI (k := 1) C k_Cr (by decide) fl_Cr_9 rfl rfl rfl rfl d_Cr_add_13 ?_
  refine g_aload_n C d_Cr_add_16 rfl (upG rfl rfl) ?_
  refine g_iload C d_Cr_add_17 upS ?_
  refine g_cvW C k_Cr rfl mv_Cr_changing ml_Cr_39 d_Cr_add_19 hf (fun r μ1 h => t_Cr_changing C.2.2.2.2.2.2.2.2.1 h) rfl rfl (by decide) (Nat.le_of_ble_eq_true rfl) (fun r4 μ3 hf => ?_)
  obtain ⟨hw5, hf⟩ := chk8 hf
  refine g_astore C d_Cr_add_22 (by decide) ?_
  refine g_aload C d_Cr_add_24 upS ?_
  refine g_iload_n C d_Cr_add_26 rfl (upG (upG rfl rfl) rfl) ?_
  refine g_putI (k := 0) C k_Wk (by decide) fl_Cr_43 (shW _ hw5) rfl rfl rfl d_Cr_add_27 ?_
  refine g_aload C d_Cr_add_30 upS ?_
  refine g_iload_n C d_Cr_add_32 rfl (upG (upG rfl rfl) rfl) ?_
  refine g_iconst (v := 1) C d_Cr_add_33 (by decide) ?_
  refine g_icmp_eq (tgt := 42) C d_Cr_add_34 (by decide) hf (fun c7 hf => ?_) (fun c7 hf => ?_)
  · exact t_Cr_add_B42 C N _ _ _ _ _ _ _ _ hw5 hw5 ((upG (upG rfl rfl) rfl)) ((upG (upG rfl rfl) rfl)) ((upG (upG rfl rfl) rfl)) ((upG upS rfl)) upS hf
  · refine g_iload_n C d_Cr_add_37 rfl (upG (upG rfl rfl) rfl) ?_
    refine g_iconst (v := 2) C d_Cr_add_38 (by decide) ?_
    refine g_icmp_ne (tgt := 46) C d_Cr_add_39 (by decide) hf (fun c8 hf => ?_) (fun c8 hf => ?_)
    · exact t_Cr_add_B42 C N _ _ _ _ _ _ _ _ hw5 hw5 ((upG (upG rfl rfl) rfl)) ((upG (upG rfl rfl) rfl)) ((upG (upG rfl rfl) rfl)) ((upG upS rfl)) upS hf
    · refine g_iconst (v := 1) C d_Cr_add_46 (by decide) ?_
      exact t_Cr_add_B47 C N _ _ _ _ _ _ _ _ _ hw5 hw5 ((upG (upG rfl rfl) rfl)) ((upG (upG rfl rfl) rfl)) ((upG (upG rfl rfl) rfl)) ((upG upS rfl)) upS hf
set_option maxHeartbeats 4000000 in
theorem t_Gr_lengthOf {l : Launch} {ad : Nat → Nat} {dA : Nat → ClassId} {D : va_G} (hi : Inj SHX ad) {N : Nat} {a1 : Int32} {a2 : Int32}  {μ μ' : Mm} {r : Int32} (hf : f_Gr_lengthOf N a1 a2 μ = some (r, μ')) : Ct CLS l SHX ad dA D y_Gr_lengthOf c_Gr_lengthOf 3 (some .int) 0 [.ref (ad 6), .int a1, .int a2] μ (some (.int r)) μ' := by
  unfold f_Gr_lengthOf at hf
  refine ct_of (by decide) hi (Nat.le_of_ble_eq_true rfl) ?_
  intro p e s m args below meth c C
  refine g_aload_n C d_Gr_lengthOf_0 rfl rfl ?_
  refine g_getR (b := 7) (k := 5) C k_Gr (by decide) fl_Gr_27 rfl rfl d_Gr_lengthOf_1 ?_
  refine g_iload_n C d_Gr_lengthOf_4 rfl rfl ?_
  refine g_bipush (v := 16) C d_Gr_lengthOf_5 (by decide) ?_
  refine g_imul C d_Gr_lengthOf_7 ?_
  refine g_iload_n C d_Gr_lengthOf_8 rfl rfl ?_
  refine g_iadd C d_Gr_lengthOf_9 ?_
  refine g_iald C rfl d_Gr_lengthOf_10 hf (fun hf => ?_)
  exact g_iret C d_Gr_lengthOf_11 hf
set_option maxHeartbeats 4000000 in
theorem t_Gr_shortenBy_B71 {ad : Nat → Nat} {dA : Nat → ClassId} {D : va_G} {p : Program} {l : Launch} {e : Env} {s : State} {m : MethodId} {args : Array Value} {below : List Frame} {meth : Method} {c : Code} {μ' : Mm} (C : Cx CLS SHX ad dA D p s m args meth c c_Gr_shortenBy 6 R_Gr (none)) (N : Nat)   (k15 : Int32 → Int32 → Int32 → Int32 → Mm → Option Mm) (hk15 : ∀ (v1 : Int32) (v2 : Int32) (v3 : Int32) (v4 : Int32) (μ : Mm) (lv : Nat → Option Value), lv 0 = some (.ref (ad 6)) → lv 1 = some (.int v1) → lv 2 = some (.int v2) → lv 3 = some (.int v3) → lv 4 = some (.int v4) → k15 v1 v2 v3 v4 μ = some μ' → Go CLS SHX ad dA D p l e (rmD 0) s m args below meth c 6 none μ' 15 lv [] μ) : ∀ (v1 : Int32) (v2 : Int32) (v3 : Int32) (v4 : Int32) (μ : Mm) (lv : Nat → Option Value), lv 0 = some (.ref (ad 6)) → lv 1 = some (.int v1) → lv 2 = some (.int v2) → lv 3 = some (.int v3) → lv 4 = some (.int v4) → f_Gr_shortenBy_B71 N k15 v1 v2 v3 v4 μ = some μ' → Go CLS SHX ad dA D p l e (rmD 0) s m args below meth c 6 none μ' 71 lv [] μ := by
  intro v1 v2 v3 v4 μ lv hl0 hl1 hl2 hl3 hl4 hf
  unfold f_Gr_shortenBy_B71 at hf
  refine g_iinc (v := 1) C d_Gr_shortenBy_71 hl4 (by decide) (by decide) ?_
  refine g_goto (tgt := 15) C d_Gr_shortenBy_74 (by decide) ?_
  exact hk15 _ _ _ _ _ _ ((upG hl0 rfl)) ((upG hl1 rfl)) ((upG hl2 rfl)) ((upG hl3 rfl)) upS hf
set_option maxHeartbeats 4000000 in
theorem t_Gr_shortenBy_L15 {ad : Nat → Nat} {dA : Nat → ClassId} {D : va_G} {p : Program} {l : Launch} {e : Env} {s : State} {m : MethodId} {args : Array Value} {below : List Frame} {meth : Method} {c : Code} {μ' : Mm} (C : Cx CLS SHX ad dA D p s m args meth c c_Gr_shortenBy 6 R_Gr (none)) (N : Nat)   : ∀ (n : Nat) (v1 : Int32) (v2 : Int32) (v3 : Int32) (v4 : Int32) (μ : Mm) (lv : Nat → Option Value), lv 0 = some (.ref (ad 6)) → lv 1 = some (.int v1) → lv 2 = some (.int v2) → lv 3 = some (.int v3) → lv 4 = some (.int v4) → f_Gr_shortenBy_L15 N n v1 v2 v3 v4 μ = some μ' → Go CLS SHX ad dA D p l e (rmD 0) s m args below meth c 6 none μ' 15 lv [] μ := by
  intro n
  induction n with
  | zero => intro v1 v2 v3 v4 μ lv hl0 hl1 hl2 hl3 hl4 hf; cases (show none = some _ from hf)
  | succ n ih =>
    intro v1 v2 v3 v4 μ lv hl0 hl1 hl2 hl3 hl4 hf
    unfold f_Gr_shortenBy_L15 at hf
    refine g_iload C d_Gr_shortenBy_15 hl4 ?_
    refine g_aload_n C d_Gr_shortenBy_17 rfl hl0 ?_
    refine g_getI (k := 1) C k_Gr (by decide) fl_Gr_15 rfl rfl d_Gr_shortenBy_18 ?_
    refine g_icmp_ge (tgt := 77) C d_Gr_shortenBy_21 (by decide) hf (fun c3 hf => ?_) (fun c3 hf => ?_)
    · exact g_vret C d_Gr_shortenBy_77 hf
    · refine g_iload_n C d_Gr_shortenBy_24 rfl hl3 ?_
      refine g_aload_n C d_Gr_shortenBy_25 rfl hl0 ?_
      refine g_getR (b := 10) (k := 8) C k_Gr (by decide) fl_Gr_38 rfl rfl d_Gr_shortenBy_26 ?_
      refine g_iload_n C d_Gr_shortenBy_29 rfl hl1 ?_
      refine g_bipush (v := 16) C d_Gr_shortenBy_30 (by decide) ?_
      refine g_imul C d_Gr_shortenBy_32 ?_
      refine g_iload C d_Gr_shortenBy_33 hl4 ?_
      refine g_iadd C d_Gr_shortenBy_35 ?_
      refine g_iald C rfl d_Gr_shortenBy_36 hf (fun hf => ?_)
      refine g_iadd C d_Gr_shortenBy_37 ?_
      refine g_istore C d_Gr_shortenBy_38 (by decide) ?_
      refine g_iload C d_Gr_shortenBy_40 upS ?_
      refine g_aload_n C d_Gr_shortenBy_42 rfl (upG hl0 rfl) ?_
      refine g_getR (b := 10) (k := 8) C k_Gr (by decide) fl_Gr_38 rfl rfl d_Gr_shortenBy_43 ?_
      refine g_iload_n C d_Gr_shortenBy_46 rfl (upG hl2 rfl) ?_
      refine g_bipush (v := 16) C d_Gr_shortenBy_47 (by decide) ?_
      refine g_imul C d_Gr_shortenBy_49 ?_
      refine g_iload C d_Gr_shortenBy_50 (upG hl4 rfl) ?_
      refine g_iadd C d_Gr_shortenBy_52 ?_
      refine g_iald C rfl d_Gr_shortenBy_53 hf (fun hf => ?_)
      refine g_icmp_ge (tgt := 71) C d_Gr_shortenBy_54 (by decide) hf (fun c7 hf => ?_) (fun c7 hf => ?_)
      · exact t_Gr_shortenBy_B71 C N _ ih _ _ _ _ _ _ ((upG hl0 rfl)) ((upG hl1 rfl)) ((upG hl2 rfl)) ((upG hl3 rfl)) ((upG hl4 rfl)) hf
      · refine g_aload_n C d_Gr_shortenBy_57 rfl (upG hl0 rfl) ?_
        refine g_getR (b := 10) (k := 8) C k_Gr (by decide) fl_Gr_38 rfl rfl d_Gr_shortenBy_58 ?_
        refine g_iload_n C d_Gr_shortenBy_61 rfl (upG hl2 rfl) ?_
        refine g_bipush (v := 16) C d_Gr_shortenBy_62 (by decide) ?_
        refine g_imul C d_Gr_shortenBy_64 ?_
        refine g_iload C d_Gr_shortenBy_65 (upG hl4 rfl) ?_
        refine g_iadd C d_Gr_shortenBy_67 ?_
        refine g_iload C d_Gr_shortenBy_68 upS ?_
        refine g_iast C rfl d_Gr_shortenBy_70 hf (fun hf => ?_)
        exact t_Gr_shortenBy_B71 C N _ ih _ _ _ _ _ _ ((upG hl0 rfl)) ((upG hl1 rfl)) ((upG hl2 rfl)) ((upG hl3 rfl)) ((upG hl4 rfl)) hf
set_option maxHeartbeats 4000000 in
theorem t_Gr_shortenBy {l : Launch} {ad : Nat → Nat} {dA : Nat → ClassId} {D : va_G} (hi : Inj SHX ad) {N : Nat} {a1 : Int32} {a2 : Int32}  {μ μ' : Mm} (hf : f_Gr_shortenBy N a1 a2 μ = some μ') : Ct CLS l SHX ad dA D y_Gr_shortenBy c_Gr_shortenBy 6 (none) 0 [.ref (ad 6), .int a1, .int a2] μ none μ' := by
  unfold f_Gr_shortenBy at hf
  refine ct_of (by decide) hi (Nat.le_of_ble_eq_true rfl) ?_
  intro p e s m args below meth c C
  refine g_aload_n C d_Gr_shortenBy_0 rfl rfl ?_
  refine g_getR (b := 10) (k := 8) C k_Gr (by decide) fl_Gr_38 rfl rfl d_Gr_shortenBy_1 ?_
  refine g_iload_n C d_Gr_shortenBy_4 rfl rfl ?_
  refine g_bipush (v := 16) C d_Gr_shortenBy_5 (by decide) ?_
  refine g_imul C d_Gr_shortenBy_7 ?_
  refine g_iload_n C d_Gr_shortenBy_8 rfl rfl ?_
  refine g_iadd C d_Gr_shortenBy_9 ?_
  refine g_iald C rfl d_Gr_shortenBy_10 hf (fun hf => ?_)
  refine g_istore_n C d_Gr_shortenBy_11 rfl (by decide) ?_
  refine g_iconst (v := 0) C d_Gr_shortenBy_12 (by decide) ?_
  refine g_istore C d_Gr_shortenBy_13 (by decide) ?_
  exact t_Gr_shortenBy_L15 C N N _ _ _ _ _ _ ((upG (upG rfl rfl) rfl)) ((upG (upG rfl rfl) rfl)) ((upG (upG rfl rfl) rfl)) ((upG upS rfl)) upS hf
set_option maxHeartbeats 4000000 in
theorem t_Gr_measure_B136 {ad : Nat → Nat} {dA : Nat → ClassId} {D : va_G} {p : Program} {l : Launch} {e : Env} {s : State} {m : MethodId} {args : Array Value} {below : List Frame} {meth : Method} {c : Code} {μ' : Mm} (C : Cx CLS SHX ad dA D p s m args meth c c_Gr_measure 4 R_Gr (none)) (N : Nat)   : ∀  (μ : Mm) (lv : Nat → Option Value), lv 0 = some (.ref (ad 6)) → f_Gr_measure_B136 N μ = some μ' → Go CLS SHX ad dA D p l e (rmD 1) s m args below meth c 4 none μ' 136 lv [] μ := by
  intro μ lv hl0 hf
  unfold f_Gr_measure_B136 at hf
  refine g_aload_n C d_Gr_measure_136 rfl hl0 ?_
  refine g_iconst (v := 0) C d_Gr_measure_137 (by decide) ?_
  refine g_putZc (k := 9) C k_Gr (by decide) fl_Gr_41 rfl rfl rfl rfl d_Gr_measure_138 rfl ?_
  exact g_vret C d_Gr_measure_141 hf
set_option maxHeartbeats 4000000 in
theorem t_Gr_measure_B130 {ad : Nat → Nat} {dA : Nat → ClassId} {D : va_G} {p : Program} {l : Launch} {e : Env} {s : State} {m : MethodId} {args : Array Value} {below : List Frame} {meth : Method} {c : Code} {μ' : Mm} (C : Cx CLS SHX ad dA D p s m args meth c c_Gr_measure 4 R_Gr (none)) (N : Nat)   (k79 : Int32 → Mm → Option Mm) (hk79 : ∀ (v1 : Int32) (μ : Mm) (lv : Nat → Option Value), lv 0 = some (.ref (ad 6)) → lv 1 = some (.int v1) → k79 v1 μ = some μ' → Go CLS SHX ad dA D p l e (rmD 1) s m args below meth c 4 none μ' 79 lv [] μ) : ∀ (v1 : Int32) (μ : Mm) (lv : Nat → Option Value), lv 0 = some (.ref (ad 6)) → lv 1 = some (.int v1) → f_Gr_measure_B130 N k79 v1 μ = some μ' → Go CLS SHX ad dA D p l e (rmD 1) s m args below meth c 4 none μ' 130 lv [] μ := by
  intro v1 μ lv hl0 hl1 hf
  unfold f_Gr_measure_B130 at hf
  refine g_iinc (v := 1) C d_Gr_measure_130 hl1 (by decide) (by decide) ?_
  refine g_goto (tgt := 79) C d_Gr_measure_133 (by decide) ?_
  exact hk79 _ _ _ ((upG hl0 rfl)) upS hf
set_option maxHeartbeats 4000000 in
theorem t_Gr_measure_B124 {ad : Nat → Nat} {dA : Nat → ClassId} {D : va_G} {p : Program} {l : Launch} {e : Env} {s : State} {m : MethodId} {args : Array Value} {below : List Frame} {meth : Method} {c : Code} {μ' : Mm} (C : Cx CLS SHX ad dA D p s m args meth c c_Gr_measure 4 R_Gr (none)) (N : Nat)   (k79 : Int32 → Mm → Option Mm) (hk79 : ∀ (v1 : Int32) (μ : Mm) (lv : Nat → Option Value), lv 0 = some (.ref (ad 6)) → lv 1 = some (.int v1) → k79 v1 μ = some μ' → Go CLS SHX ad dA D p l e (rmD 1) s m args below meth c 4 none μ' 79 lv [] μ) (k89 : Int32 → Int32 → Mm → Option Mm) (hk89 : ∀ (v1 : Int32) (v2 : Int32) (μ : Mm) (lv : Nat → Option Value), lv 0 = some (.ref (ad 6)) → lv 1 = some (.int v1) → lv 2 = some (.int v2) → k89 v1 v2 μ = some μ' → Go CLS SHX ad dA D p l e (rmD 1) s m args below meth c 4 none μ' 89 lv [] μ) : ∀ (v1 : Int32) (v2 : Int32) (μ : Mm) (lv : Nat → Option Value), lv 0 = some (.ref (ad 6)) → lv 1 = some (.int v1) → lv 2 = some (.int v2) → f_Gr_measure_B124 N k79 k89 v1 v2 μ = some μ' → Go CLS SHX ad dA D p l e (rmD 1) s m args below meth c 4 none μ' 124 lv [] μ := by
  intro v1 v2 μ lv hl0 hl1 hl2 hf
  unfold f_Gr_measure_B124 at hf
  refine g_iinc (v := 1) C d_Gr_measure_124 hl2 (by decide) (by decide) ?_
  refine g_goto (tgt := 89) C d_Gr_measure_127 (by decide) ?_
  exact hk89 _ _ _ _ ((upG hl0 rfl)) ((upG hl1 rfl)) upS hf
set_option maxHeartbeats 4000000 in
theorem t_Gr_measure_L89 {ad : Nat → Nat} {dA : Nat → ClassId} {D : va_G} {p : Program} {l : Launch} {e : Env} {s : State} {m : MethodId} {args : Array Value} {below : List Frame} {meth : Method} {c : Code} {μ' : Mm} (C : Cx CLS SHX ad dA D p s m args meth c c_Gr_measure 4 R_Gr (none)) (N : Nat)   (k79 : Int32 → Mm → Option Mm) (hk79 : ∀ (v1 : Int32) (μ : Mm) (lv : Nat → Option Value), lv 0 = some (.ref (ad 6)) → lv 1 = some (.int v1) → k79 v1 μ = some μ' → Go CLS SHX ad dA D p l e (rmD 1) s m args below meth c 4 none μ' 79 lv [] μ) : ∀ (n : Nat) (v1 : Int32) (v2 : Int32) (μ : Mm) (lv : Nat → Option Value), lv 0 = some (.ref (ad 6)) → lv 1 = some (.int v1) → lv 2 = some (.int v2) → f_Gr_measure_L89 N k79 n v1 v2 μ = some μ' → Go CLS SHX ad dA D p l e (rmD 1) s m args below meth c 4 none μ' 89 lv [] μ := by
  intro n
  induction n with
  | zero => intro v1 v2 μ lv hl0 hl1 hl2 hf; cases (show none = some _ from hf)
  | succ n ih =>
    intro v1 v2 μ lv hl0 hl1 hl2 hf
    unfold f_Gr_measure_L89 at hf
    refine g_iload_n C d_Gr_measure_89 rfl hl2 ?_
    refine g_aload_n C d_Gr_measure_90 rfl hl0 ?_
    refine g_getI (k := 1) C k_Gr (by decide) fl_Gr_15 rfl rfl d_Gr_measure_91 ?_
    refine g_icmp_ge (tgt := 130) C d_Gr_measure_94 (by decide) hf (fun c12 hf => ?_) (fun c12 hf => ?_)
    · exact t_Gr_measure_B130 C N _ hk79 _ _ _ hl0 hl1 hf
    · refine g_iload_n C d_Gr_measure_97 rfl hl2 ?_
      refine g_iload_n C d_Gr_measure_98 rfl hl1 ?_
      refine g_icmp_eq (tgt := 124) C d_Gr_measure_99 (by decide) hf (fun c13 hf => ?_) (fun c13 hf => ?_)
      · exact t_Gr_measure_B124 C N _ hk79 _ ih _ _ _ _ hl0 hl1 hl2 hf
      · refine g_aload_n C d_Gr_measure_102 rfl hl0 ?_
        refine g_getR (b := 10) (k := 8) C k_Gr (by decide) fl_Gr_38 rfl rfl d_Gr_measure_103 ?_
        refine g_iload_n C d_Gr_measure_106 rfl hl2 ?_
        refine g_bipush (v := 16) C d_Gr_measure_107 (by decide) ?_
        refine g_imul C d_Gr_measure_109 ?_
        refine g_iload_n C d_Gr_measure_110 rfl hl1 ?_
        refine g_iadd C d_Gr_measure_111 ?_
        refine g_iald C rfl d_Gr_measure_112 hf (fun hf => ?_)
        refine g_ldc C ck_Gr_56 d_Gr_measure_113 ?_
        refine g_icmp_ge (tgt := 124) C d_Gr_measure_115 (by decide) hf (fun c15 hf => ?_) (fun c15 hf => ?_)
        · exact t_Gr_measure_B124 C N _ hk79 _ ih _ _ _ _ hl0 hl1 hl2 hf
        · refine g_aload_n C d_Gr_measure_118 rfl hl0 ?_
          refine g_iload_n C d_Gr_measure_119 rfl hl1 ?_
          refine g_iload_n C d_Gr_measure_120 rfl hl2 ?_
          refine g_cvV C k_Gr rfl mv_Gr_shortenBy ml_Gr_57 d_Gr_measure_121 hf (fun μ1 h => t_Gr_shortenBy C.2.2.2.2.2.2.2.2.1 h) rfl rfl (by decide) (Nat.le_of_ble_eq_true rfl) (fun μ16 hf => ?_)
          exact t_Gr_measure_B124 C N _ hk79 _ ih _ _ _ _ hl0 hl1 hl2 hf
set_option maxHeartbeats 4000000 in
theorem t_Gr_measure_L79 {ad : Nat → Nat} {dA : Nat → ClassId} {D : va_G} {p : Program} {l : Launch} {e : Env} {s : State} {m : MethodId} {args : Array Value} {below : List Frame} {meth : Method} {c : Code} {μ' : Mm} (C : Cx CLS SHX ad dA D p s m args meth c c_Gr_measure 4 R_Gr (none)) (N : Nat)   : ∀ (n : Nat) (v1 : Int32) (μ : Mm) (lv : Nat → Option Value), lv 0 = some (.ref (ad 6)) → lv 1 = some (.int v1) → f_Gr_measure_L79 N n v1 μ = some μ' → Go CLS SHX ad dA D p l e (rmD 1) s m args below meth c 4 none μ' 79 lv [] μ := by
  intro n
  induction n with
  | zero => intro v1 μ lv hl0 hl1 hf; cases (show none = some _ from hf)
  | succ n ih =>
    intro v1 μ lv hl0 hl1 hf
    unfold f_Gr_measure_L79 at hf
    refine g_iload_n C d_Gr_measure_79 rfl hl1 ?_
    refine g_aload_n C d_Gr_measure_80 rfl hl0 ?_
    refine g_getI (k := 1) C k_Gr (by decide) fl_Gr_15 rfl rfl d_Gr_measure_81 ?_
    refine g_icmp_ge (tgt := 136) C d_Gr_measure_84 (by decide) hf (fun c11 hf => ?_) (fun c11 hf => ?_)
    · exact t_Gr_measure_B136 C N _ _ hl0 hf
    · refine g_iconst (v := 0) C d_Gr_measure_87 (by decide) ?_
      refine g_istore_n C d_Gr_measure_88 rfl (by decide) ?_
      exact t_Gr_measure_L89 C N _ ih N _ _ _ _ ((upG hl0 rfl)) ((upG hl1 rfl)) upS hf
set_option maxHeartbeats 4000000 in
theorem t_Gr_measure_B77 {ad : Nat → Nat} {dA : Nat → ClassId} {D : va_G} {p : Program} {l : Launch} {e : Env} {s : State} {m : MethodId} {args : Array Value} {below : List Frame} {meth : Method} {c : Code} {μ' : Mm} (C : Cx CLS SHX ad dA D p s m args meth c c_Gr_measure 4 R_Gr (none)) (N : Nat)   : ∀  (μ : Mm) (lv : Nat → Option Value), lv 0 = some (.ref (ad 6)) → f_Gr_measure_B77 N μ = some μ' → Go CLS SHX ad dA D p l e (rmD 1) s m args below meth c 4 none μ' 77 lv [] μ := by
  intro μ lv hl0 hf
  unfold f_Gr_measure_B77 at hf
  refine g_iconst (v := 0) C d_Gr_measure_77 (by decide) ?_
  refine g_istore_n C d_Gr_measure_78 rfl (by decide) ?_
  exact t_Gr_measure_L79 C N N _ _ _ ((upG hl0 rfl)) upS hf
set_option maxHeartbeats 4000000 in
theorem t_Gr_measure_B71 {ad : Nat → Nat} {dA : Nat → ClassId} {D : va_G} {p : Program} {l : Launch} {e : Env} {s : State} {m : MethodId} {args : Array Value} {below : List Frame} {meth : Method} {c : Code} {μ' : Mm} (C : Cx CLS SHX ad dA D p s m args meth c c_Gr_measure 4 R_Gr (none)) (N : Nat)   (k10 : Int32 → Mm → Option Mm) (hk10 : ∀ (v1 : Int32) (μ : Mm) (lv : Nat → Option Value), lv 0 = some (.ref (ad 6)) → lv 1 = some (.int v1) → k10 v1 μ = some μ' → Go CLS SHX ad dA D p l e (rmD 1) s m args below meth c 4 none μ' 10 lv [] μ) : ∀ (v1 : Int32) (μ : Mm) (lv : Nat → Option Value), lv 0 = some (.ref (ad 6)) → lv 1 = some (.int v1) → f_Gr_measure_B71 N k10 v1 μ = some μ' → Go CLS SHX ad dA D p l e (rmD 1) s m args below meth c 4 none μ' 71 lv [] μ := by
  intro v1 μ lv hl0 hl1 hf
  unfold f_Gr_measure_B71 at hf
  refine g_iinc (v := 1) C d_Gr_measure_71 hl1 (by decide) (by decide) ?_
  refine g_goto (tgt := 10) C d_Gr_measure_74 (by decide) ?_
  exact hk10 _ _ _ ((upG hl0 rfl)) upS hf
set_option maxHeartbeats 4000000 in
theorem t_Gr_measure_B64 {ad : Nat → Nat} {dA : Nat → ClassId} {D : va_G} {p : Program} {l : Launch} {e : Env} {s : State} {m : MethodId} {args : Array Value} {below : List Frame} {meth : Method} {c : Code} {μ' : Mm} (C : Cx CLS SHX ad dA D p s m args meth c c_Gr_measure 4 R_Gr (none)) (N : Nat)   (k10 : Int32 → Mm → Option Mm) (hk10 : ∀ (v1 : Int32) (μ : Mm) (lv : Nat → Option Value), lv 0 = some (.ref (ad 6)) → lv 1 = some (.int v1) → k10 v1 μ = some μ' → Go CLS SHX ad dA D p l e (rmD 1) s m args below meth c 4 none μ' 10 lv [] μ) (k20 : Int32 → Int32 → Mm → Option Mm) (hk20 : ∀ (v1 : Int32) (v2 : Int32) (μ : Mm) (lv : Nat → Option Value), lv 0 = some (.ref (ad 6)) → lv 1 = some (.int v1) → lv 2 = some (.int v2) → k20 v1 v2 μ = some μ' → Go CLS SHX ad dA D p l e (rmD 1) s m args below meth c 4 none μ' 20 lv [] μ) : ∀ (v1 : Int32) (v2 : Int32) (s1 : Int32) (s2 : Int32) (μ : Mm) (lv : Nat → Option Value), lv 0 = some (.ref (ad 6)) → lv 1 = some (.int v1) → lv 2 = some (.int v2) → f_Gr_measure_B64 N k10 k20 v1 v2 s1 s2 μ = some μ' → Go CLS SHX ad dA D p l e (rmD 1) s m args below meth c 4 none μ' 64 lv [.int s2, .int s1, .ref (ad 10)] μ := by
  intro v1 v2 s1 s2 μ lv hl0 hl1 hl2 hf
  unfold f_Gr_measure_B64 at hf
  refine g_iast C rfl d_Gr_measure_64 hf (fun hf => ?_)
  refine g_iinc (v := 1) C d_Gr_measure_65 hl2 (by decide) (by decide) ?_
  refine g_goto (tgt := 20) C d_Gr_measure_68 (by decide) ?_
  exact hk20 _ _ _ _ ((upG hl0 rfl)) ((upG hl1 rfl)) upS hf
set_option maxHeartbeats 4000000 in
theorem t_Gr_measure_L20 {ad : Nat → Nat} {dA : Nat → ClassId} {D : va_G} {p : Program} {l : Launch} {e : Env} {s : State} {m : MethodId} {args : Array Value} {below : List Frame} {meth : Method} {c : Code} {μ' : Mm} (C : Cx CLS SHX ad dA D p s m args meth c c_Gr_measure 4 R_Gr (none)) (N : Nat)   (k10 : Int32 → Mm → Option Mm) (hk10 : ∀ (v1 : Int32) (μ : Mm) (lv : Nat → Option Value), lv 0 = some (.ref (ad 6)) → lv 1 = some (.int v1) → k10 v1 μ = some μ' → Go CLS SHX ad dA D p l e (rmD 1) s m args below meth c 4 none μ' 10 lv [] μ) : ∀ (n : Nat) (v1 : Int32) (v2 : Int32) (μ : Mm) (lv : Nat → Option Value), lv 0 = some (.ref (ad 6)) → lv 1 = some (.int v1) → lv 2 = some (.int v2) → f_Gr_measure_L20 N k10 n v1 v2 μ = some μ' → Go CLS SHX ad dA D p l e (rmD 1) s m args below meth c 4 none μ' 20 lv [] μ := by
  intro n
  induction n with
  | zero => intro v1 v2 μ lv hl0 hl1 hl2 hf; cases (show none = some _ from hf)
  | succ n ih =>
    intro v1 v2 μ lv hl0 hl1 hl2 hf
    unfold f_Gr_measure_L20 at hf
    refine g_iload_n C d_Gr_measure_20 rfl hl2 ?_
    refine g_aload_n C d_Gr_measure_21 rfl hl0 ?_
    refine g_getI (k := 1) C k_Gr (by decide) fl_Gr_15 rfl rfl d_Gr_measure_22 ?_
    refine g_icmp_ge (tgt := 71) C d_Gr_measure_25 (by decide) hf (fun c3 hf => ?_) (fun c3 hf => ?_)
    · exact t_Gr_measure_B71 C N _ hk10 _ _ _ hl0 hl1 hf
    · refine g_aload_n C d_Gr_measure_28 rfl hl0 ?_
      refine g_iload_n C d_Gr_measure_29 rfl hl1 ?_
      refine g_iload_n C d_Gr_measure_30 rfl hl2 ?_
      refine g_cvI C k_Gr rfl mv_Gr_lengthOf ml_Gr_52 d_Gr_measure_31 hf (fun r μ1 h => t_Gr_lengthOf C.2.2.2.2.2.2.2.2.1 h) rfl rfl (by decide) (Nat.le_of_ble_eq_true rfl) (fun r5 μ4 hf => ?_)
      refine g_istore_n C d_Gr_measure_34 rfl (by decide) ?_
      refine g_aload_n C d_Gr_measure_35 rfl (upG hl0 rfl) ?_
      refine g_getR (b := 10) (k := 8) C k_Gr (by decide) fl_Gr_38 rfl rfl d_Gr_measure_36 ?_
      refine g_iload_n C d_Gr_measure_39 rfl (upG hl1 rfl) ?_
      refine g_bipush (v := 16) C d_Gr_measure_40 (by decide) ?_
      refine g_imul C d_Gr_measure_42 ?_
      refine g_iload_n C d_Gr_measure_43 rfl (upG hl2 rfl) ?_
      refine g_iadd C d_Gr_measure_44 ?_
      refine g_iload_n C d_Gr_measure_45 rfl (upG hl1 rfl) ?_
      refine g_iload_n C d_Gr_measure_46 rfl (upG hl2 rfl) ?_
      refine g_icmp_ne (tgt := 54) C d_Gr_measure_47 (by decide) hf (fun c6 hf => ?_) (fun c6 hf => ?_)
      · refine g_iconst (v := 0) C d_Gr_measure_50 (by decide) ?_
        refine g_goto (tgt := 64) C d_Gr_measure_51 (by decide) ?_
        exact t_Gr_measure_B64 C N _ hk10 _ ih _ _ _ _ _ _ ((upG hl0 rfl)) ((upG hl1 rfl)) ((upG hl2 rfl)) hf
      · refine g_iload_n C d_Gr_measure_54 rfl upS ?_
        refine g_if_le (tgt := 62) C d_Gr_measure_55 (by decide) hf (fun c7 hf => ?_) (fun c7 hf => ?_)
        · refine g_ldc C ck_Gr_56 d_Gr_measure_62 ?_
          exact t_Gr_measure_B64 C N _ hk10 _ ih _ _ _ _ _ _ ((upG hl0 rfl)) ((upG hl1 rfl)) ((upG hl2 rfl)) hf
        · refine g_iload_n C d_Gr_measure_58 rfl upS ?_
          refine g_goto (tgt := 64) C d_Gr_measure_59 (by decide) ?_
          exact t_Gr_measure_B64 C N _ hk10 _ ih _ _ _ _ _ _ ((upG hl0 rfl)) ((upG hl1 rfl)) ((upG hl2 rfl)) hf
set_option maxHeartbeats 4000000 in
theorem t_Gr_measure_L10 {ad : Nat → Nat} {dA : Nat → ClassId} {D : va_G} {p : Program} {l : Launch} {e : Env} {s : State} {m : MethodId} {args : Array Value} {below : List Frame} {meth : Method} {c : Code} {μ' : Mm} (C : Cx CLS SHX ad dA D p s m args meth c c_Gr_measure 4 R_Gr (none)) (N : Nat)   : ∀ (n : Nat) (v1 : Int32) (μ : Mm) (lv : Nat → Option Value), lv 0 = some (.ref (ad 6)) → lv 1 = some (.int v1) → f_Gr_measure_L10 N n v1 μ = some μ' → Go CLS SHX ad dA D p l e (rmD 1) s m args below meth c 4 none μ' 10 lv [] μ := by
  intro n
  induction n with
  | zero => intro v1 μ lv hl0 hl1 hf; cases (show none = some _ from hf)
  | succ n ih =>
    intro v1 μ lv hl0 hl1 hf
    unfold f_Gr_measure_L10 at hf
    refine g_iload_n C d_Gr_measure_10 rfl hl1 ?_
    refine g_aload_n C d_Gr_measure_11 rfl hl0 ?_
    refine g_getI (k := 1) C k_Gr (by decide) fl_Gr_15 rfl rfl d_Gr_measure_12 ?_
    refine g_icmp_ge (tgt := 77) C d_Gr_measure_15 (by decide) hf (fun c2 hf => ?_) (fun c2 hf => ?_)
    · exact t_Gr_measure_B77 C N _ _ hl0 hf
    · refine g_iconst (v := 0) C d_Gr_measure_18 (by decide) ?_
      refine g_istore_n C d_Gr_measure_19 rfl (by decide) ?_
      exact t_Gr_measure_L20 C N _ ih N _ _ _ _ ((upG hl0 rfl)) ((upG hl1 rfl)) upS hf
set_option maxHeartbeats 4000000 in
theorem t_Gr_measure {l : Launch} {ad : Nat → Nat} {dA : Nat → ClassId} {D : va_G} (hi : Inj SHX ad) {N : Nat}   {μ μ' : Mm} (hf : f_Gr_measure N  μ = some μ') : Ct CLS l SHX ad dA D y_Gr_measure c_Gr_measure 4 (none) 1 [.ref (ad 6)] μ none μ' := by
  unfold f_Gr_measure at hf
  refine ct_of (by decide) hi (Nat.le_of_ble_eq_true rfl) ?_
  intro p e s m args below meth c C
  refine g_aload_n C d_Gr_measure_0 rfl rfl ?_
  refine g_getI (k := 9) C k_Gr (by decide) fl_Gr_41 rfl rfl d_Gr_measure_1 ?_
  refine g_if_ne (tgt := 8) C d_Gr_measure_4 (by decide) hf (fun c1 hf => ?_) (fun c1 hf => ?_)
  · exact g_vret C d_Gr_measure_7 hf
  · refine g_iconst (v := 0) C d_Gr_measure_8 (by decide) ?_
    refine g_istore_n C d_Gr_measure_9 rfl (by decide) ?_
    exact t_Gr_measure_L10 C N N _ _ _ ((upG rfl rfl)) upS hf
set_option maxHeartbeats 4000000 in
theorem t_Gr_has {l : Launch} {ad : Nat → Nat} {dA : Nat → ClassId} {D : va_G} (hi : Inj SHX ad) {N : Nat} {a1 : Int32}  {μ μ' : Mm} {r : Int32} (hf : f_Gr_has N a1 μ = some (r, μ')) : Ct CLS l SHX ad dA D y_Gr_has c_Gr_has 2 (some .boolean) 0 [.ref (ad 6), .int a1] μ (some (.int r)) μ' := by
  unfold f_Gr_has at hf
  refine ct_of (by decide) hi (Nat.le_of_ble_eq_true rfl) ?_
  intro p e s m args below meth c C
  refine g_iload_n C d_Gr_has_0 rfl rfl ?_
  refine g_if_lt (tgt := 16) C d_Gr_has_1 (by decide) hf (fun c1 hf => ?_) (fun c1 hf => ?_)
  · refine g_iconst (v := 0) C d_Gr_has_16 (by decide) ?_
    exact g_zretc C d_Gr_has_17 rfl hf
  · refine g_iload_n C d_Gr_has_4 rfl rfl ?_
    refine g_aload_n C d_Gr_has_5 rfl rfl ?_
    refine g_getI (k := 1) C k_Gr (by decide) fl_Gr_15 rfl rfl d_Gr_has_6 ?_
    refine g_icmp_ge (tgt := 16) C d_Gr_has_9 (by decide) hf (fun c2 hf => ?_) (fun c2 hf => ?_)
    · refine g_iconst (v := 0) C d_Gr_has_16 (by decide) ?_
      exact g_zretc C d_Gr_has_17 rfl hf
    · refine g_iconst (v := 1) C d_Gr_has_12 (by decide) ?_
      refine g_goto (tgt := 17) C d_Gr_has_13 (by decide) ?_
      exact g_zretc C d_Gr_has_17 rfl hf
set_option maxHeartbeats 4000000 in
theorem t_Gr_farOf {l : Launch} {ad : Nat → Nat} {dA : Nat → ClassId} {D : va_G} (hi : Inj SHX ad) {N : Nat} {a1 : Int32} {a2 : Int32}  {μ μ' : Mm} {r : Int32} (hf : f_Gr_farOf N a1 a2 μ = some (r, μ')) : Ct CLS l SHX ad dA D y_Gr_farOf c_Gr_farOf 4 (some .int) 0 [.ref (ad 6), .int a1, .int a2] μ (some (.int r)) μ' := by
  unfold f_Gr_farOf at hf
  refine ct_of (by decide) hi (Nat.le_of_ble_eq_true rfl) ?_
  intro p e s m args below meth c C
  refine g_aload_n C d_Gr_farOf_0 rfl rfl ?_
  refine g_getR (b := 10) (k := 8) C k_Gr (by decide) fl_Gr_38 rfl rfl d_Gr_farOf_1 ?_
  refine g_iload_n C d_Gr_farOf_4 rfl rfl ?_
  refine g_bipush (v := 16) C d_Gr_farOf_5 (by decide) ?_
  refine g_imul C d_Gr_farOf_7 ?_
  refine g_iload_n C d_Gr_farOf_8 rfl rfl ?_
  refine g_iadd C d_Gr_farOf_9 ?_
  refine g_iald C rfl d_Gr_farOf_10 hf (fun hf => ?_)
  refine g_istore_n C d_Gr_farOf_11 rfl (by decide) ?_
  refine g_iload_n C d_Gr_farOf_12 rfl upS ?_
  refine g_ldc C ck_Gr_56 d_Gr_farOf_13 ?_
  refine g_icmp_ge (tgt := 22) C d_Gr_farOf_15 (by decide) hf (fun c3 hf => ?_) (fun c3 hf => ?_)
  · refine g_bipush (v := -9) C d_Gr_farOf_22 (by decide) ?_
    exact g_iret C d_Gr_farOf_24 hf
  · refine g_iload_n C d_Gr_farOf_18 rfl upS ?_
    refine g_goto (tgt := 24) C d_Gr_farOf_19 (by decide) ?_
    exact g_iret C d_Gr_farOf_24 hf
set_option maxHeartbeats 4000000 in
theorem t_Gr_within_B52 {ad : Nat → Nat} {dA : Nat → ClassId} {D : va_G} {p : Program} {l : Launch} {e : Env} {s : State} {m : MethodId} {args : Array Value} {below : List Frame} {meth : Method} {c : Code} {r : Int32} {μ' : Mm} (C : Cx CLS SHX ad dA D p s m args meth c c_Gr_within 6 R_Gr (some .int)) (N : Nat)   (k14 : Int32 → Int32 → Int32 → Int32 → Mm → Option (Int32 × Mm)) (hk14 : ∀ (v1 : Int32) (v2 : Int32) (v3 : Int32) (v4 : Int32) (μ : Mm) (lv : Nat → Option Value), lv 0 = some (.ref (ad 6)) → lv 1 = some (.int v1) → lv 2 = some (.int v2) → lv 3 = some (.int v3) → lv 4 = some (.int v4) → k14 v1 v2 v3 v4 μ = some (r, μ') → Go CLS SHX ad dA D p l e (rmD 1) s m args below meth c 6 (some (.int r)) μ' 14 lv [] μ) : ∀ (v1 : Int32) (v2 : Int32) (v4 : Int32) (s0 : Int32) (s1 : Int32) (μ : Mm) (lv : Nat → Option Value), lv 0 = some (.ref (ad 6)) → lv 1 = some (.int v1) → lv 2 = some (.int v2) → lv 4 = some (.int v4) → f_Gr_within_B52 N k14 v1 v2 v4 s0 s1 μ = some (r, μ') → Go CLS SHX ad dA D p l e (rmD 1) s m args below meth c 6 (some (.int r)) μ' 52 lv [.int s1, .int s0] μ := by
  intro v1 v2 v4 s0 s1 μ lv hl0 hl1 hl2 hl4 hf
  unfold f_Gr_within_B52 at hf
  refine g_ior C d_Gr_within_52 ?_
  refine g_istore_n C d_Gr_within_53 rfl (by decide) ?_
  refine g_iinc (v := 1) C d_Gr_within_54 (upG hl4 rfl) (by decide) (by decide) ?_
  refine g_goto (tgt := 14) C d_Gr_within_57 (by decide) ?_
  exact hk14 _ _ _ _ _ _ ((upG (upG hl0 rfl) rfl)) ((upG (upG hl1 rfl) rfl)) ((upG (upG hl2 rfl) rfl)) ((upG upS rfl)) upS hf
set_option maxHeartbeats 4000000 in
theorem t_Gr_within_B51 {ad : Nat → Nat} {dA : Nat → ClassId} {D : va_G} {p : Program} {l : Launch} {e : Env} {s : State} {m : MethodId} {args : Array Value} {below : List Frame} {meth : Method} {c : Code} {r : Int32} {μ' : Mm} (C : Cx CLS SHX ad dA D p s m args meth c c_Gr_within 6 R_Gr (some .int)) (N : Nat)   (k14 : Int32 → Int32 → Int32 → Int32 → Mm → Option (Int32 × Mm)) (hk14 : ∀ (v1 : Int32) (v2 : Int32) (v3 : Int32) (v4 : Int32) (μ : Mm) (lv : Nat → Option Value), lv 0 = some (.ref (ad 6)) → lv 1 = some (.int v1) → lv 2 = some (.int v2) → lv 3 = some (.int v3) → lv 4 = some (.int v4) → k14 v1 v2 v3 v4 μ = some (r, μ') → Go CLS SHX ad dA D p l e (rmD 1) s m args below meth c 6 (some (.int r)) μ' 14 lv [] μ) : ∀ (v1 : Int32) (v2 : Int32) (v4 : Int32) (s0 : Int32) (μ : Mm) (lv : Nat → Option Value), lv 0 = some (.ref (ad 6)) → lv 1 = some (.int v1) → lv 2 = some (.int v2) → lv 4 = some (.int v4) → f_Gr_within_B51 N k14 v1 v2 v4 s0 μ = some (r, μ') → Go CLS SHX ad dA D p l e (rmD 1) s m args below meth c 6 (some (.int r)) μ' 51 lv [.int s0] μ := by
  intro v1 v2 v4 s0 μ lv hl0 hl1 hl2 hl4 hf
  unfold f_Gr_within_B51 at hf
  refine g_iconst (v := 0) C d_Gr_within_51 (by decide) ?_
  exact t_Gr_within_B52 C N _ hk14 _ _ _ _ _ _ _ hl0 hl1 hl2 hl4 hf
set_option maxHeartbeats 4000000 in
theorem t_Gr_within_L14 {ad : Nat → Nat} {dA : Nat → ClassId} {D : va_G} {p : Program} {l : Launch} {e : Env} {s : State} {m : MethodId} {args : Array Value} {below : List Frame} {meth : Method} {c : Code} {r : Int32} {μ' : Mm} (C : Cx CLS SHX ad dA D p s m args meth c c_Gr_within 6 R_Gr (some .int)) (N : Nat)   : ∀ (n : Nat) (v1 : Int32) (v2 : Int32) (v3 : Int32) (v4 : Int32) (μ : Mm) (lv : Nat → Option Value), lv 0 = some (.ref (ad 6)) → lv 1 = some (.int v1) → lv 2 = some (.int v2) → lv 3 = some (.int v3) → lv 4 = some (.int v4) → f_Gr_within_L14 N n v1 v2 v3 v4 μ = some (r, μ') → Go CLS SHX ad dA D p l e (rmD 1) s m args below meth c 6 (some (.int r)) μ' 14 lv [] μ := by
  intro n
  induction n with
  | zero => intro v1 v2 v3 v4 μ lv hl0 hl1 hl2 hl3 hl4 hf; cases (show none = some _ from hf)
  | succ n ih =>
    intro v1 v2 v3 v4 μ lv hl0 hl1 hl2 hl3 hl4 hf
    unfold f_Gr_within_L14 at hf
    refine g_iload C d_Gr_within_14 hl4 ?_
    refine g_aload_n C d_Gr_within_16 rfl hl0 ?_
    refine g_getI (k := 1) C k_Gr (by decide) fl_Gr_15 rfl rfl d_Gr_within_17 ?_
    refine g_icmp_ge (tgt := 60) C d_Gr_within_20 (by decide) hf (fun c2 hf => ?_) (fun c2 hf => ?_)
    · refine g_iload_n C d_Gr_within_60 rfl hl3 ?_
      exact g_iret C d_Gr_within_61 hf
    · refine g_aload_n C d_Gr_within_23 rfl hl0 ?_
      refine g_iload_n C d_Gr_within_24 rfl hl1 ?_
      refine g_iload C d_Gr_within_25 hl4 ?_
      refine g_cvI C k_Gr rfl mv_Gr_farOf ml_Gr_61 d_Gr_within_27 hf (fun r μ1 h => t_Gr_farOf C.2.2.2.2.2.2.2.2.1 h) rfl rfl (by decide) (Nat.le_of_ble_eq_true rfl) (fun r4 μ3 hf => ?_)
      refine g_istore C d_Gr_within_30 (by decide) ?_
      refine g_iload_n C d_Gr_within_32 rfl (upG hl3 rfl) ?_
      refine g_iload C d_Gr_within_33 upS ?_
      refine g_if_lt (tgt := 51) C d_Gr_within_35 (by decide) hf (fun c5 hf => ?_) (fun c5 hf => ?_)
      · exact t_Gr_within_B51 C N _ ih _ _ _ _ _ _ ((upG hl0 rfl)) ((upG hl1 rfl)) ((upG hl2 rfl)) ((upG hl4 rfl)) hf
      · refine g_iload C d_Gr_within_38 upS ?_
        refine g_iload_n C d_Gr_within_40 rfl (upG hl2 rfl) ?_
        refine g_icmp_gt (tgt := 51) C d_Gr_within_41 (by decide) hf (fun c6 hf => ?_) (fun c6 hf => ?_)
        · exact t_Gr_within_B51 C N _ ih _ _ _ _ _ _ ((upG hl0 rfl)) ((upG hl1 rfl)) ((upG hl2 rfl)) ((upG hl4 rfl)) hf
        · refine g_iconst (v := 1) C d_Gr_within_44 (by decide) ?_
          refine g_iload C d_Gr_within_45 (upG hl4 rfl) ?_
          refine g_ishl C d_Gr_within_47 ?_
          refine g_goto (tgt := 52) C d_Gr_within_48 (by decide) ?_
          exact t_Gr_within_B52 C N _ ih _ _ _ _ _ _ _ ((upG hl0 rfl)) ((upG hl1 rfl)) ((upG hl2 rfl)) ((upG hl4 rfl)) hf
set_option maxHeartbeats 4000000 in
theorem t_Gr_within {l : Launch} {ad : Nat → Nat} {dA : Nat → ClassId} {D : va_G} (hi : Inj SHX ad) {N : Nat} {a1 : Int32} {a2 : Int32}  {μ μ' : Mm} {r : Int32} (hf : f_Gr_within N a1 a2 μ = some (r, μ')) : Ct CLS l SHX ad dA D y_Gr_within c_Gr_within 6 (some .int) 1 [.ref (ad 6), .int a1, .int a2] μ (some (.int r)) μ' := by
  unfold f_Gr_within at hf
  refine ct_of (by decide) hi (Nat.le_of_ble_eq_true rfl) ?_
  intro p e s m args below meth c C
  refine g_iload_n C d_Gr_within_0 rfl rfl ?_
  refine g_iconst (v := 1) C d_Gr_within_1 (by decide) ?_
  refine g_icmp_ge (tgt := 9) C d_Gr_within_2 (by decide) hf (fun c1 hf => ?_) (fun c1 hf => ?_)
  · refine g_iconst (v := 0) C d_Gr_within_9 (by decide) ?_
    refine g_istore_n C d_Gr_within_10 rfl (by decide) ?_
    refine g_iconst (v := 0) C d_Gr_within_11 (by decide) ?_
    refine g_istore C d_Gr_within_12 (by decide) ?_
    exact t_Gr_within_L14 C N N _ _ _ _ _ _ ((upG (upG rfl rfl) rfl)) ((upG (upG rfl rfl) rfl)) ((upG (upG rfl rfl) rfl)) ((upG upS rfl)) upS hf
  · refine g_iconst (v := 1) C d_Gr_within_5 (by decide) ?_
    refine g_iload_n C d_Gr_within_6 rfl rfl ?_
    refine g_ishl C d_Gr_within_7 ?_
    exact g_iret C d_Gr_within_8 hf
set_option maxHeartbeats 4000000 in
theorem t_Wk_legBehind {l : Launch} {ad : Nat → Nat} {dA : Nat → ClassId} {D : va_G} (hi : Inj SHX ad) {N : Nat} {j : Nat} {a1 : Int32} (hj : j < 8) {μ μ' : Mm} {r : Int32} (hf : f_Wk_legBehind N j a1 μ = some (r, μ')) : Ct CLS l SHX ad dA D y_Wk_legBehind c_Wk_legBehind 2 (some .int) 0 [.ref (ad (WK j)), .int a1] μ (some (.int r)) μ' := by
  unfold f_Wk_legBehind at hf
  refine ct_of (by decide) hi (Nat.le_of_ble_eq_true rfl) ?_
  intro p e s m args below meth c C
  refine g_iload_n C d_Wk_legBehind_0 rfl rfl ?_
  refine g_iconst (v := 1) C d_Wk_legBehind_1 (by decide) ?_
  refine g_iadd C d_Wk_legBehind_2 ?_
  refine g_aload_n C d_Wk_legBehind_3 rfl rfl ?_
  refine g_getI (k := 8) C k_Wk (by decide) fl_Wk_37 (shW _ hj) rfl d_Wk_legBehind_4 ?_
  refine g_icmp_ge (tgt := 16) C d_Wk_legBehind_7 (by decide) hf (fun c1 hf => ?_) (fun c1 hf => ?_)
  · refine g_iconst (v := 0) C d_Wk_legBehind_16 (by decide) ?_
    exact g_iret C d_Wk_legBehind_17 hf
  · refine g_iload_n C d_Wk_legBehind_10 rfl rfl ?_
    refine g_iconst (v := 1) C d_Wk_legBehind_11 (by decide) ?_
    refine g_iadd C d_Wk_legBehind_12 ?_
    refine g_goto (tgt := 17) C d_Wk_legBehind_13 (by decide) ?_
    exact g_iret C d_Wk_legBehind_17 hf
set_option maxHeartbeats 4000000 in
theorem t_Gr_isBase {l : Launch} {ad : Nat → Nat} {dA : Nat → ClassId} {D : va_G} (hi : Inj SHX ad) {N : Nat} {a1 : Int32}  {μ μ' : Mm} {r : Int32} (hf : f_Gr_isBase N a1 μ = some (r, μ')) : Ct CLS l SHX ad dA D y_Gr_isBase c_Gr_isBase 2 (some .boolean) 0 [.ref (ad 6), .int a1] μ (some (.int r)) μ' := by
  unfold f_Gr_isBase at hf
  refine ct_of (by decide) hi (Nat.le_of_ble_eq_true rfl) ?_
  intro p e s m args below meth c C
  refine g_aload_n C d_Gr_isBase_0 rfl rfl ?_
  refine g_getR (b := 9) (k := 7) C k_Gr (by decide) fl_Gr_34 rfl rfl d_Gr_isBase_1 ?_
  refine g_iload_n C d_Gr_isBase_4 rfl rfl ?_
  refine g_zald C rfl d_Gr_isBase_5 hf (fun hf => ?_)
  exact g_zret C d_Gr_isBase_6 hf
set_option maxHeartbeats 4000000 in
theorem t_Jm_max_7cf53 {CL : List vw_C} {SH : List Shp} {l : Launch} {ad : Nat → Nat} {dA : Nat → ClassId} {D : va_G} (hi : Inj SH ad) {N : Nat} {a1 : Int32} {a2 : Int32}  {μ μ' : Mm} {r : Int32} (hf : f_Jm_max_7cf53 N a1 a2 μ = some (r, μ')) : Ct CL l SH ad dA D y_Jm_max_7cf53 c_Jm_max_7cf53 2 (some .int) 0 [.int a1, .int a2] μ (some (.int r)) μ' := by
  unfold f_Jm_max_7cf53 at hf
  refine ct_ofF (by decide +kernel) hi (Nat.le_of_ble_eq_true rfl) ?_
  intro p e s m args below meth c C
  refine g_iload_n C d_Jm_max_7cf53_0 rfl rfl ?_
  refine g_iload_n C d_Jm_max_7cf53_1 rfl rfl ?_
  refine g_icmp_lt (tgt := 9) C d_Jm_max_7cf53_2 (by decide) hf (fun c1 hf => ?_) (fun c1 hf => ?_)
  · refine g_iload_n C d_Jm_max_7cf53_9 rfl rfl ?_
    exact g_iret C d_Jm_max_7cf53_10 hf
  · refine g_iload_n C d_Jm_max_7cf53_5 rfl rfl ?_
    refine g_goto (tgt := 10) C d_Jm_max_7cf53_6 (by decide) ?_
    exact g_iret C d_Jm_max_7cf53_10 hf
set_option maxHeartbeats 4000000 in
theorem t_Wk_longestRide_B115 {ad : Nat → Nat} {dA : Nat → ClassId} {D : va_G} {p : Program} {l : Launch} {e : Env} {s : State} {m : MethodId} {args : Array Value} {below : List Frame} {meth : Method} {c : Code} {r : Int32} {μ' : Mm} (C : Cx CLS SHX ad dA D p s m args meth c c_Wk_longestRide 8 R_Wk (some .int)) (N : Nat) {j : Nat} (hj : j < 8) (k51 : Int32 → Int32 → Int32 → Int32 → Mm → Option (Int32 × Mm)) (hk51 : ∀ (v3 : Int32) (v4 : Int32) (v5 : Int32) (v6 : Int32) (μ : Mm) (lv : Nat → Option Value), lv 0 = some (.ref (ad (WK j))) → lv 1 = some (.ref (ad 6)) → lv 3 = some (.int v3) → lv 4 = some (.int v4) → lv 5 = some (.int v5) → lv 6 = some (.int v6) → k51 v3 v4 v5 v6 μ = some (r, μ') → Go CLS SHX ad dA D p l e (rmD 1) s m args below meth c 8 (some (.int r)) μ' 51 lv [] μ) : ∀ (v3 : Int32) (v4 : Int32) (v6 : Int32) (v7 : Int32) (μ : Mm) (lv : Nat → Option Value), lv 0 = some (.ref (ad (WK j))) → lv 1 = some (.ref (ad 6)) → lv 3 = some (.int v3) → lv 4 = some (.int v4) → lv 6 = some (.int v6) → lv 7 = some (.int v7) → f_Wk_longestRide_B115 N j k51 v3 v4 v6 v7 μ = some (r, μ') → Go CLS SHX ad dA D p l e (rmD 1) s m args below meth c 8 (some (.int r)) μ' 115 lv [] μ := by
  intro v3 v4 v6 v7 μ lv hl0 hl1 hl3 hl4 hl6 hl7 hf
  unfold f_Wk_longestRide_B115 at hf
  refine g_iload C d_Wk_longestRide_115 hl7 ?_
  refine g_istore C d_Wk_longestRide_117 (by decide) ?_
  refine g_iinc (v := 1) C d_Wk_longestRide_119 (upG hl6 rfl) (by decide) (by decide) ?_
  refine g_goto (tgt := 51) C d_Wk_longestRide_122 (by decide) ?_
  exact hk51 _ _ _ _ _ _ ((upG (upG hl0 rfl) rfl)) ((upG (upG hl1 rfl) rfl)) ((upG (upG hl3 rfl) rfl)) ((upG (upG hl4 rfl) rfl)) ((upG upS rfl)) upS hf
set_option maxHeartbeats 4000000 in
theorem t_Wk_longestRide_L51 {ad : Nat → Nat} {dA : Nat → ClassId} {D : va_G} {p : Program} {l : Launch} {e : Env} {s : State} {m : MethodId} {args : Array Value} {below : List Frame} {meth : Method} {c : Code} {r : Int32} {μ' : Mm} (C : Cx CLS SHX ad dA D p s m args meth c c_Wk_longestRide 8 R_Wk (some .int)) (N : Nat) {j : Nat} (hj : j < 8) : ∀ (n : Nat) (v3 : Int32) (v4 : Int32) (v5 : Int32) (v6 : Int32) (μ : Mm) (lv : Nat → Option Value), lv 0 = some (.ref (ad (WK j))) → lv 1 = some (.ref (ad 6)) → lv 3 = some (.int v3) → lv 4 = some (.int v4) → lv 5 = some (.int v5) → lv 6 = some (.int v6) → f_Wk_longestRide_L51 N j n v3 v4 v5 v6 μ = some (r, μ') → Go CLS SHX ad dA D p l e (rmD 1) s m args below meth c 8 (some (.int r)) μ' 51 lv [] μ := by
  intro n
  induction n with
  | zero => intro v3 v4 v5 v6 μ lv hl0 hl1 hl3 hl4 hl5 hl6 hf; cases (show none = some _ from hf)
  | succ n ih =>
    intro v3 v4 v5 v6 μ lv hl0 hl1 hl3 hl4 hl5 hl6 hf
    unfold f_Wk_longestRide_L51 at hf
    refine g_iload C d_Wk_longestRide_51 hl6 ?_
    refine g_aload_n C d_Wk_longestRide_53 rfl hl0 ?_
    refine g_getI (k := 8) C k_Wk (by decide) fl_Wk_37 (shW _ hj) rfl d_Wk_longestRide_54 ?_
    refine g_icmp_ge (tgt := 125) C d_Wk_longestRide_57 (by decide) hf (fun c7 hf => ?_) (fun c7 hf => ?_)
    · refine g_iload_n C d_Wk_longestRide_125 rfl hl3 ?_
      exact g_iret C d_Wk_longestRide_126 hf
    · refine g_aload_n C d_Wk_longestRide_60 rfl hl0 ?_
      refine g_iload C d_Wk_longestRide_61 hl5 ?_
      refine g_cvI C k_Wk (shW _ hj) mv_Wk_legBehind ml_Wk_71 d_Wk_longestRide_63 hf (fun r μ1 h => t_Wk_legBehind C.2.2.2.2.2.2.2.2.1 hj h) rfl rfl (by decide) (Nat.le_of_ble_eq_true rfl) (fun r9 μ8 hf => ?_)
      refine g_istore C d_Wk_longestRide_66 (by decide) ?_
      refine g_iload C d_Wk_longestRide_68 (upG hl4 rfl) ?_
      refine g_aload_n C d_Wk_longestRide_70 rfl (upG hl1 rfl) ?_
      refine g_aload_n C d_Wk_longestRide_71 rfl (upG hl0 rfl) ?_
      refine g_getR (b := WK _ + 1) (k := 9) C k_Wk (by decide) fl_Wk_40 (shW _ hj) rfl d_Wk_longestRide_72 ?_
      refine g_iload C d_Wk_longestRide_75 (upG hl5 rfl) ?_
      refine g_iald C (shW1 _ hj) d_Wk_longestRide_77 hf (fun hf => ?_)
      refine g_aload_n C d_Wk_longestRide_78 rfl (upG hl0 rfl) ?_
      refine g_getR (b := WK _ + 1) (k := 9) C k_Wk (by decide) fl_Wk_40 (shW _ hj) rfl d_Wk_longestRide_79 ?_
      refine g_iload C d_Wk_longestRide_82 upS ?_
      refine g_iald C (shW1 _ hj) d_Wk_longestRide_84 hf (fun hf => ?_)
      refine g_cvI C k_Gr rfl mv_Gr_lengthOf ml_Wk_75 d_Wk_longestRide_85 hf (fun r μ1 h => t_Gr_lengthOf C.2.2.2.2.2.2.2.2.1 h) rfl rfl (by decide) (Nat.le_of_ble_eq_true rfl) (fun r11 μ10 hf => ?_)
      refine g_iadd C d_Wk_longestRide_88 ?_
      refine g_istore C d_Wk_longestRide_89 (by decide) ?_
      refine g_aload_n C d_Wk_longestRide_91 rfl (upG (upG hl1 rfl) rfl) ?_
      refine g_aload_n C d_Wk_longestRide_92 rfl (upG (upG hl0 rfl) rfl) ?_
      refine g_getR (b := WK _ + 1) (k := 9) C k_Wk (by decide) fl_Wk_40 (shW _ hj) rfl d_Wk_longestRide_93 ?_
      refine g_iload C d_Wk_longestRide_96 (upG upS rfl) ?_
      refine g_iald C (shW1 _ hj) d_Wk_longestRide_98 hf (fun hf => ?_)
      refine g_cvI C k_Gr rfl mv_Gr_isBase ml_Wk_86 d_Wk_longestRide_99 hf (fun r μ1 h => t_Gr_isBase C.2.2.2.2.2.2.2.2.1 h) rfl rfl (by decide) (Nat.le_of_ble_eq_true rfl) (fun r14 μ13 hf => ?_)
      refine g_if_eq (tgt := 115) C d_Wk_longestRide_102 (by decide) hf (fun c15 hf => ?_) (fun c15 hf => ?_)
      · exact t_Wk_longestRide_B115 C N hj _ ih _ _ _ _ _ _ ((upG (upG hl0 rfl) rfl)) ((upG (upG hl1 rfl) rfl)) ((upG (upG hl3 rfl) rfl)) upS ((upG (upG hl6 rfl) rfl)) ((upG upS rfl)) hf
      · refine g_iload_n C d_Wk_longestRide_105 rfl (upG (upG hl3 rfl) rfl) ?_
        refine g_iload C d_Wk_longestRide_106 upS ?_
        refine g_csI C mv_Jm_max_7cf53 ml_Wk_89 d_Wk_longestRide_108 hf (fun r μ1 h => t_Jm_max_7cf53 C.2.2.2.2.2.2.2.2.1 h) rfl rfl (by decide) (Nat.le_of_ble_eq_true rfl) (fun r17 μ16 hf => ?_)
        refine g_istore_n C d_Wk_longestRide_111 rfl (by decide) ?_
        refine g_iconst (v := 0) C d_Wk_longestRide_112 (by decide) ?_
        refine g_istore C d_Wk_longestRide_113 (by decide) ?_
        exact t_Wk_longestRide_B115 C N hj _ ih _ _ _ _ _ _ ((upG (upG (upG (upG hl0 rfl) rfl) rfl) rfl)) ((upG (upG (upG (upG hl1 rfl) rfl) rfl) rfl)) ((upG upS rfl)) upS ((upG (upG (upG (upG hl6 rfl) rfl) rfl) rfl)) ((upG (upG (upG upS rfl) rfl) rfl)) hf
set_option maxHeartbeats 4000000 in
theorem t_Wk_longestRide_B29 {ad : Nat → Nat} {dA : Nat → ClassId} {D : va_G} {p : Program} {l : Launch} {e : Env} {s : State} {m : MethodId} {args : Array Value} {below : List Frame} {meth : Method} {c : Code} {r : Int32} {μ' : Mm} (C : Cx CLS SHX ad dA D p s m args meth c c_Wk_longestRide 8 R_Wk (some .int)) (N : Nat) {j : Nat} (hj : j < 8) : ∀ (v2 : Int32) (μ : Mm) (lv : Nat → Option Value), lv 0 = some (.ref (ad (WK j))) → lv 1 = some (.ref (ad 6)) → lv 2 = some (.int v2) → f_Wk_longestRide_B29 N j v2 μ = some (r, μ') → Go CLS SHX ad dA D p l e (rmD 1) s m args below meth c 8 (some (.int r)) μ' 29 lv [] μ := by
  intro v2 μ lv hl0 hl1 hl2 hf
  unfold f_Wk_longestRide_B29 at hf
  refine g_iload_n C d_Wk_longestRide_29 rfl hl2 ?_
  refine g_aload_n C d_Wk_longestRide_30 rfl hl0 ?_
  refine g_getI (k := 8) C k_Wk (by decide) fl_Wk_37 (shW _ hj) rfl d_Wk_longestRide_31 ?_
  refine g_icmp_lt (tgt := 40) C d_Wk_longestRide_34 (by decide) hf (fun c6 hf => ?_) (fun c6 hf => ?_)
  · refine g_iconst (v := 0) C d_Wk_longestRide_40 (by decide) ?_
    refine g_istore_n C d_Wk_longestRide_41 rfl (by decide) ?_
    refine g_iconst (v := 0) C d_Wk_longestRide_42 (by decide) ?_
    refine g_istore C d_Wk_longestRide_43 (by decide) ?_
    refine g_iload_n C d_Wk_longestRide_45 rfl (upG (upG hl2 rfl) rfl) ?_
    refine g_istore C d_Wk_longestRide_46 (by decide) ?_
    refine g_iconst (v := 0) C d_Wk_longestRide_48 (by decide) ?_
    refine g_istore C d_Wk_longestRide_49 (by decide) ?_
    exact t_Wk_longestRide_L51 C N hj N _ _ _ _ _ _ ((upG (upG (upG (upG hl0 rfl) rfl) rfl) rfl)) ((upG (upG (upG (upG hl1 rfl) rfl) rfl) rfl)) ((upG (upG (upG upS rfl) rfl) rfl)) ((upG (upG upS rfl) rfl)) ((upG upS rfl)) upS hf
  · refine g_bipush (v := -9) C d_Wk_longestRide_37 (by decide) ?_
    exact g_iret C d_Wk_longestRide_39 hf
set_option maxHeartbeats 4000000 in
theorem t_Wk_longestRide_L2 {ad : Nat → Nat} {dA : Nat → ClassId} {D : va_G} {p : Program} {l : Launch} {e : Env} {s : State} {m : MethodId} {args : Array Value} {below : List Frame} {meth : Method} {c : Code} {r : Int32} {μ' : Mm} (C : Cx CLS SHX ad dA D p s m args meth c c_Wk_longestRide 8 R_Wk (some .int)) (N : Nat) {j : Nat} (hj : j < 8) : ∀ (n : Nat) (v2 : Int32) (μ : Mm) (lv : Nat → Option Value), lv 0 = some (.ref (ad (WK j))) → lv 1 = some (.ref (ad 6)) → lv 2 = some (.int v2) → f_Wk_longestRide_L2 N j n v2 μ = some (r, μ') → Go CLS SHX ad dA D p l e (rmD 1) s m args below meth c 8 (some (.int r)) μ' 2 lv [] μ := by
  intro n
  induction n with
  | zero => intro v2 μ lv hl0 hl1 hl2 hf; cases (show none = some _ from hf)
  | succ n ih =>
    intro v2 μ lv hl0 hl1 hl2 hf
    unfold f_Wk_longestRide_L2 at hf
    refine g_iload_n C d_Wk_longestRide_2 rfl hl2 ?_
    refine g_aload_n C d_Wk_longestRide_3 rfl hl0 ?_
    refine g_getI (k := 8) C k_Wk (by decide) fl_Wk_37 (shW _ hj) rfl d_Wk_longestRide_4 ?_
    refine g_icmp_ge (tgt := 29) C d_Wk_longestRide_7 (by decide) hf (fun c1 hf => ?_) (fun c1 hf => ?_)
    · exact t_Wk_longestRide_B29 C N hj _ _ _ hl0 hl1 hl2 hf
    · refine g_aload_n C d_Wk_longestRide_10 rfl hl1 ?_
      refine g_aload_n C d_Wk_longestRide_11 rfl hl0 ?_
      refine g_getR (b := WK _ + 1) (k := 9) C k_Wk (by decide) fl_Wk_40 (shW _ hj) rfl d_Wk_longestRide_12 ?_
      refine g_iload_n C d_Wk_longestRide_15 rfl hl2 ?_
      refine g_iald C (shW1 _ hj) d_Wk_longestRide_16 hf (fun hf => ?_)
      refine g_cvI C k_Gr rfl mv_Gr_isBase ml_Wk_86 d_Wk_longestRide_17 hf (fun r μ1 h => t_Gr_isBase C.2.2.2.2.2.2.2.2.1 h) rfl rfl (by decide) (Nat.le_of_ble_eq_true rfl) (fun r3 μ2 hf => ?_)
      refine g_if_ne (tgt := 29) C d_Wk_longestRide_20 (by decide) hf (fun c4 hf => ?_) (fun c4 hf => ?_)
      · refine g_iinc (v := 1) C d_Wk_longestRide_23 hl2 (by decide) (by decide) ?_
        refine g_goto (tgt := 2) C d_Wk_longestRide_26 (by decide) ?_
        exact ih _ _ _ ((upG hl0 rfl)) ((upG hl1 rfl)) upS hf
      · exact t_Wk_longestRide_B29 C N hj _ _ _ hl0 hl1 hl2 hf
set_option maxHeartbeats 4000000 in
theorem t_Wk_longestRide {l : Launch} {ad : Nat → Nat} {dA : Nat → ClassId} {D : va_G} (hi : Inj SHX ad) {N : Nat} {j : Nat} (hj : j < 8) {μ μ' : Mm} {r : Int32} (hf : f_Wk_longestRide N j μ = some (r, μ')) : Ct CLS l SHX ad dA D y_Wk_longestRide c_Wk_longestRide 8 (some .int) 1 [.ref (ad (WK j)), .ref (ad 6)] μ (some (.int r)) μ' := by
  unfold f_Wk_longestRide at hf
  refine ct_of (by decide) hi (Nat.le_of_ble_eq_true rfl) ?_
  intro p e s m args below meth c C
  refine g_iconst (v := 0) C d_Wk_longestRide_0 (by decide) ?_
  refine g_istore_n C d_Wk_longestRide_1 rfl (by decide) ?_
  exact t_Wk_longestRide_L2 C N hj N _ _ _ ((upG rfl rfl)) ((upG rfl rfl)) upS hf
set_option maxHeartbeats 4000000 in
theorem t_Wk_rideFault {l : Launch} {ad : Nat → Nat} {dA : Nat → ClassId} {D : va_G} (hi : Inj SHX ad) {N : Nat} {j : Nat} {a1 : Int32} (hj : j < 8) {μ μ' : Mm} {r : Int32} (hf : f_Wk_rideFault N j a1 μ = some (r, μ')) : Ct CLS l SHX ad dA D y_Wk_rideFault c_Wk_rideFault 2 (some .int) 0 [.ref (ad (WK j)), .int a1] μ (some (.int r)) μ' := by
  unfold f_Wk_rideFault at hf
  refine ct_of (by decide) hi (Nat.le_of_ble_eq_true rfl) ?_
  intro p e s m args below meth c C
  refine g_iload_n C d_Wk_rideFault_0 rfl rfl ?_
  refine g_bipush (v := -9) C d_Wk_rideFault_1 (by decide) ?_
  refine g_icmp_ne (tgt := 8) C d_Wk_rideFault_3 (by decide) hf (fun c1 hf => ?_) (fun c1 hf => ?_)
  · refine g_iconst (v := 5) C d_Wk_rideFault_6 (by decide) ?_
    exact g_iret C d_Wk_rideFault_7 hf
  · refine g_iload_n C d_Wk_rideFault_8 rfl rfl ?_
    refine g_aload_n C d_Wk_rideFault_9 rfl rfl ?_
    refine g_getI (k := 2) C k_Wk (by decide) fl_Wk_18 (shW _ hj) rfl d_Wk_rideFault_10 ?_
    refine g_icmp_le (tgt := 21) C d_Wk_rideFault_13 (by decide) hf (fun c2 hf => ?_) (fun c2 hf => ?_)
    · refine g_iconst (v := 0) C d_Wk_rideFault_21 (by decide) ?_
      exact g_iret C d_Wk_rideFault_22 hf
    · refine g_bipush (v := 6) C d_Wk_rideFault_16 (by decide) ?_
      refine g_goto (tgt := 22) C d_Wk_rideFault_18 (by decide) ?_
      exact g_iret C d_Wk_rideFault_22 hf
set_option maxHeartbeats 4000000 in
theorem t_Wk_faultOn_B101 {ad : Nat → Nat} {dA : Nat → ClassId} {D : va_G} {p : Program} {l : Launch} {e : Env} {s : State} {m : MethodId} {args : Array Value} {below : List Frame} {meth : Method} {c : Code} {r : Int32} {μ' : Mm} (C : Cx CLS SHX ad dA D p s m args meth c c_Wk_faultOn 5 R_Wk (some .int)) (N : Nat) {j : Nat} (hj : j < 8) : ∀ (v2 : Int32) (μ : Mm) (lv : Nat → Option Value), lv 0 = some (.ref (ad (WK j))) → lv 1 = some (.ref (ad 6)) → lv 2 = some (.int v2) → f_Wk_faultOn_B101 N j v2 μ = some (r, μ') → Go CLS SHX ad dA D p l e (rmD 2) s m args below meth c 5 (some (.int r)) μ' 101 lv [] μ := by
  intro v2 μ lv hl0 hl1 hl2 hf
  unfold f_Wk_faultOn_B101 at hf
  refine g_iload_n C d_Wk_faultOn_101 rfl hl2 ?_
  refine g_if_eq (tgt := 107) C d_Wk_faultOn_102 (by decide) hf (fun c16 hf => ?_) (fun c16 hf => ?_)
  · refine g_aload_n C d_Wk_faultOn_107 rfl hl0 ?_
    refine g_getI (k := 0) C k_Wk (by decide) fl_Wk_9 (shW _ hj) rfl d_Wk_faultOn_108 ?_
    refine g_iconst (v := 2) C d_Wk_faultOn_111 (by decide) ?_
    refine g_icmp_ne (tgt := 127) C d_Wk_faultOn_112 (by decide) hf (fun c17 hf => ?_) (fun c17 hf => ?_)
    · refine g_aload_n C d_Wk_faultOn_115 rfl hl0 ?_
      refine g_aload_n C d_Wk_faultOn_116 rfl hl0 ?_
      refine g_aload_n C d_Wk_faultOn_117 rfl hl1 ?_
      refine g_cvI C k_Wk (shW _ hj) mv_Wk_longestRide ml_Wk_79 d_Wk_faultOn_118 hf (fun r μ1 h => t_Wk_longestRide C.2.2.2.2.2.2.2.2.1 hj h) rfl rfl (by decide) (Nat.le_of_ble_eq_true rfl) (fun r19 μ18 hf => ?_)
      refine g_cvI C k_Wk (shW _ hj) mv_Wk_rideFault ml_Wk_83 d_Wk_faultOn_121 hf (fun r μ1 h => t_Wk_rideFault C.2.2.2.2.2.2.2.2.1 hj h) rfl rfl (by decide) (Nat.le_of_ble_eq_true rfl) (fun r21 μ20 hf => ?_)
      refine g_goto (tgt := 128) C d_Wk_faultOn_124 (by decide) ?_
      exact g_iret C d_Wk_faultOn_128 hf
    · refine g_iconst (v := 0) C d_Wk_faultOn_127 (by decide) ?_
      exact g_iret C d_Wk_faultOn_128 hf
  · refine g_iconst (v := 4) C d_Wk_faultOn_105 (by decide) ?_
    exact g_iret C d_Wk_faultOn_106 hf
set_option maxHeartbeats 4000000 in
theorem t_Wk_faultOn_B93 {ad : Nat → Nat} {dA : Nat → ClassId} {D : va_G} {p : Program} {l : Launch} {e : Env} {s : State} {m : MethodId} {args : Array Value} {below : List Frame} {meth : Method} {c : Code} {r : Int32} {μ' : Mm} (C : Cx CLS SHX ad dA D p s m args meth c c_Wk_faultOn 5 R_Wk (some .int)) (N : Nat) {j : Nat} (hj : j < 8) (k45 : Int32 → Int32 → Mm → Option (Int32 × Mm)) (hk45 : ∀ (v2 : Int32) (v3 : Int32) (μ : Mm) (lv : Nat → Option Value), lv 0 = some (.ref (ad (WK j))) → lv 1 = some (.ref (ad 6)) → lv 2 = some (.int v2) → lv 3 = some (.int v3) → k45 v2 v3 μ = some (r, μ') → Go CLS SHX ad dA D p l e (rmD 2) s m args below meth c 5 (some (.int r)) μ' 45 lv [] μ) : ∀ (v3 : Int32) (s0 : Int32) (s1 : Int32) (μ : Mm) (lv : Nat → Option Value), lv 0 = some (.ref (ad (WK j))) → lv 1 = some (.ref (ad 6)) → lv 3 = some (.int v3) → f_Wk_faultOn_B93 N j k45 v3 s0 s1 μ = some (r, μ') → Go CLS SHX ad dA D p l e (rmD 2) s m args below meth c 5 (some (.int r)) μ' 93 lv [.int s1, .int s0] μ := by
  intro v3 s0 s1 μ lv hl0 hl1 hl3 hf
  unfold f_Wk_faultOn_B93 at hf
  refine g_ior C d_Wk_faultOn_93 ?_
  refine g_istore_n C d_Wk_faultOn_94 rfl (by decide) ?_
  refine g_iinc (v := 1) C d_Wk_faultOn_95 (upG hl3 rfl) (by decide) (by decide) ?_
  refine g_goto (tgt := 45) C d_Wk_faultOn_98 (by decide) ?_
  exact hk45 _ _ _ _ ((upG (upG hl0 rfl) rfl)) ((upG (upG hl1 rfl) rfl)) ((upG upS rfl)) upS hf
set_option maxHeartbeats 4000000 in
theorem t_Wk_faultOn_L45 {ad : Nat → Nat} {dA : Nat → ClassId} {D : va_G} {p : Program} {l : Launch} {e : Env} {s : State} {m : MethodId} {args : Array Value} {below : List Frame} {meth : Method} {c : Code} {r : Int32} {μ' : Mm} (C : Cx CLS SHX ad dA D p s m args meth c c_Wk_faultOn 5 R_Wk (some .int)) (N : Nat) {j : Nat} (hj : j < 8) : ∀ (n : Nat) (v2 : Int32) (v3 : Int32) (μ : Mm) (lv : Nat → Option Value), lv 0 = some (.ref (ad (WK j))) → lv 1 = some (.ref (ad 6)) → lv 2 = some (.int v2) → lv 3 = some (.int v3) → f_Wk_faultOn_L45 N j n v2 v3 μ = some (r, μ') → Go CLS SHX ad dA D p l e (rmD 2) s m args below meth c 5 (some (.int r)) μ' 45 lv [] μ := by
  intro n
  induction n with
  | zero => intro v2 v3 μ lv hl0 hl1 hl2 hl3 hf; cases (show none = some _ from hf)
  | succ n ih =>
    intro v2 v3 μ lv hl0 hl1 hl2 hl3 hf
    unfold f_Wk_faultOn_L45 at hf
    refine g_iload_n C d_Wk_faultOn_45 rfl hl3 ?_
    refine g_aload_n C d_Wk_faultOn_46 rfl hl0 ?_
    refine g_getI (k := 8) C k_Wk (by decide) fl_Wk_37 (shW _ hj) rfl d_Wk_faultOn_47 ?_
    refine g_icmp_ge (tgt := 101) C d_Wk_faultOn_50 (by decide) hf (fun c7 hf => ?_) (fun c7 hf => ?_)
    · exact t_Wk_faultOn_B101 C N hj _ _ _ hl0 hl1 hl2 hf
    · refine g_aload_n C d_Wk_faultOn_53 rfl hl1 ?_
      refine g_aload_n C d_Wk_faultOn_54 rfl hl0 ?_
      refine g_getR (b := WK _ + 1) (k := 9) C k_Wk (by decide) fl_Wk_40 (shW _ hj) rfl d_Wk_faultOn_55 ?_
      refine g_iload_n C d_Wk_faultOn_58 rfl hl3 ?_
      refine g_iald C (shW1 _ hj) d_Wk_faultOn_59 hf (fun hf => ?_)
      refine g_aload_n C d_Wk_faultOn_60 rfl hl0 ?_
      refine g_getR (b := WK _ + 1) (k := 9) C k_Wk (by decide) fl_Wk_40 (shW _ hj) rfl d_Wk_faultOn_61 ?_
      refine g_aload_n C d_Wk_faultOn_64 rfl hl0 ?_
      refine g_iload_n C d_Wk_faultOn_65 rfl hl3 ?_
      refine g_cvI C k_Wk (shW _ hj) mv_Wk_legBehind ml_Wk_71 d_Wk_faultOn_66 hf (fun r μ1 h => t_Wk_legBehind C.2.2.2.2.2.2.2.2.1 hj h) rfl rfl (by decide) (Nat.le_of_ble_eq_true rfl) (fun r9 μ8 hf => ?_)
      refine g_iald C (shW1 _ hj) d_Wk_faultOn_69 hf (fun hf => ?_)
      refine g_cvI C k_Gr rfl mv_Gr_lengthOf ml_Wk_75 d_Wk_faultOn_70 hf (fun r μ1 h => t_Gr_lengthOf C.2.2.2.2.2.2.2.2.1 h) rfl rfl (by decide) (Nat.le_of_ble_eq_true rfl) (fun r11 μ10 hf => ?_)
      refine g_istore C d_Wk_faultOn_73 (by decide) ?_
      refine g_iload C d_Wk_faultOn_75 upS ?_
      refine g_if_ne (tgt := 82) C d_Wk_faultOn_77 (by decide) hf (fun c12 hf => ?_) (fun c12 hf => ?_)
      · refine g_iconst (v := 3) C d_Wk_faultOn_80 (by decide) ?_
        exact g_iret C d_Wk_faultOn_81 hf
      · refine g_iload_n C d_Wk_faultOn_82 rfl (upG hl2 rfl) ?_
        refine g_iload C d_Wk_faultOn_83 upS ?_
        refine g_if_ge (tgt := 92) C d_Wk_faultOn_85 (by decide) hf (fun c13 hf => ?_) (fun c13 hf => ?_)
        · refine g_iconst (v := 0) C d_Wk_faultOn_92 (by decide) ?_
          exact t_Wk_faultOn_B93 C N hj _ ih _ _ _ _ _ ((upG hl0 rfl)) ((upG hl1 rfl)) ((upG hl3 rfl)) hf
        · refine g_iconst (v := 1) C d_Wk_faultOn_88 (by decide) ?_
          refine g_goto (tgt := 93) C d_Wk_faultOn_89 (by decide) ?_
          exact t_Wk_faultOn_B93 C N hj _ ih _ _ _ _ _ ((upG hl0 rfl)) ((upG hl1 rfl)) ((upG hl3 rfl)) hf
set_option maxHeartbeats 4000000 in
theorem t_Wk_faultOn_B41 {ad : Nat → Nat} {dA : Nat → ClassId} {D : va_G} {p : Program} {l : Launch} {e : Env} {s : State} {m : MethodId} {args : Array Value} {below : List Frame} {meth : Method} {c : Code} {r : Int32} {μ' : Mm} (C : Cx CLS SHX ad dA D p s m args meth c c_Wk_faultOn 5 R_Wk (some .int)) (N : Nat) {j : Nat} (hj : j < 8) : ∀  (μ : Mm) (lv : Nat → Option Value), lv 0 = some (.ref (ad (WK j))) → lv 1 = some (.ref (ad 6)) → f_Wk_faultOn_B41 N j μ = some (r, μ') → Go CLS SHX ad dA D p l e (rmD 2) s m args below meth c 5 (some (.int r)) μ' 41 lv [] μ := by
  intro μ lv hl0 hl1 hf
  unfold f_Wk_faultOn_B41 at hf
  refine g_iconst (v := 0) C d_Wk_faultOn_41 (by decide) ?_
  refine g_istore_n C d_Wk_faultOn_42 rfl (by decide) ?_
  refine g_iconst (v := 0) C d_Wk_faultOn_43 (by decide) ?_
  refine g_istore_n C d_Wk_faultOn_44 rfl (by decide) ?_
  exact t_Wk_faultOn_L45 C N hj N _ _ _ _ ((upG (upG hl0 rfl) rfl)) ((upG (upG hl1 rfl) rfl)) ((upG upS rfl)) upS hf
set_option maxHeartbeats 4000000 in
theorem t_Wk_faultOn_L12 {ad : Nat → Nat} {dA : Nat → ClassId} {D : va_G} {p : Program} {l : Launch} {e : Env} {s : State} {m : MethodId} {args : Array Value} {below : List Frame} {meth : Method} {c : Code} {r : Int32} {μ' : Mm} (C : Cx CLS SHX ad dA D p s m args meth c c_Wk_faultOn 5 R_Wk (some .int)) (N : Nat) {j : Nat} (hj : j < 8) : ∀ (n : Nat) (v2 : Int32) (μ : Mm) (lv : Nat → Option Value), lv 0 = some (.ref (ad (WK j))) → lv 1 = some (.ref (ad 6)) → lv 2 = some (.int v2) → f_Wk_faultOn_L12 N j n v2 μ = some (r, μ') → Go CLS SHX ad dA D p l e (rmD 2) s m args below meth c 5 (some (.int r)) μ' 12 lv [] μ := by
  intro n
  induction n with
  | zero => intro v2 μ lv hl0 hl1 hl2 hf; cases (show none = some _ from hf)
  | succ n ih =>
    intro v2 μ lv hl0 hl1 hl2 hf
    unfold f_Wk_faultOn_L12 at hf
    refine g_iload_n C d_Wk_faultOn_12 rfl hl2 ?_
    refine g_aload_n C d_Wk_faultOn_13 rfl hl0 ?_
    refine g_getI (k := 8) C k_Wk (by decide) fl_Wk_37 (shW _ hj) rfl d_Wk_faultOn_14 ?_
    refine g_icmp_ge (tgt := 41) C d_Wk_faultOn_17 (by decide) hf (fun c2 hf => ?_) (fun c2 hf => ?_)
    · exact t_Wk_faultOn_B41 C N hj _ _ hl0 hl1 hf
    · refine g_aload_n C d_Wk_faultOn_20 rfl hl1 ?_
      refine g_aload_n C d_Wk_faultOn_21 rfl hl0 ?_
      refine g_getR (b := WK _ + 1) (k := 9) C k_Wk (by decide) fl_Wk_40 (shW _ hj) rfl d_Wk_faultOn_22 ?_
      refine g_iload_n C d_Wk_faultOn_25 rfl hl2 ?_
      refine g_iald C (shW1 _ hj) d_Wk_faultOn_26 hf (fun hf => ?_)
      refine g_cvI C k_Gr rfl mv_Gr_has ml_Wk_65 d_Wk_faultOn_27 hf (fun r μ1 h => t_Gr_has C.2.2.2.2.2.2.2.2.1 h) rfl rfl (by decide) (Nat.le_of_ble_eq_true rfl) (fun r4 μ3 hf => ?_)
      refine g_if_ne (tgt := 35) C d_Wk_faultOn_30 (by decide) hf (fun c5 hf => ?_) (fun c5 hf => ?_)
      · refine g_iconst (v := 2) C d_Wk_faultOn_33 (by decide) ?_
        exact g_iret C d_Wk_faultOn_34 hf
      · refine g_iinc (v := 1) C d_Wk_faultOn_35 hl2 (by decide) (by decide) ?_
        refine g_goto (tgt := 12) C d_Wk_faultOn_38 (by decide) ?_
        exact ih _ _ _ ((upG hl0 rfl)) ((upG hl1 rfl)) upS hf
set_option maxHeartbeats 4000000 in
theorem t_Wk_faultOn {l : Launch} {ad : Nat → Nat} {dA : Nat → ClassId} {D : va_G} (hi : Inj SHX ad) {N : Nat} {j : Nat} (hj : j < 8) {μ μ' : Mm} {r : Int32} (hf : f_Wk_faultOn N j μ = some (r, μ')) : Ct CLS l SHX ad dA D y_Wk_faultOn c_Wk_faultOn 5 (some .int) 2 [.ref (ad (WK j)), .ref (ad 6)] μ (some (.int r)) μ' := by
  unfold f_Wk_faultOn at hf
  refine ct_of (by decide) hi (Nat.le_of_ble_eq_true rfl) ?_
  intro p e s m args below meth c C
  refine g_aload_n C d_Wk_faultOn_0 rfl rfl ?_
  refine g_getI (k := 8) C k_Wk (by decide) fl_Wk_37 (shW _ hj) rfl d_Wk_faultOn_1 ?_
  refine g_iconst (v := 1) C d_Wk_faultOn_4 (by decide) ?_
  refine g_icmp_ge (tgt := 10) C d_Wk_faultOn_5 (by decide) hf (fun c1 hf => ?_) (fun c1 hf => ?_)
  · refine g_iconst (v := 0) C d_Wk_faultOn_10 (by decide) ?_
    refine g_istore_n C d_Wk_faultOn_11 rfl (by decide) ?_
    exact t_Wk_faultOn_L12 C N hj N _ _ _ ((upG rfl rfl)) ((upG rfl rfl)) upS hf
  · refine g_iconst (v := 1) C d_Wk_faultOn_8 (by decide) ?_
    exact g_iret C d_Wk_faultOn_9 hf
set_option maxHeartbeats 4000000 in
theorem t_Wk_unitParts_B16 {ad : Nat → Nat} {dA : Nat → ClassId} {D : va_G} {p : Program} {l : Launch} {e : Env} {s : State} {m : MethodId} {args : Array Value} {below : List Frame} {meth : Method} {c : Code} {r : Int32} {μ' : Mm} (C : Cx CLS SHX ad dA D p s m args meth c c_Wk_unitParts 1 R_Wk (some .int)) (N : Nat) {j : Nat} (hj : j < 8) : ∀  (μ : Mm) (lv : Nat → Option Value), f_Wk_unitParts_B16 N j μ = some (r, μ') → Go CLS SHX ad dA D p l e (rmD 0) s m args below meth c 1 (some (.int r)) μ' 16 lv [] μ := by
  intro μ lv hf
  unfold f_Wk_unitParts_B16 at hf
  refine g_iconst (v := 0) C d_Wk_unitParts_16 (by decide) ?_
  refine g_goto (tgt := 27) C d_Wk_unitParts_17 (by decide) ?_
  exact g_iret C d_Wk_unitParts_27 hf
set_option maxHeartbeats 4000000 in
theorem t_Wk_unitParts {l : Launch} {ad : Nat → Nat} {dA : Nat → ClassId} {D : va_G} (hi : Inj SHX ad) {N : Nat} {j : Nat} (hj : j < 8) {μ μ' : Mm} {r : Int32} (hf : f_Wk_unitParts N j μ = some (r, μ')) : Ct CLS l SHX ad dA D y_Wk_unitParts c_Wk_unitParts 1 (some .int) 0 [.ref (ad (WK j))] μ (some (.int r)) μ' := by
  unfold f_Wk_unitParts at hf
  refine ct_of (by decide) hi (Nat.le_of_ble_eq_true rfl) ?_
  intro p e s m args below meth c C
  refine g_aload_n C d_Wk_unitParts_0 rfl rfl ?_
  refine g_getI (k := 0) C k_Wk (by decide) fl_Wk_9 (shW _ hj) rfl d_Wk_unitParts_1 ?_
  refine g_iconst (v := 3) C d_Wk_unitParts_4 (by decide) ?_
  refine g_icmp_eq (tgt := 16) C d_Wk_unitParts_5 (by decide) hf (fun c1 hf => ?_) (fun c1 hf => ?_)
  · exact t_Wk_unitParts_B16 C N hj _ _ hf
  · refine g_aload_n C d_Wk_unitParts_8 rfl rfl ?_
    refine g_getI (k := 1) C k_Wk (by decide) fl_Wk_15 (shW _ hj) rfl d_Wk_unitParts_9 ?_
    refine g_iconst (v := 1) C d_Wk_unitParts_12 (by decide) ?_
    refine g_icmp_ge (tgt := 20) C d_Wk_unitParts_13 (by decide) hf (fun c2 hf => ?_) (fun c2 hf => ?_)
    · refine g_bipush (v := 60) C d_Wk_unitParts_20 (by decide) ?_
      refine g_aload_n C d_Wk_unitParts_22 rfl rfl ?_
      refine g_getI (k := 1) C k_Wk (by decide) fl_Wk_15 (shW _ hj) rfl d_Wk_unitParts_23 ?_
      refine g_idiv C d_Wk_unitParts_26 hf (fun hf => ?_)
      exact g_iret C d_Wk_unitParts_27 hf
    · exact t_Wk_unitParts_B16 C N hj _ _ hf
set_option maxHeartbeats 4000000 in
theorem t_Wk_prepareLegs_B120 {ad : Nat → Nat} {dA : Nat → ClassId} {D : va_G} {p : Program} {l : Launch} {e : Env} {s : State} {m : MethodId} {args : Array Value} {below : List Frame} {meth : Method} {c : Code} {μ' : Mm} (C : Cx CLS SHX ad dA D p s m args meth c c_Wk_prepareLegs 5 R_Wk (none)) (N : Nat) {j : Nat} (hj : j < 8) : ∀ (v2 : Int32) (μ : Mm) (lv : Nat → Option Value), lv 0 = some (.ref (ad (WK j))) → lv 2 = some (.int v2) → f_Wk_prepareLegs_B120 N j v2 μ = some μ' → Go CLS SHX ad dA D p l e (rmD 2) s m args below meth c 5 none μ' 120 lv [] μ := by
  intro v2 μ lv hl0 hl2 hf
  unfold f_Wk_prepareLegs_B120 at hf
  refine g_aload_n C d_Wk_prepareLegs_120 rfl hl0 ?_
  refine g_getR (b := WK _ + 3) (k := 14) C k_Wk (by decide) fl_Wk_56 (shW _ hj) rfl d_Wk_prepareLegs_121 ?_
  refine g_aload_n C d_Wk_prepareLegs_124 rfl hl0 ?_
  refine g_getI (k := 8) C k_Wk (by decide) fl_Wk_37 (shW _ hj) rfl d_Wk_prepareLegs_125 ?_
  refine g_iload_n C d_Wk_prepareLegs_128 rfl hl2 ?_
  refine g_iast C (shW3 _ hj) d_Wk_prepareLegs_129 hf (fun hf => ?_)
  refine g_aload_n C d_Wk_prepareLegs_130 rfl hl0 ?_
  refine g_iconst (v := 1) C d_Wk_prepareLegs_131 (by decide) ?_
  refine g_iload_n C d_Wk_prepareLegs_132 rfl hl2 ?_
  refine g_csI C mv_Jm_max_7cf53 ml_Wk_89 d_Wk_prepareLegs_133 hf (fun r μ1 h => t_Jm_max_7cf53 C.2.2.2.2.2.2.2.2.1 h) rfl rfl (by decide) (Nat.le_of_ble_eq_true rfl) (fun r20 μ19 hf => ?_)
  refine g_putI (k := 12) C k_Wk (by decide) fl_Wk_50 (shW _ hj) rfl rfl rfl d_Wk_prepareLegs_136 ?_
  exact g_vret C d_Wk_prepareLegs_139 hf
set_option maxHeartbeats 4000000 in
theorem t_Wk_prepareLegs_L10 {ad : Nat → Nat} {dA : Nat → ClassId} {D : va_G} {p : Program} {l : Launch} {e : Env} {s : State} {m : MethodId} {args : Array Value} {below : List Frame} {meth : Method} {c : Code} {μ' : Mm} (C : Cx CLS SHX ad dA D p s m args meth c c_Wk_prepareLegs 5 R_Wk (none)) (N : Nat) {j : Nat} (hj : j < 8) : ∀ (n : Nat) (v2 : Int32) (v3 : Int32) (v4 : Int32) (μ : Mm) (lv : Nat → Option Value), lv 0 = some (.ref (ad (WK j))) → lv 1 = some (.ref (ad 6)) → lv 2 = some (.int v2) → lv 3 = some (.int v3) → lv 4 = some (.int v4) → f_Wk_prepareLegs_L10 N j n v2 v3 v4 μ = some μ' → Go CLS SHX ad dA D p l e (rmD 2) s m args below meth c 5 none μ' 10 lv [] μ := by
  intro n
  induction n with
  | zero => intro v2 v3 v4 μ lv hl0 hl1 hl2 hl3 hl4 hf; cases (show none = some _ from hf)
  | succ n ih =>
    intro v2 v3 v4 μ lv hl0 hl1 hl2 hl3 hl4 hf
    unfold f_Wk_prepareLegs_L10 at hf
    refine g_iload C d_Wk_prepareLegs_10 hl4 ?_
    refine g_aload_n C d_Wk_prepareLegs_12 rfl hl0 ?_
    refine g_getI (k := 8) C k_Wk (by decide) fl_Wk_37 (shW _ hj) rfl d_Wk_prepareLegs_13 ?_
    refine g_icmp_ge (tgt := 120) C d_Wk_prepareLegs_16 (by decide) hf (fun c3 hf => ?_) (fun c3 hf => ?_)
    · exact t_Wk_prepareLegs_B120 C N hj _ _ _ hl0 hl2 hf
    · refine g_aload_n C d_Wk_prepareLegs_19 rfl hl0 ?_
      refine g_getR (b := WK _ + 3) (k := 14) C k_Wk (by decide) fl_Wk_56 (shW _ hj) rfl d_Wk_prepareLegs_20 ?_
      refine g_iload C d_Wk_prepareLegs_23 hl4 ?_
      refine g_iload_n C d_Wk_prepareLegs_25 rfl hl2 ?_
      refine g_iast C (shW3 _ hj) d_Wk_prepareLegs_26 hf (fun hf => ?_)
      refine g_aload_n C d_Wk_prepareLegs_27 rfl hl0 ?_
      refine g_getR (b := WK _ + 4) (k := 15) C k_Wk (by decide) fl_Wk_59 (shW _ hj) rfl d_Wk_prepareLegs_28 ?_
      refine g_iload C d_Wk_prepareLegs_31 hl4 ?_
      refine g_iload_n C d_Wk_prepareLegs_33 rfl hl2 ?_
      refine g_aload_n C d_Wk_prepareLegs_34 rfl hl0 ?_
      refine g_getR (b := WK _ + 2) (k := 10) C k_Wk (by decide) fl_Wk_44 (shW _ hj) rfl d_Wk_prepareLegs_35 ?_
      refine g_iload C d_Wk_prepareLegs_38 hl4 ?_
      refine g_iald C (shW2 _ hj) d_Wk_prepareLegs_40 hf (fun hf => ?_)
      refine g_iadd C d_Wk_prepareLegs_41 ?_
      refine g_iast C (shW4 _ hj) d_Wk_prepareLegs_42 hf (fun hf => ?_)
      refine g_aload_n C d_Wk_prepareLegs_43 rfl hl0 ?_
      refine g_getR (b := WK _ + 4) (k := 15) C k_Wk (by decide) fl_Wk_59 (shW _ hj) rfl d_Wk_prepareLegs_44 ?_
      refine g_iload C d_Wk_prepareLegs_47 hl4 ?_
      refine g_iald C (shW4 _ hj) d_Wk_prepareLegs_49 hf (fun hf => ?_)
      refine g_iload_n C d_Wk_prepareLegs_50 rfl hl3 ?_
      refine g_aload_n C d_Wk_prepareLegs_51 rfl hl1 ?_
      refine g_aload_n C d_Wk_prepareLegs_52 rfl hl0 ?_
      refine g_getR (b := WK _ + 1) (k := 9) C k_Wk (by decide) fl_Wk_40 (shW _ hj) rfl d_Wk_prepareLegs_53 ?_
      refine g_iload C d_Wk_prepareLegs_56 hl4 ?_
      refine g_iald C (shW1 _ hj) d_Wk_prepareLegs_58 hf (fun hf => ?_)
      refine g_aload_n C d_Wk_prepareLegs_59 rfl hl0 ?_
      refine g_getR (b := WK _ + 1) (k := 9) C k_Wk (by decide) fl_Wk_40 (shW _ hj) rfl d_Wk_prepareLegs_60 ?_
      refine g_aload_n C d_Wk_prepareLegs_63 rfl hl0 ?_
      refine g_iload C d_Wk_prepareLegs_64 hl4 ?_
      refine g_cvI C k_Wk (shW _ hj) mv_Wk_legBehind ml_Wk_71 d_Wk_prepareLegs_66 hf (fun r μ1 h => t_Wk_legBehind C.2.2.2.2.2.2.2.2.1 hj h) rfl rfl (by decide) (Nat.le_of_ble_eq_true rfl) (fun r8 μ7 hf => ?_)
      refine g_iald C (shW1 _ hj) d_Wk_prepareLegs_69 hf (fun hf => ?_)
      refine g_cvI C k_Gr rfl mv_Gr_lengthOf ml_Wk_75 d_Wk_prepareLegs_70 hf (fun r μ1 h => t_Gr_lengthOf C.2.2.2.2.2.2.2.2.1 h) rfl rfl (by decide) (Nat.le_of_ble_eq_true rfl) (fun r10 μ9 hf => ?_)
      refine g_imul C d_Wk_prepareLegs_73 ?_
      refine g_iadd C d_Wk_prepareLegs_74 ?_
      refine g_istore_n C d_Wk_prepareLegs_75 rfl (by decide) ?_
      refine g_aload_n C d_Wk_prepareLegs_76 rfl (upG hl0 rfl) ?_
      refine g_getR (b := WK _ + 5) (k := 16) C k_Wk (by decide) fl_Wk_62 (shW _ hj) rfl d_Wk_prepareLegs_77 ?_
      refine g_iload C d_Wk_prepareLegs_80 (upG hl4 rfl) ?_
      refine g_aload_n C d_Wk_prepareLegs_82 rfl (upG hl1 rfl) ?_
      refine g_aload_n C d_Wk_prepareLegs_83 rfl (upG hl0 rfl) ?_
      refine g_getR (b := WK _ + 1) (k := 9) C k_Wk (by decide) fl_Wk_40 (shW _ hj) rfl d_Wk_prepareLegs_84 ?_
      refine g_iload C d_Wk_prepareLegs_87 (upG hl4 rfl) ?_
      refine g_iald C (shW1 _ hj) d_Wk_prepareLegs_89 hf (fun hf => ?_)
      refine g_aload_n C d_Wk_prepareLegs_90 rfl (upG hl0 rfl) ?_
      refine g_getI (k := 4) C k_Wk (by decide) fl_Wk_24 (shW _ hj) rfl d_Wk_prepareLegs_91 ?_
      refine g_cvI C k_Gr rfl mv_Gr_within ml_Wk_94 d_Wk_prepareLegs_94 hf (fun r μ1 h => t_Gr_within C.2.2.2.2.2.2.2.2.1 h) rfl rfl (by decide) (Nat.le_of_ble_eq_true rfl) (fun r13 μ12 hf => ?_)
      refine g_iast C (shW5 _ hj) d_Wk_prepareLegs_97 hf (fun hf => ?_)
      refine g_aload_n C d_Wk_prepareLegs_98 rfl (upG hl0 rfl) ?_
      refine g_dup C d_Wk_prepareLegs_99 rfl ?_
      refine g_getI (k := 13) C k_Wk (by decide) fl_Wk_53 (shW _ hj) rfl d_Wk_prepareLegs_100 ?_
      refine g_aload_n C d_Wk_prepareLegs_103 rfl (upG hl0 rfl) ?_
      refine g_getR (b := WK _ + 5) (k := 16) C k_Wk (by decide) fl_Wk_62 (shW _ hj) rfl d_Wk_prepareLegs_104 ?_
      refine g_iload C d_Wk_prepareLegs_107 (upG hl4 rfl) ?_
      refine g_iald C (shW5 _ hj) d_Wk_prepareLegs_109 hf (fun hf => ?_)
      refine g_ior C d_Wk_prepareLegs_110 ?_
      refine g_putI (k := 13) C k_Wk (by decide) fl_Wk_53 (shW _ hj) rfl rfl rfl d_Wk_prepareLegs_111 ?_
      refine g_iinc (v := 1) C d_Wk_prepareLegs_114 (upG hl4 rfl) (by decide) (by decide) ?_
      refine g_goto (tgt := 10) C d_Wk_prepareLegs_117 (by decide) ?_
      exact ih _ _ _ _ _ ((upG (upG hl0 rfl) rfl)) ((upG (upG hl1 rfl) rfl)) ((upG upS rfl)) ((upG (upG hl3 rfl) rfl)) upS hf
set_option maxHeartbeats 4000000 in
theorem t_Wk_prepareLegs {l : Launch} {ad : Nat → Nat} {dA : Nat → ClassId} {D : va_G} (hi : Inj SHX ad) {N : Nat} {j : Nat} (hj : j < 8) {μ μ' : Mm} (hf : f_Wk_prepareLegs N j μ = some μ') : Ct CLS l SHX ad dA D y_Wk_prepareLegs c_Wk_prepareLegs 5 (none) 2 [.ref (ad (WK j)), .ref (ad 6)] μ none μ' := by
  unfold f_Wk_prepareLegs at hf
  refine ct_of (by decide) hi (Nat.le_of_ble_eq_true rfl) ?_
  intro p e s m args below meth c C
  refine g_iconst (v := 0) C d_Wk_prepareLegs_0 (by decide) ?_
  refine g_istore_n C d_Wk_prepareLegs_1 rfl (by decide) ?_
  refine g_aload_n C d_Wk_prepareLegs_2 rfl (upG rfl rfl) ?_
  refine g_cvI C k_Wk (shW _ hj) mv_Wk_unitParts ml_Wk_104 d_Wk_prepareLegs_3 hf (fun r μ1 h => t_Wk_unitParts C.2.2.2.2.2.2.2.2.1 hj h) rfl rfl (by decide) (Nat.le_of_ble_eq_true rfl) (fun r2 μ1 hf => ?_)
  refine g_istore_n C d_Wk_prepareLegs_6 rfl (by decide) ?_
  refine g_iconst (v := 0) C d_Wk_prepareLegs_7 (by decide) ?_
  refine g_istore C d_Wk_prepareLegs_8 (by decide) ?_
  exact t_Wk_prepareLegs_L10 C N hj N _ _ _ _ _ ((upG (upG (upG rfl rfl) rfl) rfl)) ((upG (upG (upG rfl rfl) rfl) rfl)) ((upG (upG upS rfl) rfl)) ((upG upS rfl)) upS hf
set_option maxHeartbeats 4000000 in
theorem t_Wk_prepare_B96 {ad : Nat → Nat} {dA : Nat → ClassId} {D : va_G} {p : Program} {l : Launch} {e : Env} {s : State} {m : MethodId} {args : Array Value} {below : List Frame} {meth : Method} {c : Code} {μ' : Mm} (C : Cx CLS SHX ad dA D p s m args meth c c_Wk_prepare 2 R_Wk (none)) (N : Nat) {j : Nat} (hj : j < 8) : ∀ (s0 : Nat) (s1 : Int32) (μ : Mm) (lv : Nat → Option Value), s0 < 8 → lv 0 = some (.ref (ad (WK j))) → lv 1 = some (.ref (ad 6)) → f_Wk_prepare_B96 N j s0 s1 μ = some μ' → Go CLS SHX ad dA D p l e (rmD 3) s m args below meth c 2 none μ' 96 lv [.int s1, .ref (ad (WK s0))] μ := by
  intro s0 s1 μ lv hs0 hl0 hl1 hf
  unfold f_Wk_prepare_B96 at hf
  refine g_putZ (k := 11) C k_Wk (by decide) fl_Wk_47 (shW _ hs0) rfl rfl rfl d_Wk_prepare_96 hf (fun hf => ?_)
  refine g_aload_n C d_Wk_prepare_99 rfl hl0 ?_
  refine g_getI (k := 11) C k_Wk (by decide) fl_Wk_47 (shW _ hj) rfl d_Wk_prepare_100 ?_
  refine g_if_eq (tgt := 111) C d_Wk_prepare_103 (by decide) hf (fun c17 hf => ?_) (fun c17 hf => ?_)
  · exact g_vret C d_Wk_prepare_111 hf
  · refine g_aload_n C d_Wk_prepare_106 rfl hl0 ?_
    refine g_aload_n C d_Wk_prepare_107 rfl hl1 ?_
    refine g_cvV C k_Wk (shW _ hj) mv_Wk_prepareLegs ml_Wk_100 d_Wk_prepare_108 hf (fun μ1 h => t_Wk_prepareLegs C.2.2.2.2.2.2.2.2.1 hj h) rfl rfl (by decide) (Nat.le_of_ble_eq_true rfl) (fun μ18 hf => ?_)
    exact g_vret C d_Wk_prepare_111 hf
set_option maxHeartbeats 4000000 in
theorem t_Wk_prepare_B76 {ad : Nat → Nat} {dA : Nat → ClassId} {D : va_G} {p : Program} {l : Launch} {e : Env} {s : State} {m : MethodId} {args : Array Value} {below : List Frame} {meth : Method} {c : Code} {μ' : Mm} (C : Cx CLS SHX ad dA D p s m args meth c c_Wk_prepare 2 R_Wk (none)) (N : Nat) {j : Nat} (hj : j < 8) : ∀ (s0 : Nat) (s1 : Int32) (μ : Mm) (lv : Nat → Option Value), s0 < 8 → f_Wk_prepare_B76 N j s0 s1 μ = some μ' → Go CLS SHX ad dA D p l e (rmD 3) s m args below meth c 2 none μ' 76 lv [.int s1, .ref (ad (WK s0))] μ := by
  intro s0 s1 μ lv hs0 hf
  unfold f_Wk_prepare_B76 at hf
  refine g_putI (k := 13) C k_Wk (by decide) fl_Wk_53 (shW _ hs0) rfl rfl rfl d_Wk_prepare_76 ?_
  refine g_goto (tgt := 111) C d_Wk_prepare_79 (by decide) ?_
  exact g_vret C d_Wk_prepare_111 hf
set_option maxHeartbeats 4000000 in
theorem t_Wk_prepare_B24 {ad : Nat → Nat} {dA : Nat → ClassId} {D : va_G} {p : Program} {l : Launch} {e : Env} {s : State} {m : MethodId} {args : Array Value} {below : List Frame} {meth : Method} {c : Code} {μ' : Mm} (C : Cx CLS SHX ad dA D p s m args meth c c_Wk_prepare 2 R_Wk (none)) (N : Nat) {j : Nat} (hj : j < 8) : ∀  (μ : Mm) (lv : Nat → Option Value), lv 0 = some (.ref (ad (WK j))) → f_Wk_prepare_B24 N j μ = some μ' → Go CLS SHX ad dA D p l e (rmD 3) s m args below meth c 2 none μ' 24 lv [] μ := by
  intro μ lv hl0 hf
  unfold f_Wk_prepare_B24 at hf
  refine g_aload_n C d_Wk_prepare_24 rfl hl0 ?_
  refine g_iconst (v := 0) C d_Wk_prepare_25 (by decide) ?_
  refine g_putZc (k := 11) C k_Wk (by decide) fl_Wk_47 (shW _ hj) rfl rfl rfl d_Wk_prepare_26 rfl ?_
  refine g_goto (tgt := 111) C d_Wk_prepare_29 (by decide) ?_
  exact g_vret C d_Wk_prepare_111 hf
set_option maxHeartbeats 4000000 in
theorem t_Wk_prepare {l : Launch} {ad : Nat → Nat} {dA : Nat → ClassId} {D : va_G} (hi : Inj SHX ad) {N : Nat} {j : Nat} (hj : j < 8) {μ μ' : Mm} (hf : f_Wk_prepare N j μ = some μ') : Ct CLS l SHX ad dA D y_Wk_prepare c_Wk_prepare 2 (none) 3 [.ref (ad (WK j)), .ref (ad 6)] μ none μ' := by
  unfold f_Wk_prepare at hf
  refine ct_of (by decide) hi (Nat.le_of_ble_eq_true rfl) ?_
  intro p e s m args below meth c C
  refine g_aload_n C d_Wk_prepare_0 rfl rfl ?_
  refine g_iconst (v := 0) C d_Wk_prepare_1 (by decide) ?_
  refine g_putI (k := 13) C k_Wk (by decide) fl_Wk_53 (shW _ hj) rfl rfl rfl d_Wk_prepare_2 ?_
  refine g_aload_n C d_Wk_prepare_5 rfl rfl ?_
  refine g_iconst (v := 1) C d_Wk_prepare_6 (by decide) ?_
  refine g_putI (k := 12) C k_Wk (by decide) fl_Wk_50 (shW _ hj) rfl rfl rfl d_Wk_prepare_7 ?_
  refine g_aload_n C d_Wk_prepare_10 rfl rfl ?_
  refine g_getI (k := 5) C k_Wk (by decide) fl_Wk_27 (shW _ hj) rfl d_Wk_prepare_11 ?_
  refine g_if_ne (tgt := 24) C d_Wk_prepare_14 (by decide) hf (fun c3 hf => ?_) (fun c3 hf => ?_)
  · refine g_aload_n C d_Wk_prepare_17 rfl rfl ?_
    refine g_getI (k := 6) C k_Wk (by decide) fl_Wk_31 (shW _ hj) rfl d_Wk_prepare_18 ?_
    refine g_if_eq (tgt := 32) C d_Wk_prepare_21 (by decide) hf (fun c4 hf => ?_) (fun c4 hf => ?_)
    · refine g_aload_n C d_Wk_prepare_32 rfl rfl ?_
      refine g_getI (k := 0) C k_Wk (by decide) fl_Wk_9 (shW _ hj) rfl d_Wk_prepare_33 ?_
      refine g_iconst (v := 3) C d_Wk_prepare_36 (by decide) ?_
      refine g_icmp_ne (tgt := 82) C d_Wk_prepare_37 (by decide) hf (fun c5 hf => ?_) (fun c5 hf => ?_)
      · refine g_aload_n C d_Wk_prepare_40 rfl rfl ?_
        refine g_aload_n C d_Wk_prepare_41 rfl rfl ?_
        refine g_aload_n C d_Wk_prepare_42 rfl rfl ?_
        refine g_getI (k := 3) C k_Wk (by decide) fl_Wk_21 (shW _ hj) rfl d_Wk_prepare_43 ?_
        refine g_cvI C k_Gr rfl mv_Gr_has ml_Wk_65 d_Wk_prepare_46 hf (fun r μ1 h => t_Gr_has C.2.2.2.2.2.2.2.2.1 h) rfl rfl (by decide) (Nat.le_of_ble_eq_true rfl) (fun r7 μ6 hf => ?_)
        refine g_putZ (k := 11) C k_Wk (by decide) fl_Wk_47 (shW _ hj) rfl rfl rfl d_Wk_prepare_49 hf (fun hf => ?_)
        refine g_aload_n C d_Wk_prepare_52 rfl rfl ?_
        refine g_aload_n C d_Wk_prepare_53 rfl rfl ?_
        refine g_getI (k := 11) C k_Wk (by decide) fl_Wk_47 (shW _ hj) rfl d_Wk_prepare_54 ?_
        refine g_if_eq (tgt := 75) C d_Wk_prepare_57 (by decide) hf (fun c9 hf => ?_) (fun c9 hf => ?_)
        · refine g_iconst (v := 0) C d_Wk_prepare_75 (by decide) ?_
          exact t_Wk_prepare_B76 C N hj _ _ _ _ hj hf
        · refine g_aload_n C d_Wk_prepare_60 rfl rfl ?_
          refine g_aload_n C d_Wk_prepare_61 rfl rfl ?_
          refine g_getI (k := 3) C k_Wk (by decide) fl_Wk_21 (shW _ hj) rfl d_Wk_prepare_62 ?_
          refine g_aload_n C d_Wk_prepare_65 rfl rfl ?_
          refine g_getI (k := 4) C k_Wk (by decide) fl_Wk_24 (shW _ hj) rfl d_Wk_prepare_66 ?_
          refine g_cvI C k_Gr rfl mv_Gr_within ml_Wk_94 d_Wk_prepare_69 hf (fun r μ1 h => t_Gr_within C.2.2.2.2.2.2.2.2.1 h) rfl rfl (by decide) (Nat.le_of_ble_eq_true rfl) (fun r11 μ10 hf => ?_)
          refine g_goto (tgt := 76) C d_Wk_prepare_72 (by decide) ?_
          exact t_Wk_prepare_B76 C N hj _ _ _ _ hj hf
      · refine g_aload_n C d_Wk_prepare_82 rfl rfl ?_
        refine g_aload_n C d_Wk_prepare_83 rfl rfl ?_
        refine g_aload_n C d_Wk_prepare_84 rfl rfl ?_
        refine g_cvI C k_Wk (shW _ hj) mv_Wk_faultOn ml_Wk_97 d_Wk_prepare_85 hf (fun r μ1 h => t_Wk_faultOn C.2.2.2.2.2.2.2.2.1 hj h) rfl rfl (by decide) (Nat.le_of_ble_eq_true rfl) (fun r13 μ12 hf => ?_)
        refine g_if_ne (tgt := 95) C d_Wk_prepare_88 (by decide) hf (fun c14 hf => ?_) (fun c14 hf => ?_)
        · refine g_iconst (v := 1) C d_Wk_prepare_91 (by decide) ?_
          refine g_goto (tgt := 96) C d_Wk_prepare_92 (by decide) ?_
          exact t_Wk_prepare_B96 C N hj _ _ _ _ hj rfl rfl hf
        · refine g_iconst (v := 0) C d_Wk_prepare_95 (by decide) ?_
          exact t_Wk_prepare_B96 C N hj _ _ _ _ hj rfl rfl hf
    · exact t_Wk_prepare_B24 C N hj _ _ rfl hf
  · exact t_Wk_prepare_B24 C N hj _ _ rfl hf
set_option maxHeartbeats 4000000 in
theorem t_Cr_refresh_B91 {ad : Nat → Nat} {dA : Nat → ClassId} {D : va_G} {p : Program} {l : Launch} {e : Env} {s : State} {m : MethodId} {args : Array Value} {below : List Frame} {meth : Method} {c : Code} {μ' : Mm} (C : Cx CLS SHX ad dA D p s m args meth c c_Cr_refresh 2 R_Cr (none)) (N : Nat)   : ∀  (μ : Mm) (lv : Nat → Option Value), lv 0 = some (.ref (ad 11)) → f_Cr_refresh_B91 N μ = some μ' → Go CLS SHX ad dA D p l e (rmD 4) s m args below meth c 2 none μ' 91 lv [] μ := by
  intro μ lv hl0 hf
  unfold f_Cr_refresh_B91 at hf
  refine g_aload_n C d_Cr_refresh_91 rfl hl0 ?_
  refine g_iconst (v := 0) C d_Cr_refresh_92 (by decide) ?_
  refine g_putZc (k := 4) C k_Cr (by decide) fl_Cr_24 rfl rfl rfl rfl d_Cr_refresh_93 rfl ?_
  refine g_aload_n C d_Cr_refresh_96 rfl hl0 ?_
  refine g_aload_n C d_Cr_refresh_97 rfl hl0 ?_
  refine g_getR (b := 6) (k := 0) C k_Cr (by decide) fl_Cr_31 rfl rfl d_Cr_refresh_98 ?_
  refine g_getI (k := 4) C k_Gr (by decide) fl_Cr_55 rfl rfl d_Cr_refresh_101 ?_
  refine g_putI (k := 5) C k_Cr (by decide) fl_Cr_28 rfl rfl rfl rfl d_Cr_refresh_104 ?_
  exact g_vret C d_Cr_refresh_107 hf
set_option maxHeartbeats 4000000 in
theorem t_Cr_refresh_B81 {ad : Nat → Nat} {dA : Nat → ClassId} {D : va_G} {p : Program} {l : Launch} {e : Env} {s : State} {m : MethodId} {args : Array Value} {below : List Frame} {meth : Method} {c : Code} {μ' : Mm} (C : Cx CLS SHX ad dA D p s m args meth c c_Cr_refresh 2 R_Cr (none)) (N : Nat)   (k36 : Int32 → Mm → Option Mm) (hk36 : ∀ (v1 : Int32) (μ : Mm) (lv : Nat → Option Value), lv 0 = some (.ref (ad 11)) → lv 1 = some (.int v1) → k36 v1 μ = some μ' → Go CLS SHX ad dA D p l e (rmD 4) s m args below meth c 2 none μ' 36 lv [] μ) : ∀ (v1 : Int32) (s1 : Int32) (s2 : Int32) (μ : Mm) (lv : Nat → Option Value), lv 0 = some (.ref (ad 11)) → lv 1 = some (.int v1) → f_Cr_refresh_B81 N k36 v1 s1 s2 μ = some μ' → Go CLS SHX ad dA D p l e (rmD 4) s m args below meth c 2 none μ' 81 lv [.int s2, .int s1, .ref (ad 11)] μ := by
  intro v1 s1 s2 μ lv hl0 hl1 hf
  unfold f_Cr_refresh_B81 at hf
  refine g_ior C d_Cr_refresh_81 ?_
  refine g_putI (k := 2) C k_Cr (by decide) fl_Cr_15 rfl rfl rfl rfl d_Cr_refresh_82 ?_
  refine g_iinc (v := 1) C d_Cr_refresh_85 hl1 (by decide) (by decide) ?_
  refine g_goto (tgt := 36) C d_Cr_refresh_88 (by decide) ?_
  exact hk36 _ _ _ ((upG hl0 rfl)) upS hf
set_option maxHeartbeats 4000000 in
theorem t_Cr_refresh_L36 {ad : Nat → Nat} {dA : Nat → ClassId} {D : va_G} {p : Program} {l : Launch} {e : Env} {s : State} {m : MethodId} {args : Array Value} {below : List Frame} {meth : Method} {c : Code} {μ' : Mm} (C : Cx CLS SHX ad dA D p s m args meth c c_Cr_refresh 2 R_Cr (none)) (N : Nat)   : ∀ (n : Nat) (v1 : Int32) (μ : Mm) (lv : Nat → Option Value), lv 0 = some (.ref (ad 11)) → lv 1 = some (.int v1) → f_Cr_refresh_L36 N n v1 μ = some μ' → Go CLS SHX ad dA D p l e (rmD 4) s m args below meth c 2 none μ' 36 lv [] μ := by
  intro n
  induction n with
  | zero => intro v1 μ lv hl0 hl1 hf; cases (show none = some _ from hf)
  | succ n ih =>
    intro v1 μ lv hl0 hl1 hf
    unfold f_Cr_refresh_L36 at hf
    refine g_iload_n C d_Cr_refresh_36 rfl hl1 ?_
    refine g_aload_n C d_Cr_refresh_37 rfl hl0 ?_
    refine g_getI (k := 1) C k_Cr (by decide) fl_Cr_9 rfl rfl d_Cr_refresh_38 ?_
    refine g_icmp_ge (tgt := 91) C d_Cr_refresh_41 (by decide) hf (fun c5 hf => ?_) (fun c5 hf => ?_)
    · exact t_Cr_refresh_B91 C N _ _ hl0 hf
    · refine g_aload_n C d_Cr_refresh_44 rfl hl0 ?_
      refine g_getR (b := 12) (k := 3) C k_Cr (by decide) fl_Cr_20 rfl rfl d_Cr_refresh_45 ?_
      refine g_iload_n C d_Cr_refresh_48 rfl hl1 ?_
      refine g_aald C rfl d_Cr_refresh_49 hf (fun hx6 hf => ?_)
      refine g_aload_n C d_Cr_refresh_50 rfl hl0 ?_
      refine g_getR (b := 6) (k := 0) C k_Cr (by decide) fl_Cr_31 rfl rfl d_Cr_refresh_51 ?_
      refine g_cvV C k_Wk (shW _ (ix8 hx6)) mv_Wk_prepare ml_Cr_63 d_Cr_refresh_54 hf (fun μ1 h => t_Wk_prepare C.2.2.2.2.2.2.2.2.1 (ix8 hx6) h) rfl rfl (by decide) (Nat.le_of_ble_eq_true rfl) (fun μ8 hf => ?_)
      refine g_aload_n C d_Cr_refresh_57 rfl hl0 ?_
      refine g_dup C d_Cr_refresh_58 rfl ?_
      refine g_getI (k := 2) C k_Cr (by decide) fl_Cr_15 rfl rfl d_Cr_refresh_59 ?_
      refine g_aload_n C d_Cr_refresh_62 rfl hl0 ?_
      refine g_getR (b := 12) (k := 3) C k_Cr (by decide) fl_Cr_20 rfl rfl d_Cr_refresh_63 ?_
      refine g_iload_n C d_Cr_refresh_66 rfl hl1 ?_
      refine g_aald C rfl d_Cr_refresh_67 hf (fun hx9 hf => ?_)
      refine g_getI (k := 11) C k_Wk (by decide) fl_Cr_67 (shW _ (ix8 hx9)) rfl d_Cr_refresh_68 ?_
      refine g_if_eq (tgt := 80) C d_Cr_refresh_71 (by decide) hf (fun c11 hf => ?_) (fun c11 hf => ?_)
      · refine g_iconst (v := 0) C d_Cr_refresh_80 (by decide) ?_
        exact t_Cr_refresh_B81 C N _ ih _ _ _ _ _ hl0 hl1 hf
      · refine g_iconst (v := 1) C d_Cr_refresh_74 (by decide) ?_
        refine g_iload_n C d_Cr_refresh_75 rfl hl1 ?_
        refine g_ishl C d_Cr_refresh_76 ?_
        refine g_goto (tgt := 81) C d_Cr_refresh_77 (by decide) ?_
        exact t_Cr_refresh_B81 C N _ ih _ _ _ _ _ hl0 hl1 hf
set_option maxHeartbeats 4000000 in
theorem t_Cr_refresh_B22 {ad : Nat → Nat} {dA : Nat → ClassId} {D : va_G} {p : Program} {l : Launch} {e : Env} {s : State} {m : MethodId} {args : Array Value} {below : List Frame} {meth : Method} {c : Code} {μ' : Mm} (C : Cx CLS SHX ad dA D p s m args meth c c_Cr_refresh 2 R_Cr (none)) (N : Nat)   : ∀  (μ : Mm) (lv : Nat → Option Value), lv 0 = some (.ref (ad 11)) → f_Cr_refresh_B22 N μ = some μ' → Go CLS SHX ad dA D p l e (rmD 4) s m args below meth c 2 none μ' 22 lv [] μ := by
  intro μ lv hl0 hf
  unfold f_Cr_refresh_B22 at hf
  refine g_aload_n C d_Cr_refresh_22 rfl hl0 ?_
  refine g_getR (b := 6) (k := 0) C k_Cr (by decide) fl_Cr_31 rfl rfl d_Cr_refresh_23 ?_
  refine g_cvV C k_Gr rfl mv_Gr_measure ml_Cr_60 d_Cr_refresh_26 hf (fun μ1 h => t_Gr_measure C.2.2.2.2.2.2.2.2.1 h) rfl rfl (by decide) (Nat.le_of_ble_eq_true rfl) (fun μ3 hf => ?_)
  refine g_aload_n C d_Cr_refresh_29 rfl hl0 ?_
  refine g_iconst (v := 0) C d_Cr_refresh_30 (by decide) ?_
  refine g_putI (k := 2) C k_Cr (by decide) fl_Cr_15 rfl rfl rfl rfl d_Cr_refresh_31 ?_
  refine g_iconst (v := 0) C d_Cr_refresh_34 (by decide) ?_
  refine g_istore_n C d_Cr_refresh_35 rfl (by decide) ?_
  exact t_Cr_refresh_L36 C N N _ _ _ ((upG hl0 rfl)) upS hf
set_option maxHeartbeats 4000000 in
theorem t_Cr_refresh {l : Launch} {ad : Nat → Nat} {dA : Nat → ClassId} {D : va_G} (hi : Inj SHX ad) {N : Nat}   {μ μ' : Mm} (hf : f_Cr_refresh N  μ = some μ') : Ct CLS l SHX ad dA D y_Cr_refresh c_Cr_refresh 2 (none) 4 [.ref (ad 11)] μ none μ' := by
  unfold f_Cr_refresh at hf
  refine ct_of (by decide) hi (Nat.le_of_ble_eq_true rfl) ?_
  intro p e s m args below meth c C
  refine g_aload_n C d_Cr_refresh_0 rfl rfl ?_
  refine g_getI (k := 4) C k_Cr (by decide) fl_Cr_24 rfl rfl d_Cr_refresh_1 ?_
  refine g_if_ne (tgt := 22) C d_Cr_refresh_4 (by decide) hf (fun c1 hf => ?_) (fun c1 hf => ?_)
  · refine g_aload_n C d_Cr_refresh_7 rfl rfl ?_
    refine g_getI (k := 5) C k_Cr (by decide) fl_Cr_28 rfl rfl d_Cr_refresh_8 ?_
    refine g_aload_n C d_Cr_refresh_11 rfl rfl ?_
    refine g_getR (b := 6) (k := 0) C k_Cr (by decide) fl_Cr_31 rfl rfl d_Cr_refresh_12 ?_
    refine g_getI (k := 4) C k_Gr (by decide) fl_Cr_55 rfl rfl d_Cr_refresh_15 ?_
    refine g_icmp_ne (tgt := 22) C d_Cr_refresh_18 (by decide) hf (fun c2 hf => ?_) (fun c2 hf => ?_)
    · exact g_vret C d_Cr_refresh_21 hf
    · exact t_Cr_refresh_B22 C N _ _ rfl hf
  · exact t_Cr_refresh_B22 C N _ _ rfl hf
set_option maxHeartbeats 4000000 in
theorem t_Cr_goes {l : Launch} {ad : Nat → Nat} {dA : Nat → ClassId} {D : va_G} (hi : Inj SHX ad) {N : Nat} {a1 : Int32}  {μ μ' : Mm} {r : Int32} (hf : f_Cr_goes N a1 μ = some (r, μ')) : Ct CLS l SHX ad dA D y_Cr_goes c_Cr_goes 2 (some .boolean) 0 [.ref (ad 11), .int a1] μ (some (.int r)) μ' := by
  unfold f_Cr_goes at hf
  refine ct_of (by decide) hi (Nat.le_of_ble_eq_true rfl) ?_
  intro p e s m args below meth c C
  refine g_aload_n C d_Cr_goes_0 rfl rfl ?_
  refine g_getI (k := 2) C k_Cr (by decide) fl_Cr_15 rfl rfl d_Cr_goes_1 ?_
  refine g_iload_n C d_Cr_goes_4 rfl rfl ?_
  refine g_ishr C d_Cr_goes_5 ?_
  refine g_iconst (v := 1) C d_Cr_goes_6 (by decide) ?_
  refine g_iand C d_Cr_goes_7 ?_
  refine g_if_eq (tgt := 15) C d_Cr_goes_8 (by decide) hf (fun c1 hf => ?_) (fun c1 hf => ?_)
  · refine g_iconst (v := 0) C d_Cr_goes_15 (by decide) ?_
    exact g_zretc C d_Cr_goes_16 rfl hf
  · refine g_iconst (v := 1) C d_Cr_goes_11 (by decide) ?_
    refine g_goto (tgt := 16) C d_Cr_goes_12 (by decide) ?_
    exact g_zretc C d_Cr_goes_16 rfl hf
set_option maxHeartbeats 4000000 in
theorem t_W_gcd_L9 {ad : Nat → Nat} {dA : Nat → ClassId} {D : va_G} {p : Program} {l : Launch} {e : Env} {s : State} {m : MethodId} {args : Array Value} {below : List Frame} {meth : Method} {c : Code} {r : Int64} {μ' : Mm} (C : Cx CLS SHX ad dA D p s m args meth c c_W_gcd 11 R_W (some .long)) (N : Nat)   : ∀ (n : Nat) (v4 : Int64) (v6 : Int64) (v8 : Int32) (μ : Mm) (lv : Nat → Option Value), lv 4 = some (.long v4) → lv 6 = some (.long v6) → lv 8 = some (.int v8) → f_W_gcd_L9 N n v4 v6 v8 μ = some (r, μ') → Go CLS SHX ad dA D p l e (rmD 0) s m args below meth c 11 (some (.long r)) μ' 9 lv [] μ := by
  intro n
  induction n with
  | zero => intro v4 v6 v8 μ lv hl4 hl6 hl8 hf; cases (show none = some _ from hf)
  | succ n ih =>
    intro v4 v6 v8 μ lv hl4 hl6 hl8 hf
    unfold f_W_gcd_L9 at hf
    refine g_iload C d_W_gcd_9 hl8 ?_
    refine g_sipush (v := 200) C d_W_gcd_11 (by decide) ?_
    refine g_icmp_ge (tgt := 45) C d_W_gcd_14 (by decide) hf (fun c1 hf => ?_) (fun c1 hf => ?_)
    · refine g_lload C d_W_gcd_45 hl4 ?_
      exact g_lret C d_W_gcd_47 hf
    · refine g_lload C d_W_gcd_17 hl6 ?_
      refine g_lconst (v := 0) C d_W_gcd_19 (by decide) ?_
      refine g_lcmp C d_W_gcd_20 ?_
      refine g_if_eq (tgt := 45) C d_W_gcd_21 (by decide) hf (fun c2 hf => ?_) (fun c2 hf => ?_)
      · refine g_lload C d_W_gcd_45 hl4 ?_
        exact g_lret C d_W_gcd_47 hf
      · refine g_lload C d_W_gcd_24 hl4 ?_
        refine g_lload C d_W_gcd_26 hl6 ?_
        refine g_lrem C d_W_gcd_28 hf (fun hf => ?_)
        refine g_lstore C d_W_gcd_29 (by decide) ?_
        refine g_lload C d_W_gcd_31 (upG hl6 rfl) ?_
        refine g_lstore C d_W_gcd_33 (by decide) ?_
        refine g_lload C d_W_gcd_35 (upG upS rfl) ?_
        refine g_lstore C d_W_gcd_37 (by decide) ?_
        refine g_iinc (v := 1) C d_W_gcd_39 (upG (upG (upG hl8 rfl) rfl) rfl) (by decide) (by decide) ?_
        refine g_goto (tgt := 9) C d_W_gcd_42 (by decide) ?_
        exact ih _ _ _ _ _ ((upG (upG upS rfl) rfl)) ((upG upS rfl)) upS hf
set_option maxHeartbeats 4000000 in
theorem t_W_gcd {l : Launch} {ad : Nat → Nat} {dA : Nat → ClassId} {D : va_G} (hi : Inj SHX ad) {N : Nat} {a1 : Int64} {a2 : Int64}  {μ μ' : Mm} {r : Int64} (hf : f_W_gcd N a1 a2 μ = some (r, μ')) : Ct CLS l SHX ad dA D y_W_gcd c_W_gcd 11 (some .long) 0 [.long a1, .long a2] μ (some (.long r)) μ' := by
  unfold f_W_gcd at hf
  refine ct_of (by decide) hi (Nat.le_of_ble_eq_true rfl) ?_
  intro p e s m args below meth c C
  refine g_lload_n C d_W_gcd_0 rfl rfl ?_
  refine g_lstore C d_W_gcd_1 (by decide) ?_
  refine g_lload_n C d_W_gcd_3 rfl (upG rfl rfl) ?_
  refine g_lstore C d_W_gcd_4 (by decide) ?_
  refine g_iconst (v := 0) C d_W_gcd_6 (by decide) ?_
  refine g_istore C d_W_gcd_7 (by decide) ?_
  exact t_W_gcd_L9 C N N _ _ _ _ _ ((upG (upG upS rfl) rfl)) ((upG upS rfl)) upS hf
set_option maxHeartbeats 4000000 in
theorem t_Cr_jointOf_B80 {ad : Nat → Nat} {dA : Nat → ClassId} {D : va_G} {p : Program} {l : Launch} {e : Env} {s : State} {m : MethodId} {args : Array Value} {below : List Frame} {meth : Method} {c : Code} {r : Int32} {μ' : Mm} (C : Cx CLS SHX ad dA D p s m args meth c c_Cr_jointOf 6 R_Cr (some .int)) (N : Nat)   (k4 : Int32 → Int32 → Int32 → Mm → Option (Int32 × Mm)) (hk4 : ∀ (v1 : Int32) (v2 : Int32) (v3 : Int32) (μ : Mm) (lv : Nat → Option Value), lv 0 = some (.ref (ad 11)) → lv 1 = some (.int v1) → lv 2 = some (.int v2) → lv 3 = some (.int v3) → k4 v1 v2 v3 μ = some (r, μ') → Go CLS SHX ad dA D p l e (rmD 1) s m args below meth c 6 (some (.int r)) μ' 4 lv [] μ) : ∀ (v1 : Int32) (v2 : Int32) (v3 : Int32) (μ : Mm) (lv : Nat → Option Value), lv 0 = some (.ref (ad 11)) → lv 1 = some (.int v1) → lv 2 = some (.int v2) → lv 3 = some (.int v3) → f_Cr_jointOf_B80 N k4 v1 v2 v3 μ = some (r, μ') → Go CLS SHX ad dA D p l e (rmD 1) s m args below meth c 6 (some (.int r)) μ' 80 lv [] μ := by
  intro v1 v2 v3 μ lv hl0 hl1 hl2 hl3 hf
  unfold f_Cr_jointOf_B80 at hf
  refine g_iinc (v := 1) C d_Cr_jointOf_80 hl3 (by decide) (by decide) ?_
  refine g_goto (tgt := 4) C d_Cr_jointOf_83 (by decide) ?_
  exact hk4 _ _ _ _ _ ((upG hl0 rfl)) ((upG hl1 rfl)) ((upG hl2 rfl)) upS hf
set_option maxHeartbeats 4000000 in
theorem t_Cr_jointOf_L4 {ad : Nat → Nat} {dA : Nat → ClassId} {D : va_G} {p : Program} {l : Launch} {e : Env} {s : State} {m : MethodId} {args : Array Value} {below : List Frame} {meth : Method} {c : Code} {r : Int32} {μ' : Mm} (C : Cx CLS SHX ad dA D p s m args meth c c_Cr_jointOf 6 R_Cr (some .int)) (N : Nat)   : ∀ (n : Nat) (v1 : Int32) (v2 : Int32) (v3 : Int32) (μ : Mm) (lv : Nat → Option Value), lv 0 = some (.ref (ad 11)) → lv 1 = some (.int v1) → lv 2 = some (.int v2) → lv 3 = some (.int v3) → f_Cr_jointOf_L4 N n v1 v2 v3 μ = some (r, μ') → Go CLS SHX ad dA D p l e (rmD 1) s m args below meth c 6 (some (.int r)) μ' 4 lv [] μ := by
  intro n
  induction n with
  | zero => intro v1 v2 v3 μ lv hl0 hl1 hl2 hl3 hf; cases (show none = some _ from hf)
  | succ n ih =>
    intro v1 v2 v3 μ lv hl0 hl1 hl2 hl3 hf
    unfold f_Cr_jointOf_L4 at hf
    refine g_iload_n C d_Cr_jointOf_4 rfl hl3 ?_
    refine g_aload_n C d_Cr_jointOf_5 rfl hl0 ?_
    refine g_getI (k := 1) C k_Cr (by decide) fl_Cr_9 rfl rfl d_Cr_jointOf_6 ?_
    refine g_icmp_ge (tgt := 86) C d_Cr_jointOf_9 (by decide) hf (fun c1 hf => ?_) (fun c1 hf => ?_)
    · refine g_iload_n C d_Cr_jointOf_86 rfl hl2 ?_
      exact g_iret C d_Cr_jointOf_87 hf
    · refine g_iload_n C d_Cr_jointOf_12 rfl hl1 ?_
      refine g_iload_n C d_Cr_jointOf_13 rfl hl3 ?_
      refine g_ishr C d_Cr_jointOf_14 ?_
      refine g_iconst (v := 1) C d_Cr_jointOf_15 (by decide) ?_
      refine g_iand C d_Cr_jointOf_16 ?_
      refine g_if_ne (tgt := 23) C d_Cr_jointOf_17 (by decide) hf (fun c2 hf => ?_) (fun c2 hf => ?_)
      · refine g_goto (tgt := 80) C d_Cr_jointOf_20 (by decide) ?_
        exact t_Cr_jointOf_B80 C N _ ih _ _ _ _ _ hl0 hl1 hl2 hl3 hf
      · refine g_aload_n C d_Cr_jointOf_23 rfl hl0 ?_
        refine g_getR (b := 12) (k := 3) C k_Cr (by decide) fl_Cr_20 rfl rfl d_Cr_jointOf_24 ?_
        refine g_iload_n C d_Cr_jointOf_27 rfl hl3 ?_
        refine g_aald C rfl d_Cr_jointOf_28 hf (fun hx3 hf => ?_)
        refine g_getI (k := 12) C k_Wk (by decide) fl_Cr_69 (shW _ (ix8 hx3)) rfl d_Cr_jointOf_29 ?_
        refine g_istore C d_Cr_jointOf_32 (by decide) ?_
        refine g_iload_n C d_Cr_jointOf_34 rfl (upG hl2 rfl) ?_
        refine g_i2l C d_Cr_jointOf_35 ?_
        refine g_iload C d_Cr_jointOf_36 upS ?_
        refine g_i2l C d_Cr_jointOf_38 ?_
        refine g_cnL C mv_W_gcd mn_Cr_72 d_Cr_jointOf_39 hf (fun r μ1 h => t_W_gcd C.2.2.2.2.2.2.2.2.1 h) rfl rfl (by decide) (Nat.le_of_ble_eq_true rfl) (fun r7 μ6 hf => ?_)
        refine g_l2i C d_Cr_jointOf_42 ?_
        refine g_istore C d_Cr_jointOf_43 (by decide) ?_
        refine g_iload C d_Cr_jointOf_45 upS ?_
        refine g_iconst (v := 1) C d_Cr_jointOf_47 (by decide) ?_
        refine g_icmp_lt (tgt := 59) C d_Cr_jointOf_48 (by decide) hf (fun c9 hf => ?_) (fun c9 hf => ?_)
        · refine g_bipush (v := -6) C d_Cr_jointOf_59 (by decide) ?_
          exact g_iret C d_Cr_jointOf_61 hf
        · refine g_iload C d_Cr_jointOf_51 (upG upS rfl) ?_
          refine g_sipush (v := 14400) C d_Cr_jointOf_53 (by decide) ?_
          refine g_icmp_le (tgt := 62) C d_Cr_jointOf_56 (by decide) hf (fun c10 hf => ?_) (fun c10 hf => ?_)
          · refine g_iload_n C d_Cr_jointOf_62 rfl (upG (upG hl2 rfl) rfl) ?_
            refine g_iload C d_Cr_jointOf_63 upS ?_
            refine g_idiv C d_Cr_jointOf_65 hf (fun hf => ?_)
            refine g_iload C d_Cr_jointOf_66 (upG upS rfl) ?_
            refine g_imul C d_Cr_jointOf_68 ?_
            refine g_istore_n C d_Cr_jointOf_69 rfl (by decide) ?_
            refine g_iload_n C d_Cr_jointOf_70 rfl upS ?_
            refine g_sipush (v := 14400) C d_Cr_jointOf_71 (by decide) ?_
            refine g_icmp_le (tgt := 80) C d_Cr_jointOf_74 (by decide) hf (fun c12 hf => ?_) (fun c12 hf => ?_)
            · exact t_Cr_jointOf_B80 C N _ ih _ _ _ _ _ ((upG (upG (upG hl0 rfl) rfl) rfl)) ((upG (upG (upG hl1 rfl) rfl) rfl)) upS ((upG (upG (upG hl3 rfl) rfl) rfl)) hf
            · refine g_bipush (v := -6) C d_Cr_jointOf_77 (by decide) ?_
              exact g_iret C d_Cr_jointOf_79 hf
          · refine g_bipush (v := -6) C d_Cr_jointOf_59 (by decide) ?_
            exact g_iret C d_Cr_jointOf_61 hf
set_option maxHeartbeats 4000000 in
theorem t_Cr_jointOf {l : Launch} {ad : Nat → Nat} {dA : Nat → ClassId} {D : va_G} (hi : Inj SHX ad) {N : Nat} {a1 : Int32}  {μ μ' : Mm} {r : Int32} (hf : f_Cr_jointOf N a1 μ = some (r, μ')) : Ct CLS l SHX ad dA D y_Cr_jointOf c_Cr_jointOf 6 (some .int) 1 [.ref (ad 11), .int a1] μ (some (.int r)) μ' := by
  unfold f_Cr_jointOf at hf
  refine ct_of (by decide) hi (Nat.le_of_ble_eq_true rfl) ?_
  intro p e s m args below meth c C
  refine g_iconst (v := 1) C d_Cr_jointOf_0 (by decide) ?_
  refine g_istore_n C d_Cr_jointOf_1 rfl (by decide) ?_
  refine g_iconst (v := 0) C d_Cr_jointOf_2 (by decide) ?_
  refine g_istore_n C d_Cr_jointOf_3 rfl (by decide) ?_
  exact t_Cr_jointOf_L4 C N N _ _ _ _ _ ((upG (upG rfl rfl) rfl)) ((upG (upG rfl rfl) rfl)) ((upG upS rfl)) upS hf
