/-! THE LAW from its entry, out of SimAll (by program) -/
set_option maxRecDepth 100000 in
theorem w_over : Cond.arrayOver (.object "WallWalkers$Walker") ∈ lw_tbl := (List.mem_append_right _ (show Cond.arrayOver (.object "WallWalkers$Walker") ∈ tables_1 from List.mem_append_left _ (List.mem_of_getElem? (i := 119) (by decide +kernel))))
set_option maxRecDepth 100000 in
theorem w_nest0 : Cond.methodLinkNest "WallWalkers" 9 ⟨"WallWalkers$Tally", "<init>", "()V"⟩ "WallWalkers" ∈ lw_tbl := (List.mem_append_right _ (show Cond.methodLinkNest "WallWalkers" 9 ⟨"WallWalkers$Tally", "<init>", "()V"⟩ "WallWalkers" ∈ tables_1 from List.mem_append_left _ (List.mem_of_getElem? (i := 26) (by decide +kernel))))
set_option maxRecDepth 100000 in
theorem w_nest1 : Cond.methodLinkNest "WallWalkers$Crew" 35 ⟨"WallWalkers$Walker", "<init>", "()V"⟩ "WallWalkers" ∈ lw_tbl := (List.mem_append_right _ (show Cond.methodLinkNest "WallWalkers$Crew" 35 ⟨"WallWalkers$Walker", "<init>", "()V"⟩ "WallWalkers" ∈ tables_1 from List.mem_append_left _ (List.mem_of_getElem? (i := 121) (by decide +kernel))))
set_option maxRecDepth 100000 in
theorem w_nest2 : Cond.methodLinkNest "WallWalkers$Crew" 72 ⟨"WallWalkers", "gcd", "(JJ)J"⟩ "WallWalkers" ∈ lw_tbl := (List.mem_append_right _ (show Cond.methodLinkNest "WallWalkers$Crew" 72 ⟨"WallWalkers", "gcd", "(JJ)J"⟩ "WallWalkers" ∈ tables_1 from List.mem_append_right _ (List.mem_append_right _ (List.mem_append_right _ (List.mem_append_left _ (List.mem_of_getElem? (i := 47) (by decide +kernel)))))))
set_option maxRecDepth 100000 in
theorem w_nest3 : Cond.methodLinkNest "WallWalkers$Tally" 29 ⟨"WallWalkers", "gcd", "(JJ)J"⟩ "WallWalkers" ∈ lw_tbl := (List.mem_append_right _ (show Cond.methodLinkNest "WallWalkers$Tally" 29 ⟨"WallWalkers", "gcd", "(JJ)J"⟩ "WallWalkers" ∈ tables_1 from List.mem_append_right _ (List.mem_append_right _ (List.mem_append_right _ (List.mem_append_left _ (List.mem_of_getElem? (i := 185) (by decide +kernel)))))))
theorem arr_K {s : State} {args : Array Value} {ty : FieldType} (h : (Cond.arrayClass ty).before args s = true) : ∃ cA : ClassId, ArrOfT s cA ty ∧ s.vm.findClass ("[" ++ ty.toString) = some cA := by
  obtain ⟨c, k, comp, h1, h2, h3⟩ := Cond.arrayClass_spec h
  exact ⟨c, fun n z => ⟨fun k h => (by cases h), k, h2, comp, h3⟩, h1⟩
theorem arr_O {s : State} {args : Array Value} {C : String} (h : (Cond.arrayOver (.object C)).before args s = true) : ∃ cA : ClassId, ArrOfT s cA (.object C) ∧ va_RA s cA (.object C) := by
  obtain ⟨comp, c, k, h1, h2, h3, h4, h5⟩ := Cond.arrayOver_spec h
  exact ⟨c, fun n z => ⟨fun k h => (by cases h), k, h3, comp, h4⟩, ⟨k, comp, h3, h4, h1, h5⟩⟩
theorem P_l {D : va_G} {w1 w2 : va_W} {H : Heap} (h : va_P D CLS (w1 ++ w2) H) : va_P D CLS w1 H := fun k q hk => h k q (by rw [List.getElem?_append_left (List.getElem?_eq_some_iff.mp hk).1]; exact hk)
theorem P_r {D : va_G} {w1 w2 : va_W} {H : Heap} (h : va_P D CLS (w1 ++ w2) H) : va_P D CLS w2 H := fun k q hk => h (w1.length + k) q (by rw [List.getElem?_append_right (by omega)]; simpa using hk)
theorem D_l {A : Nat → Prop} {w1 w2 : va_W} (h : va_D A (w1 ++ w2)) : va_D A w1 := by
  have e : ∀ (k : Nat) (q : Nat × va_E), w1[k]? = some q → (w1 ++ w2)[k]? = some q := fun k q hk => by rw [List.getElem?_append_left (List.getElem?_eq_some_iff.mp hk).1]; exact hk
  exact ⟨fun i j p q hi hj => h.1 i j p q (e i p hi) (e j q hj), fun k q hk => h.2 k q (e k q hk)⟩
theorem D_r {A : Nat → Prop} {w1 w2 : va_W} (h : va_D A (w1 ++ w2)) : va_D A w2 := by
  have e : ∀ (k : Nat) (q : Nat × va_E), w2[k]? = some q → (w1 ++ w2)[w1.length + k]? = some q := fun k q hk => by rw [List.getElem?_append_right (by omega)]; simpa using hk
  exact ⟨fun i j p q hi hj hpq => by have := h.1 _ _ p q (e i p hi) (e j q hj) hpq; omega, fun k q hk => h.2 _ q (e k q hk)⟩
theorem D_x {A : Nat → Prop} {w1 w2 : va_W} (h : va_D A (w1 ++ w2)) {i j : Nat} {p q : Nat × va_E} (hi : w1[i]? = some p) (hj : w2[j]? = some q) : p.1 ≠ q.1 := by
  intro e
  have hl := (List.getElem?_eq_some_iff.mp hi).1
  have := h.1 i (w1.length + j) p q (by rw [List.getElem?_append_left hl]; exact hi) (by rw [List.getElem?_append_right (by omega)]; simpa using hj) e
  omega
set_option maxRecDepth 100000 in
theorem startP2 {D : va_G} {dA : Nat → ClassId} {h0 h1 : Nat} {u u' : Nat → Nat} {H : Heap} (h : va_P D CLS (pX dA h0 u ++ pM dA h1 u') H) : va_P D CLS (wld (adr h0 u) dA μX0 0 SHX) H ∧ va_P D CLS (wld (adr h1 u') dA μM0 0 SHM) H := ⟨startX (P_l h), startM (P_r h)⟩
set_option maxRecDepth 100000 in
theorem startD2 {A : Nat → Prop} {dA : Nat → ClassId} {h0 h1 : Nat} {u u' : Nat → Nat} (h : va_D A (pX dA h0 u ++ pM dA h1 u')) : va_D A (wld (adr h0 u) dA μX0 0 SHX) ∧ va_D A (wld (adr h1 u') dA μM0 0 SHM) ∧ ∀ i j, i < SHX.length → j < SHM.length → adr h0 u i ≠ adr h1 u' j := by
  refine ⟨startXD (D_l h), startMD (D_r h), fun i j hi hj => ?_⟩
  have h2 : va_D A (wld (adr h0 u) dA μX0 0 SHX ++ wld (adr h1 u') dA μM0 0 SHM) := h.set (p := 12) rfl
  exact D_x h2 (wld_at (List.getElem?_eq_getElem hi)) (wld_at (List.getElem?_eq_getElem hj))
set_option maxRecDepth 100000 in
theorem kl_L_7 : Cond.classLink R_law 7 R_W ∈ TB := TB_t1 16 (by decide +kernel) (by decide +kernel)
set_option maxRecDepth 100000 in
theorem kl_L_10 : Cond.classLink R_law 10 R_M ∈ TB := TB_t6 21 (by decide +kernel) (by decide +kernel)
set_option maxRecDepth 100000 in
theorem ins_W : Cond.instantiable R_W 8 ∈ TB := TB_t1 17 (by decide +kernel) (by decide +kernel)
set_option maxRecDepth 100000 in
theorem ins_M : Cond.instantiable R_M 56 ∈ TB := TB_t6 22 (by decide +kernel) (by decide +kernel)
set_option maxRecDepth 100000 in
theorem im_W_init : Cond.instanceMethod y_W_init ∈ TB := TB_t1 19 (by decide +kernel) (by decide +kernel)
set_option maxRecDepth 100000 in
theorem im_M_init : Cond.instanceMethod y_M_init ∈ TB := TB_t6 24 (by decide +kernel) (by decide +kernel)
set_option maxRecDepth 100000 in
theorem cd_W_init : Cond.code y_W_init c_W_init 1 (none) ∈ TB := TB_t1 20 (by decide +kernel) (by decide +kernel)
set_option maxRecDepth 100000 in
theorem cd_M_init : Cond.code y_M_init c_M_init 2 (none) ∈ TB := TB_t6 25 (by decide +kernel) (by decide +kernel)
theorem n_astore_n' {dA : Nat → ClassId} {D : va_G} {p : Program} {l : Launch} {e : Env} {R : Room} {s : State} {m : MethodId} {args : Array Value} {below : List Frame} {meth : Method} {c : Code} {cc : ByteArray} {nL : Nat} {own : String} {A : Nat → Prop} {Q : State → Prop} {pc : Nat} {lv : Nat → Option Value} {st : List Value} {cells slots : Nat} {ws : va_W} (C : Cn dA D p s m args meth c cc nL own A) {k : Fin 4} {i x : Nat} (d : decode cc pc = .ok (.astore_n k, 1)) (hi : (k : Nat) = i) (hn : i < nL) (kk : GN D p l e R s m args below meth c nL A Q (pc + 1) (upL lv i (.ref x)) st cells slots ws) : GN D p l e R s m args below meth c nL A Q pc lv (.ref x :: st) cells slots ws := n_astore_n C d hi hn kk
set_option maxHeartbeats 8000000 in
set_option maxRecDepth 100000 in
theorem whole_of_sim {Rel : Nat → Mm → Mm → Prop} {N : Nat} (S : SimAll Rel N) {p : Program} {e : Env} {s : State} {m : MethodId} {below : List Frame} {meth : Method} {c : Code} (l : Launch) {b L : Nat} {xs : Nat → Int32} (hL : L ≤ 3072) (C0 : lw_At p s m meth c b L xs) : W p l e room_1 s m #[Value.ref b] below meth c s.heap [] 0 0 (lw_Z below #[Value.ref b] s) (entryFrame m ([Value.ref b] : List Value).toArray 4) := by
  obtain ⟨hx, hb, hr, hml, hown, hts, hX, hbl, hlocks, hgv⟩ := id C0
  have htb : ∀ w ∈ TB, w.before #[Value.ref b] s = true := fun w hw => hts w (List.mem_filter.mp hw).1
  obtain ⟨c0, i0, hKn0⟩ := u_known (C := R_Cr) (T := T_Cr) (N := 6) (n := 6) htb in_Cr (htb _ ins_Cr)
  obtain ⟨c1, i1, hKn1⟩ := u_known (C := R_Gr) (T := T_Gr) (N := 10) (n := 10) htb in_Gr (htb _ ins_Gr)
  obtain ⟨c2, i2, hKn2⟩ := u_known (C := R_Me) (T := T_Me) (N := 4) (n := 4) htb in_Me (htb _ ins_Me)
  obtain ⟨c3, i3, hKn3⟩ := u_known (C := R_Sh) (T := T_Sh) (N := 7) (n := 7) htb in_Sh (htb _ ins_Sh)
  obtain ⟨c4, i4, hKn4⟩ := u_known (C := R_Sf) (T := T_Sf) (N := 2) (n := 2) htb in_Sf (htb _ ins_Sf)
  obtain ⟨c5, i5, hKn5⟩ := u_known (C := R_St) (T := T_St) (N := 9) (n := 9) htb in_St (htb _ ins_St)
  obtain ⟨c6, i6, hKn6⟩ := u_known (C := R_Ta) (T := T_Ta) (N := 5) (n := 5) htb in_Ta (htb _ ins_Ta)
  obtain ⟨c7, i7, hKn7⟩ := u_known (C := R_To) (T := T_To) (N := 7) (n := 7) htb in_To (htb _ ins_To)
  obtain ⟨c8, i8, hKn8⟩ := u_known (C := R_Wk) (T := T_Wk) (N := 17) (n := 17) htb in_Wk (htb _ ins_Wk)
  obtain ⟨c9, i9, hKn9⟩ := u_known (C := R_Wa) (T := T_Wa) (N := 16) (n := 16) htb in_Wa (htb _ ins_Wa)
  obtain ⟨c10, i10, hKn10⟩ := u_known (C := R_W) (T := T_W) (N := 8) (n := 8) htb in_W (htb _ ins_W)
  obtain ⟨c11, i11, hKn11⟩ := u_known (C := R_M) (T := T_M) (N := 56) (n := 56) htb in_M (htb _ ins_M)
  obtain ⟨dC, dI, hKc⟩ : ∃ (dC : Nat → ClassId) (dI : Nat → Nat → Nat), ∀ (k : Nat) (q : vw_C), CLS[k]? = some q → u_Kn s q.1 q.2.1 q.2.2 (dC k) (dI k) := by
    refine ⟨fun k => match k with | 0 => c0 | 1 => c1 | 2 => c2 | 3 => c3 | 4 => c4 | 5 => c5 | 6 => c6 | 7 => c7 | 8 => c8 | 9 => c9 | 10 => c10 | _ => c11, fun k => match k with | 0 => i0 | 1 => i1 | 2 => i2 | 3 => i3 | 4 => i4 | 5 => i5 | 6 => i6 | 7 => i7 | 8 => i8 | 9 => i9 | 10 => i10 | _ => i11, ?_⟩
    intro k q hq
    match k, hq with
    | 0, hq => cases hq; exact hKn0
    | 1, hq => cases hq; exact hKn1
    | 2, hq => cases hq; exact hKn2
    | 3, hq => cases hq; exact hKn3
    | 4, hq => cases hq; exact hKn4
    | 5, hq => cases hq; exact hKn5
    | 6, hq => cases hq; exact hKn6
    | 7, hq => cases hq; exact hKn7
    | 8, hq => cases hq; exact hKn8
    | 9, hq => cases hq; exact hKn9
    | 10, hq => cases hq; exact hKn10
    | 11, hq => cases hq; exact hKn11
    | k + 12, hq => simp at hq
  obtain ⟨a_int, r_int, f_int⟩ := arr_K (htb _ arc_int)
  obtain ⟨a_byte, r_byte, f_byte⟩ := arr_K (htb _ arc_byte)
  obtain ⟨a_boolean, r_boolean, f_boolean⟩ := arr_K (htb _ arc_boolean)
  obtain ⟨a_long, r_long, f_long⟩ := arr_K (htb _ arc_long)
  obtain ⟨a_o, r_o, f_o⟩ := arr_O (hts _ w_over)
  obtain ⟨dA, hA0, hA1, hA2, hA3, hA4⟩ : ∃ dA : Nat → ClassId, dA 0 = a_int ∧ dA 1 = a_byte ∧ dA 2 = a_boolean ∧ dA 3 = a_long ∧ dA 4 = a_o := ⟨fun k => match k with | 0 => a_int | 1 => a_byte | 2 => a_boolean | 3 => a_long | _ => a_o, rfl, rfl, rfl, rfl, rfl⟩
  subst hA0 hA1 hA2 hA3 hA4
  have hK : va_K (dC, dI) CLS (tysA dA) s := by
    refine ⟨hKc, fun k q hq => ?_⟩
    match k, hq with
    | 0, hq => cases hq; exact ⟨r_int, f_int⟩
    | 1, hq => cases hq; exact ⟨r_byte, f_byte⟩
    | 2, hq => cases hq; exact ⟨r_boolean, f_boolean⟩
    | 3, hq => cases hq; exact ⟨r_long, f_long⟩
    | 4, hq => cases hq; exact ⟨r_o, f_o⟩
    | k + 5, hq => simp [tysA] at hq
  have hN : Nst s := by
    intro q hq
    simp only [NST, List.mem_cons, List.not_mem_nil, or_false] at hq
    rcases hq with rfl | rfl | rfl | rfl
    · exact va_Nw.of rfl (hts _ w_nest0)
    · exact va_Nw.of rfl (hts _ w_nest1)
    · exact va_Nw.of rfl (hts _ w_nest2)
    · exact va_Nw.of rfl (hts _ w_nest3)
  have hB : Wb dA (dC, dI) s := ⟨hK, hN, va_AO.of (hts _ w_over)⟩
  have C : Cn dA (dC, dI) p s m #[Value.ref b] meth c code 4 R_law (fun q => s.heap.size ≤ q) := ⟨hx, hb, hml, hown, htb, hB, hlocks, fun _ h => h⟩
  have hl := lv_entry ([.ref b]) (n := 4) (Nat.le_of_ble_eq_true rfl)
  rw [lg_entry_eq]
  suffices h : GN (dC, dI) p l e room_1 s m #[Value.ref b] below meth c 4 (fun q => s.heap.size ≤ q) (lw_Z below #[Value.ref b] s) 0 (lvA [.ref b]) [] 0 0 [] from h _ s.heap [] ⟨hl.1, hl.2.1, fun i v h => hl.2.2 (i, v) (lookup_mem _ h)⟩ (fun k q h => by simp at h) ⟨fun i j p q h => by simp at h, fun k q h => by simp at h⟩ va_S.rf
  refine n_new (fs := [.null, .null, .null, .null, .null, .null, .null, .null]) C k_W kl_L_7 ins_W ini_W (by intro j hj; match j, hj with | 0, _ => rfl | 1, _ => rfl | 2, _ => rfl | 3, _ => rfl | 4, _ => rfl | 5, _ => rfl | 6, _ => rfl | 7, _ => rfl | k + 8, h => exact absurd h (by omega)) (by decide) (by decide) d_L_0 (fun q1 => ?_)
  refine n_dup C d_L_3 rfl ?_
  refine n_ci (n := 0) (As := []) (wc := [(q1, .inr (10, [.null, .null, .null, .null, .null, .null, .null, .null]))]) (wr := []) C [0] [] rfl rfl (by decide) (by decide) (by decide) rfl (by decide) (by decide) (Nat.le_of_ble_eq_true rfl) rfl ml_L_9 ini_W im_W_init cd_W_init rfl (by decide +kernel) d_L_4 (n_W_init dA (dC, dI) l q1) (fun u1 => ?_)
  refine n_astore_n C d_L_7 rfl (by decide) ?_
  refine n_new (fs := [.int 0, .null, .int 0, .long 0, .long 0, .null, .null, .null, .int 0, .int 0, .null, .null, .null, .null, .null, .int 0, .null, .null, .null, .null, .null, .null, .null, .null, .null, .null, .null, .int 0, .int 0, .int 0, .int 0, .int 0, .null, .int 0, .int 0, .int 0, .int 0, .int 0, .int 0, .int 0, .int 0, .int 0, .int 0, .int 0, .null, .null, .int 0, .null, .null, .int 0, .null, .null, .null, .int 0, .null, .null]) C k_M kl_L_10 ins_M ini_M (by intro j hj; match j, hj with | 0, _ => rfl | 1, _ => rfl | 2, _ => rfl | 3, _ => rfl | 4, _ => rfl | 5, _ => rfl | 6, _ => rfl | 7, _ => rfl | 8, _ => rfl | 9, _ => rfl | 10, _ => rfl | 11, _ => rfl | 12, _ => rfl | 13, _ => rfl | 14, _ => rfl | 15, _ => rfl | 16, _ => rfl | 17, _ => rfl | 18, _ => rfl | 19, _ => rfl | 20, _ => rfl | 21, _ => rfl | 22, _ => rfl | 23, _ => rfl | 24, _ => rfl | 25, _ => rfl | 26, _ => rfl | 27, _ => rfl | 28, _ => rfl | 29, _ => rfl | 30, _ => rfl | 31, _ => rfl | 32, _ => rfl | 33, _ => rfl | 34, _ => rfl | 35, _ => rfl | 36, _ => rfl | 37, _ => rfl | 38, _ => rfl | 39, _ => rfl | 40, _ => rfl | 41, _ => rfl | 42, _ => rfl | 43, _ => rfl | 44, _ => rfl | 45, _ => rfl | 46, _ => rfl | 47, _ => rfl | 48, _ => rfl | 49, _ => rfl | 50, _ => rfl | 51, _ => rfl | 52, _ => rfl | 53, _ => rfl | 54, _ => rfl | 55, _ => rfl | k + 56, h => exact absurd h (by omega)) (by decide) (by decide) d_L_8 (fun q2 => ?_)
  refine n_dup C d_L_11 rfl ?_
  refine n_ci (n := 0) (As := []) (wc := [(q2, .inr (11, [.int 0, .null, .int 0, .long 0, .long 0, .null, .null, .null, .int 0, .int 0, .null, .null, .null, .null, .null, .int 0, .null, .null, .null, .null, .null, .null, .null, .null, .null, .null, .null, .int 0, .int 0, .int 0, .int 0, .int 0, .null, .int 0, .int 0, .int 0, .int 0, .int 0, .int 0, .int 0, .int 0, .int 0, .int 0, .int 0, .null, .null, .int 0, .null, .null, .int 0, .null, .null, .null, .int 0, .null, .null]))]) (wr := pX dA q1 u1) C [84] [0, 1, 2, 3, 4, 5, 6, 7, 8, 9, 10, 11, 12, 13, 14, 15, 16, 17, 18, 19, 20, 21, 22, 23, 24, 25, 26, 27, 28, 29, 30, 31, 32, 33, 34, 35, 36, 37, 38, 39, 40, 41, 42, 43, 44, 45, 46, 47, 48, 49, 50, 51, 52, 53, 54, 55, 56, 57, 58, 59, 60, 61, 62, 63, 64, 65, 66, 67, 68, 69, 70, 71, 72, 73, 74, 75, 76, 77, 78, 79, 80, 81, 82, 83] rfl rfl (by decide) (by decide) (by decide) rfl (by decide) (by decide) (Nat.le_of_ble_eq_true rfl) rfl ml_L_12 ini_M im_M_init cd_M_init rfl (by decide +kernel) d_L_12 (n_M_init dA (dC, dI) l q2) (fun u2 => ?_)
  refine n_astore_n C d_L_15 rfl (by decide) ?_
  refine n_iconst (v := 0) C d_L_16 (by decide) ?_
  refine n_istore_n C d_L_17 rfl (by decide) ?_
  intro ls H locs g1 g2 g3 g4
  obtain ⟨hPx, hPm⟩ := startP2 (dA := dA) (h0 := q1) (h1 := q2) (u := u1) (u' := u2) g2
  obtain ⟨hDx, hDm, hne⟩ := startD2 (dA := dA) (h0 := q1) (h1 := q2) (u := u1) (u' := u2) g3
  have CC : ClL dA (dC, dI) (adr q1 u1) (adr q2 u2) p s m meth c b L xs := ⟨C0, hB, (wld_inj hDx).1, (wld_inj hDm).1, (wld_inj hDx).2, (wld_inj hDm).2, hne, htb⟩
  exact law_loop CC hL S 513 0 (by omega) (by omega) μX0 μM0 S.1 _ (upG (upG (upG rfl rfl) rfl) rfl) (upG (upG upS rfl) rfl) (upG upS rfl) upS ls H locs g1 hPx hPm g4
