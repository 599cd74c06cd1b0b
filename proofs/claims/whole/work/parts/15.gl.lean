/-! THE LAW: rows of its judgement GL (two worlds and the script) -/
def ClL (dA : Nat → ClassId) (D : va_G) (aX aM : Nat → Nat) (p : Program) (s : State) (m : MethodId) (meth : Method) (c : Code) (b L : Nat) (xs : Nat → Int32) : Prop := lw_At p s m meth c b L xs ∧ Wb dA D s ∧ Inj SHX aX ∧ Inj SHM aM ∧ (∀ i, i < SHX.length → s.heap.size ≤ aX i) ∧ (∀ i, i < SHM.length → s.heap.size ≤ aM i) ∧ (∀ i j, i < SHX.length → j < SHM.length → aX i ≠ aM j) ∧ (∀ w ∈ TB, w.before #[Value.ref b] s = true)
def GL (dA : Nat → ClassId) (D : va_G) (aX aM : Nat → Nat) (p : Program) (l : Launch) (e : Env) (s : State) (m : MethodId) (b : Nat) (below : List Frame) (meth : Method) (c : Code) (pc : Nat) (lv : Nat → Option Value) (st : List Value) (μx μm : Mm) : Prop :=
  ∀ (ls : Array Slot) (H : Heap) (locs : List Loc), lvf ls 4 lv → va_P D CLS (wld aX dA μx 0 SHX) H → va_P D CLS (wld aM dA μm 0 SHM) H → va_S (fun q => s.heap.size ≤ q) s.heap H locs → W p l e room_1 s m #[Value.ref b] below meth c H locs 115 33799 (lw_Z below #[Value.ref b] s) (F0 m pc ls st)
section GLS
variable {dA : Nat → ClassId} {D : va_G} {aX aM : Nat → Nat} {p : Program} {l : Launch} {e : Env} {s : State} {m : MethodId} {b L : Nat} {xs : Nat → Int32} {below : List Frame} {meth : Method} {c : Code} {pc : Nat} {lv : Nat → Option Value} {st : List Value} {μx μm : Mm}
theorem l_iconst (C : ClL dA D aX aM p s m meth c b L xs) {n : Int} {v : Int32} (d : decode code pc = .ok (.iconst n, 1)) (hv : Int32.ofInt n = v) (k : GL dA D aX aM p l e s m b below meth c (pc + 1) lv (.int v :: st) μx μm) : GL dA D aX aM p l e s m b below meth c pc lv st μx μm := fun ls H locs h1 h2 h3 h4 => lv_iconst C.1.1 C.1.2.1 d hv (k ls H locs h1 h2 h3 h4)
theorem l_bipush (C : ClL dA D aX aM p s m meth c b L xs) {n : Int} {v : Int32} (d : decode code pc = .ok (.bipush n, 2)) (hv : (Int8.ofInt n).toInt32 = v) (k : GL dA D aX aM p l e s m b below meth c (pc + 2) lv (.int v :: st) μx μm) : GL dA D aX aM p l e s m b below meth c pc lv st μx μm := fun ls H locs h1 h2 h3 h4 => lv_bipush C.1.1 C.1.2.1 d hv (k ls H locs h1 h2 h3 h4)
theorem l_iadd (C : ClL dA D aX aM p s m meth c b L xs) {x y : Int32} (d : decode code pc = .ok (.iadd, 1))  (k : GL dA D aX aM p l e s m b below meth c (pc + 1) lv (.int (x + y) :: st) μx μm) : GL dA D aX aM p l e s m b below meth c pc lv (.int y :: .int x :: st) μx μm := fun ls H locs h1 h2 h3 h4 => lv_iadd C.1.1 C.1.2.1 d  (k ls H locs h1 h2 h3 h4)
theorem l_isub (C : ClL dA D aX aM p s m meth c b L xs) {x y : Int32} (d : decode code pc = .ok (.isub, 1))  (k : GL dA D aX aM p l e s m b below meth c (pc + 1) lv (.int (x - y) :: st) μx μm) : GL dA D aX aM p l e s m b below meth c pc lv (.int y :: .int x :: st) μx μm := fun ls H locs h1 h2 h3 h4 => lv_isub C.1.1 C.1.2.1 d  (k ls H locs h1 h2 h3 h4)
theorem l_iand (C : ClL dA D aX aM p s m meth c b L xs) {x y : Int32} (d : decode code pc = .ok (.iand, 1))  (k : GL dA D aX aM p l e s m b below meth c (pc + 1) lv (.int (x &&& y) :: st) μx μm) : GL dA D aX aM p l e s m b below meth c pc lv (.int y :: .int x :: st) μx μm := fun ls H locs h1 h2 h3 h4 => lv_iand C.1.1 C.1.2.1 d  (k ls H locs h1 h2 h3 h4)
theorem l_lcmp (C : ClL dA D aX aM p s m meth c b L xs) {x y : Int64} (d : decode code pc = .ok (.lcmp, 1))  (k : GL dA D aX aM p l e s m b below meth c (pc + 1) lv (.int (lg_cmp x y) :: st) μx μm) : GL dA D aX aM p l e s m b below meth c pc lv (.long y :: .long x :: st) μx μm := fun ls H locs h1 h2 h3 h4 => W.lcmp C.1.1 C.1.2.1 d  (k ls H locs h1 h2 h3 h4)
theorem l_iload_n (C : ClL dA D aX aM p s m meth c b L xs) {k : Fin 4} {i : Nat} {x : Int32} (d : decode code pc = .ok (.iload_n k, 1)) (hi : (k : Nat) = i) (hl : lv i = some (.int x)) (k : GL dA D aX aM p l e s m b below meth c (pc + 1) lv (.int x :: st) μx μm) : GL dA D aX aM p l e s m b below meth c pc lv st μx μm := fun ls H locs h1 h2 h3 h4 => lv_iload_n C.1.1 C.1.2.1 d hi (h1.2.2 _ _ hl) (k ls H locs h1 h2 h3 h4)
theorem l_aload_n (C : ClL dA D aX aM p s m meth c b L xs) {k : Fin 4} {i : Nat} {x : Nat} (d : decode code pc = .ok (.aload_n k, 1)) (hi : (k : Nat) = i) (hl : lv i = some (.ref x)) (k : GL dA D aX aM p l e s m b below meth c (pc + 1) lv (.ref x :: st) μx μm) : GL dA D aX aM p l e s m b below meth c pc lv st μx μm := fun ls H locs h1 h2 h3 h4 => lv_aload_n C.1.1 C.1.2.1 d hi (h1.2.2 _ _ hl) (k ls H locs h1 h2 h3 h4)
theorem l_iinc (C : ClL dA D aX aM p s m meth c b L xs) {i : Nat} {n : Int} {x y : Int32} (d : decode code pc = .ok (.iinc i n, 3)) (hl : lv i = some (.int x)) (hv : x + Int32.ofInt n = y) (hn : i < 4) (k : GL dA D aX aM p l e s m b below meth c (pc + 3) (upL lv i (.int y)) st μx μm) : GL dA D aX aM p l e s m b below meth c pc lv st μx μm := fun ls H locs h1 h2 h3 h4 => by
  obtain ⟨q, hq⟩ := List.getElem?_of_mem (toL_mem.mpr ⟨lvf_lt h1 hl, hl⟩)
  exact lv_iinc C.1.1 C.1.2.1 d (lvf_has h1) hq hv hn rfl (fun ls' h' => k ls' H locs (lvf_of1 h1 rfl h') h2 h3 h4)
theorem l_goto (C : ClL dA D aX aM p s m meth c b L xs) {off : Int} {tgt : Nat} (d : decode code pc = .ok (.goto off, 3)) (ht : (pc : Int) + off = (tgt : Int)) (k : GL dA D aX aM p l e s m b below meth c tgt lv st μx μm) : GL dA D aX aM p l e s m b below meth c pc lv st μx μm := fun ls H locs h1 h2 h3 h4 => lv_goto C.1.1 C.1.2.1 d ht (k ls H locs h1 h2 h3 h4)
theorem l_eq (C : ClL dA D aX aM p s m meth c b L xs) {x : Int32} {off : Int} {tgt : Nat} (d : decode code pc = .ok (.if_icmp .eq off, 3)) (ht : (pc : Int) + off = (tgt : Int)) (k : GL dA D aX aM p l e s m b below meth c tgt lv st μx μm) : GL dA D aX aM p l e s m b below meth c pc lv (.int x :: .int x :: st) μx μm := fun ls H locs h1 h2 h3 h4 => lv_icmp_eq C.1.1 C.1.2.1 d ht (fun _ => k ls H locs h1 h2 h3 h4) (fun q => absurd rfl q)
theorem l_if0 (C : ClL dA D aX aM p s m meth c b L xs) {x : Int32} {off : Int} {tgt : Nat} (d : decode code pc = .ok (.ifCond .eq off, 3)) (ht : (pc : Int) + off = (tgt : Int)) (kt : x = 0 → GL dA D aX aM p l e s m b below meth c tgt lv st μx μm) (kf : ¬ x = 0 → GL dA D aX aM p l e s m b below meth c (pc + 3) lv st μx μm) : GL dA D aX aM p l e s m b below meth c pc lv (.int x :: st) μx μm := fun ls H locs h1 h2 h3 h4 => lv_if_eq C.1.1 C.1.2.1 d ht (fun q => kt q ls H locs h1 h2 h3 h4) (fun q => kf q ls H locs h1 h2 h3 h4)
theorem l_gt (C : ClL dA D aX aM p s m meth c b L xs) {x y : Int32} {off : Int} {tgt : Nat} (d : decode code pc = .ok (.if_icmp .gt off, 3)) (ht : (pc : Int) + off = (tgt : Int)) (kt : y < x → GL dA D aX aM p l e s m b below meth c tgt lv st μx μm) (kf : ¬ y < x → GL dA D aX aM p l e s m b below meth c (pc + 3) lv st μx μm) : GL dA D aX aM p l e s m b below meth c pc lv (.int y :: .int x :: st) μx μm := fun ls H locs h1 h2 h3 h4 => lv_icmp_gt C.1.1 C.1.2.1 d ht (fun q => kt q ls H locs h1 h2 h3 h4) (fun q => kf q ls H locs h1 h2 h3 h4)
theorem l_tabIn (C : ClL dA D aX aM p s m meth c b L xs) {dflt lo hi : Int} {offs : Array Int} {len : Nat} {x : Int32} {off : Int} {tgt : Nat} (d : decode code pc = .ok (.tableswitch dflt lo hi offs, len)) (g1 : ¬ x.toInt < lo) (g2 : ¬ hi < x.toInt) (ho : offs[(x.toInt - lo).toNat]? = some off) (ht : (pc : Int) + off = (tgt : Int)) (k : GL dA D aX aM p l e s m b below meth c tgt lv st μx μm) : GL dA D aX aM p l e s m b below meth c pc lv (.int x :: st) μx μm := fun ls H locs h1 h2 h3 h4 => lv_tableIn C.1.1 C.1.2.1 d g1 g2 ho ht (k ls H locs h1 h2 h3 h4)
theorem l_tabOut (C : ClL dA D aX aM p s m meth c b L xs) {dflt lo hi : Int} {offs : Array Int} {len : Nat} {x : Int32} {tgt : Nat} (d : decode code pc = .ok (.tableswitch dflt lo hi offs, len)) (g : x.toInt < lo ∨ hi < x.toInt) (ht : (pc : Int) + dflt = (tgt : Int)) (k : GL dA D aX aM p l e s m b below meth c tgt lv st μx μm) : GL dA D aX aM p l e s m b below meth c pc lv (.int x :: st) μx μm := fun ls H locs h1 h2 h3 h4 => lv_tableOut C.1.1 C.1.2.1 d g ht (k ls H locs h1 h2 h3 h4)
theorem l_sld (C : ClL dA D aX aM p s m meth c b L xs) {i : Int32} (j : Nat) (hi : i = nI j) (hj : j < L) (hL : L ≤ 3072) (d : decode code pc = .ok (.iaload, 1)) (k : GL dA D aX aM p l e s m b below meth c (pc + 1) lv (.int (xs j) :: st) μx μm) : GL dA D aX aM p l e s m b below meth c pc lv (.int i :: .ref b :: st) μx μm := fun ls H locs h1 h2 h3 h4 => by
  refine va_sld C.1.1 C.1.2.1 C.1.2.2.2.2.2.2.1 C.1.2.2.2.2.2.2.2.1 (Nat.not_le.mpr C.1.2.2.2.2.2.2.2.1) h4 (by rw [hi]; exact vp_in_nI hj (by omega)) d ?_
  rw [hi, nI_clamp (by omega)]
  exact k ls H locs h1 h2 h3 h4
theorem l_slen (C : ClL dA D aX aM p s m meth c b L xs) (d : decode code pc = .ok (.arraylength, 1)) (k : GL dA D aX aM p l e s m b below meth c (pc + 1) lv (.int (nI L) :: st) μx μm) : GL dA D aX aM p l e s m b below meth c pc lv (.ref b :: st) μx μm := fun ls H locs h1 h2 h3 h4 => va_slen C.1.1 C.1.2.1 C.1.2.2.2.2.2.2.1 C.1.2.2.2.2.2.2.2.1 (Nat.not_le.mpr C.1.2.2.2.2.2.2.2.1) h4 d (k ls H locs h1 h2 h3 h4)
theorem l_cxI (C : ClL dA D aX aM p s m meth c b L xs) {y : MethodName} {bytes : ByteArray} {ret' : Option FieldType} {idx maxL n d0 : Nat} {As rest : List Value} {r : Int32} {μ1 : Mm} (M : MthV R_W y bytes maxL ret' n) (hl : Cond.methodLink R_law idx y ∈ TB) (dd : decode code pc = .ok (.invokevirtual idx, 3)) (hM : Ct CLS l SHX aX dA D y bytes maxL ret' d0 (.ref (aX 0) :: As) μx (some (.int r)) μ1) (hst : st = As.reverse ++ .ref (aX 0) :: rest) (hn : As.length = n) (hR : d0 + 1 ≤ room_1.frames ∧ 8 + (maxL + 11) + 64 * d0 ≤ room_1.locals) (hW : (rest.map fun v => v.category).sum ≤ 8) (kk : GL dA D aX aM p l e s m b below meth c (pc + 3) lv (.int r :: rest) μ1 μm) : GL dA D aX aM p l e s m b below meth c pc lv st μx μm := fun ls H locs h1 h2 h3 h4 => by
  have hr := va_runV (p := p) (l := l) (e := e) (R := room_1) (below := below) (meth := meth) (locs := locs) (cells := 115) (slots := 33799) (As := As) (rest := rest) (nL := 4) (g := F0 m pc ls st) ⟨C.1.1, C.1.2.1, C.1.2.2.2.1, C.1.2.2.2.2.1, C.2.2.2.2.2.2.2⟩ hM (cwV n C.2.2.2.2.2.2.2 (gi_V M hl) rfl rfl rfl M.2.2.2.2 hR) ⟨wd_blind, va_recv C.2.1.1 h2 k_W.1 (wld_at (SH := SHX) (i := 0) rfl), fun U hU hW => ⟨rfl, by rw [hU]; exact h2, va_K.moved hW.alike C.2.1.1, C.2.1.2.1.warm hW⟩⟩ rfl hn h1.1 hst (lv_room hW) dd ⟨by decide, by decide⟩
  intro T hT X
  obtain ⟨v, st₀, t, T', Lc, e0, X', hL, e1, e2, ⟨hv, hw, hz, hk⟩, stp⟩ := hr T hT X
  cases hv
  rw [e0] at hz hk
  have hin : ∀ q, AA SHX aX q → s.heap.size ≤ q := by
    rintro q ⟨i, hi, rfl⟩
    exact C.2.2.2.2.1 i hi
  have hoth : va_P D CLS (wld aM dA μm 0 SHM) T'.heap := by
    have h9 := h3
    intro k q hq
    refine (h9 k q hq).kept ?_
    have hlt := (h9 k q hq).lt
    rw [e1]
    refine hk q.1 hlt ?_
    rintro ⟨i, hi, he⟩
    have hk2 : k < SHM.length := by
      have := (List.getElem?_eq_some_iff.mp hq).1
      rwa [wld_len] at this
    rw [wld_at (List.getElem?_eq_getElem hk2)] at hq
    cases hq
    exact C.2.2.2.2.2.2.1 i k hi hk2 he.symm
  obtain ⟨t2, a1, b1⟩ := kk ls T'.heap (locs ++ Lc) h1 (by rw [e1]; exact hw.1) hoth
    ⟨Nat.le_trans h4.1 (by rw [e1]; exact hz), fun q g1 g2 => by rw [e1, hk q (Nat.lt_of_lt_of_le g1 h4.1) (fun z => g2 (hin q z))]; exact h4.2.1 q g1 g2, fun q hq => by
      rcases List.mem_append.mp hq with h | h
      · exact h4.2.2 q h
      · exact hin _ (hL q h)⟩ T' rfl X'
  exact ⟨t2, stp t2 a1, b1⟩
theorem l_cxL (C : ClL dA D aX aM p s m meth c b L xs) {y : MethodName} {bytes : ByteArray} {ret' : Option FieldType} {idx maxL n d0 : Nat} {As rest : List Value} {r : Int64} {μ1 : Mm} (M : MthV R_W y bytes maxL ret' n) (hl : Cond.methodLink R_law idx y ∈ TB) (dd : decode code pc = .ok (.invokevirtual idx, 3)) (hM : Ct CLS l SHX aX dA D y bytes maxL ret' d0 (.ref (aX 0) :: As) μx (some (.long r)) μ1) (hst : st = As.reverse ++ .ref (aX 0) :: rest) (hn : As.length = n) (hR : d0 + 1 ≤ room_1.frames ∧ 8 + (maxL + 11) + 64 * d0 ≤ room_1.locals) (hW : (rest.map fun v => v.category).sum ≤ 8) (kk : GL dA D aX aM p l e s m b below meth c (pc + 3) lv (.long r :: rest) μ1 μm) : GL dA D aX aM p l e s m b below meth c pc lv st μx μm := fun ls H locs h1 h2 h3 h4 => by
  have hr := va_runV (p := p) (l := l) (e := e) (R := room_1) (below := below) (meth := meth) (locs := locs) (cells := 115) (slots := 33799) (As := As) (rest := rest) (nL := 4) (g := F0 m pc ls st) ⟨C.1.1, C.1.2.1, C.1.2.2.2.1, C.1.2.2.2.2.1, C.2.2.2.2.2.2.2⟩ hM (cwV n C.2.2.2.2.2.2.2 (gi_V M hl) rfl rfl rfl M.2.2.2.2 hR) ⟨wd_blind, va_recv C.2.1.1 h2 k_W.1 (wld_at (SH := SHX) (i := 0) rfl), fun U hU hW => ⟨rfl, by rw [hU]; exact h2, va_K.moved hW.alike C.2.1.1, C.2.1.2.1.warm hW⟩⟩ rfl hn h1.1 hst (lv_room hW) dd ⟨by decide, by decide⟩
  intro T hT X
  obtain ⟨v, st₀, t, T', Lc, e0, X', hL, e1, e2, ⟨hv, hw, hz, hk⟩, stp⟩ := hr T hT X
  cases hv
  rw [e0] at hz hk
  have hin : ∀ q, AA SHX aX q → s.heap.size ≤ q := by
    rintro q ⟨i, hi, rfl⟩
    exact C.2.2.2.2.1 i hi
  have hoth : va_P D CLS (wld aM dA μm 0 SHM) T'.heap := by
    have h9 := h3
    intro k q hq
    refine (h9 k q hq).kept ?_
    have hlt := (h9 k q hq).lt
    rw [e1]
    refine hk q.1 hlt ?_
    rintro ⟨i, hi, he⟩
    have hk2 : k < SHM.length := by
      have := (List.getElem?_eq_some_iff.mp hq).1
      rwa [wld_len] at this
    rw [wld_at (List.getElem?_eq_getElem hk2)] at hq
    cases hq
    exact C.2.2.2.2.2.2.1 i k hi hk2 he.symm
  obtain ⟨t2, a1, b1⟩ := kk ls T'.heap (locs ++ Lc) h1 (by rw [e1]; exact hw.1) hoth
    ⟨Nat.le_trans h4.1 (by rw [e1]; exact hz), fun q g1 g2 => by rw [e1, hk q (Nat.lt_of_lt_of_le g1 h4.1) (fun z => g2 (hin q z))]; exact h4.2.1 q g1 g2, fun q hq => by
      rcases List.mem_append.mp hq with h | h
      · exact h4.2.2 q h
      · exact hin _ (hL q h)⟩ T' rfl X'
  exact ⟨t2, stp t2 a1, b1⟩
theorem l_cmI (C : ClL dA D aX aM p s m meth c b L xs) {y : MethodName} {bytes : ByteArray} {ret' : Option FieldType} {idx maxL n d0 : Nat} {As rest : List Value} {r : Int32} {μ1 : Mm} (M : MthV R_M y bytes maxL ret' n) (hl : Cond.methodLink R_law idx y ∈ TB) (dd : decode code pc = .ok (.invokevirtual idx, 3)) (hM : Ct CLS l SHM aM dA D y bytes maxL ret' d0 (.ref (aM 0) :: As) μm (some (.int r)) μ1) (hst : st = As.reverse ++ .ref (aM 0) :: rest) (hn : As.length = n) (hR : d0 + 1 ≤ room_1.frames ∧ 8 + (maxL + 11) + 64 * d0 ≤ room_1.locals) (hW : (rest.map fun v => v.category).sum ≤ 8) (kk : GL dA D aX aM p l e s m b below meth c (pc + 3) lv (.int r :: rest) μx μ1) : GL dA D aX aM p l e s m b below meth c pc lv st μx μm := fun ls H locs h1 h2 h3 h4 => by
  have hr := va_runV (p := p) (l := l) (e := e) (R := room_1) (below := below) (meth := meth) (locs := locs) (cells := 115) (slots := 33799) (As := As) (rest := rest) (nL := 4) (g := F0 m pc ls st) ⟨C.1.1, C.1.2.1, C.1.2.2.2.1, C.1.2.2.2.2.1, C.2.2.2.2.2.2.2⟩ hM (cwV n C.2.2.2.2.2.2.2 (gi_V M hl) rfl rfl rfl M.2.2.2.2 hR) ⟨wd_blind, va_recv C.2.1.1 h3 k_M.1 (wld_at (SH := SHM) (i := 0) rfl), fun U hU hW => ⟨rfl, by rw [hU]; exact h3, va_K.moved hW.alike C.2.1.1, C.2.1.2.1.warm hW⟩⟩ rfl hn h1.1 hst (lv_room hW) dd ⟨by decide, by decide⟩
  intro T hT X
  obtain ⟨v, st₀, t, T', Lc, e0, X', hL, e1, e2, ⟨hv, hw, hz, hk⟩, stp⟩ := hr T hT X
  cases hv
  rw [e0] at hz hk
  have hin : ∀ q, AA SHM aM q → s.heap.size ≤ q := by
    rintro q ⟨i, hi, rfl⟩
    exact C.2.2.2.2.2.1 i hi
  have hoth : va_P D CLS (wld aX dA μx 0 SHX) T'.heap := by
    have h9 := h2
    intro k q hq
    refine (h9 k q hq).kept ?_
    have hlt := (h9 k q hq).lt
    rw [e1]
    refine hk q.1 hlt ?_
    rintro ⟨i, hi, he⟩
    have hk2 : k < SHX.length := by
      have := (List.getElem?_eq_some_iff.mp hq).1
      rwa [wld_len] at this
    rw [wld_at (List.getElem?_eq_getElem hk2)] at hq
    cases hq
    exact C.2.2.2.2.2.2.1 k i hk2 hi he
  obtain ⟨t2, a1, b1⟩ := kk ls T'.heap (locs ++ Lc) h1 hoth (by rw [e1]; exact hw.1)
    ⟨Nat.le_trans h4.1 (by rw [e1]; exact hz), fun q g1 g2 => by rw [e1, hk q (Nat.lt_of_lt_of_le g1 h4.1) (fun z => g2 (hin q z))]; exact h4.2.1 q g1 g2, fun q hq => by
      rcases List.mem_append.mp hq with h | h
      · exact h4.2.2 q h
      · exact hin _ (hL q h)⟩ T' rfl X'
  exact ⟨t2, stp t2 a1, b1⟩
theorem l_cmL (C : ClL dA D aX aM p s m meth c b L xs) {y : MethodName} {bytes : ByteArray} {ret' : Option FieldType} {idx maxL n d0 : Nat} {As rest : List Value} {r : Int64} {μ1 : Mm} (M : MthV R_M y bytes maxL ret' n) (hl : Cond.methodLink R_law idx y ∈ TB) (dd : decode code pc = .ok (.invokevirtual idx, 3)) (hM : Ct CLS l SHM aM dA D y bytes maxL ret' d0 (.ref (aM 0) :: As) μm (some (.long r)) μ1) (hst : st = As.reverse ++ .ref (aM 0) :: rest) (hn : As.length = n) (hR : d0 + 1 ≤ room_1.frames ∧ 8 + (maxL + 11) + 64 * d0 ≤ room_1.locals) (hW : (rest.map fun v => v.category).sum ≤ 8) (kk : GL dA D aX aM p l e s m b below meth c (pc + 3) lv (.long r :: rest) μx μ1) : GL dA D aX aM p l e s m b below meth c pc lv st μx μm := fun ls H locs h1 h2 h3 h4 => by
  have hr := va_runV (p := p) (l := l) (e := e) (R := room_1) (below := below) (meth := meth) (locs := locs) (cells := 115) (slots := 33799) (As := As) (rest := rest) (nL := 4) (g := F0 m pc ls st) ⟨C.1.1, C.1.2.1, C.1.2.2.2.1, C.1.2.2.2.2.1, C.2.2.2.2.2.2.2⟩ hM (cwV n C.2.2.2.2.2.2.2 (gi_V M hl) rfl rfl rfl M.2.2.2.2 hR) ⟨wd_blind, va_recv C.2.1.1 h3 k_M.1 (wld_at (SH := SHM) (i := 0) rfl), fun U hU hW => ⟨rfl, by rw [hU]; exact h3, va_K.moved hW.alike C.2.1.1, C.2.1.2.1.warm hW⟩⟩ rfl hn h1.1 hst (lv_room hW) dd ⟨by decide, by decide⟩
  intro T hT X
  obtain ⟨v, st₀, t, T', Lc, e0, X', hL, e1, e2, ⟨hv, hw, hz, hk⟩, stp⟩ := hr T hT X
  cases hv
  rw [e0] at hz hk
  have hin : ∀ q, AA SHM aM q → s.heap.size ≤ q := by
    rintro q ⟨i, hi, rfl⟩
    exact C.2.2.2.2.2.1 i hi
  have hoth : va_P D CLS (wld aX dA μx 0 SHX) T'.heap := by
    have h9 := h2
    intro k q hq
    refine (h9 k q hq).kept ?_
    have hlt := (h9 k q hq).lt
    rw [e1]
    refine hk q.1 hlt ?_
    rintro ⟨i, hi, he⟩
    have hk2 : k < SHX.length := by
      have := (List.getElem?_eq_some_iff.mp hq).1
      rwa [wld_len] at this
    rw [wld_at (List.getElem?_eq_getElem hk2)] at hq
    cases hq
    exact C.2.2.2.2.2.2.1 k i hk2 hi he
  obtain ⟨t2, a1, b1⟩ := kk ls T'.heap (locs ++ Lc) h1 hoth (by rw [e1]; exact hw.1)
    ⟨Nat.le_trans h4.1 (by rw [e1]; exact hz), fun q g1 g2 => by rw [e1, hk q (Nat.lt_of_lt_of_le g1 h4.1) (fun z => g2 (hin q z))]; exact h4.2.1 q g1 g2, fun q hq => by
      rcases List.mem_append.mp hq with h | h
      · exact h4.2.2 q h
      · exact hin _ (hL q h)⟩ T' rfl X'
  exact ⟨t2, stp t2 a1, b1⟩
theorem lg_self (x : Int64) : lg_cmp x x = 0 := by simp [lg_cmp]
theorem l_end {dA : Nat → ClassId} (C : ClL dA D aX aM p s m meth c b L xs) (d0 : decode code pc = .ok (.iconst 1, 1)) (d1 : decode code (pc + 1) = .ok (.ireturn, 1)) : GL dA D aX aM p l e s m b below meth c pc lv [] μx μm := fun ls H locs h1 h2 h3 h4 => lv_iconst (v := 1) C.1.1 C.1.2.1 d0 (by decide) (va_forget h4.2.2 (W.widen (k := 600000) (n := 7302250) (by decide) (by decide) (lw_ret C.1.1 C.1.2.1 C.1.2.2.1 C.1.2.2.2.2.2.2.2.2.1 d1)))
end GLS
