/-! ROWS OF THE HEAP, OF CALLS AND OF ENDS for Go -/
def ClsOk (CL : List vw_C) (ci : Nat) (Cn : String) (T : u_T) (N : Nat) (ty : Nat → FieldType) : Prop :=
  CL[ci]? = some (Cn, T, N) ∧ (∀ w ∈ u_ws Cn T N, w ∈ TB) ∧ (∀ k, k < N → parseFieldDescriptor (T k).2.2.1 = some (ty k)) ∧ (∀ a, a < N → ∀ b, b < N → a ≠ b → (T a).2.1 ≠ (T b).2.1)
def ixb (i : Int32) (n : Nat) : Bool := decide (¬ (i < 0 ∨ n ≤ i.toNatClampNeg))
theorem ixb_in {i : Int32} {n : Nat} (h : ixb i n = true) : vp_in i n := of_decide_eq_true (p := ¬ (i < 0 ∨ n ≤ i.toNatClampNeg)) h
def zb (v : Int32) : Bool := v == 0 || v == 1
theorem zb_or {v : Int32} (h : zb v = true) : v = 0 ∨ v = 1 := by simpa [zb] using h
theorem zb_nar {v : Int32} (h : zb v = true) : narrow .boolean (.int v) = .int v := by
  rcases zb_or h with rfl | rfl <;> rfl
theorem zb_fit {v : Int32} (h : zb v = true) : fits .boolean (.int v) = true := h
def cpb (μ : Mm) (a n0 : Nat) (sp dp n : Int32) : Bool := decide (¬ sp < 0 ∧ ¬ dp < 0 ∧ ¬ n < 0 ∧ sp.toNatClampNeg + n.toNatClampNeg ≤ n0 ∧ dp.toNatClampNeg + n.toNatClampNeg ≤ n0 ∧ ∀ i, i < n.toNatClampNeg → fits .byte (.int (μ.1 a (sp.toNatClampNeg + i))) = true)
def bn {α β : Type} (x : Option (α × Mm)) (k : α → Mm → Option β) : Option β := match x with
  | some q => k q.1 q.2
  | none => none
def bv {β : Type} (x : Option Mm) (k : Mm → Option β) : Option β := match x with
  | some q => k q
  | none => none
theorem bn_some {α β : Type} {x : Option (α × Mm)} {k : α → Mm → Option β} {o : β} (h : bn x k = some o) : ∃ r μ, x = some (r, μ) ∧ k r μ = some o := by
  cases x with
  | none => cases h
  | some q => exact ⟨q.1, q.2, rfl, h⟩
theorem bv_some {β : Type} {x : Option Mm} {k : Mm → Option β} {o : β} (h : bv x k = some o) : ∃ μ, x = some μ ∧ k μ = some o := by
  cases x with
  | none => cases h
  | some q => exact ⟨q, rfl, h⟩
def MthV (Cn : String) (y : MethodName) (bytes : ByteArray) (maxL : Nat) (ret : Option FieldType) (n : Nat) : Prop :=
  Cond.instanceMethod y ∈ TB ∧ Cond.selects Cn y y ∈ TB ∧ Cond.initialized Cn ∈ TB ∧ Cond.code y bytes maxL ret ∈ TB ∧ (y.cls = Cn ∧ y.cls ≠ "java/lang/invoke/MethodHandle" ∧ y.cls ≠ "java/lang/invoke/VarHandle" ∧ (parseMethodDescriptor y.desc).map (fun d => d.parameters.length) = some n)
def MthS (y : MethodName) (bytes : ByteArray) (maxL : Nat) (ret : Option FieldType) (n : Nat) : Prop :=
  Cond.static y ∈ TB ∧ Cond.initialized y.cls ∈ TB ∧ Cond.code y bytes maxL ret ∈ TB ∧ (y.cls ≠ "java/lang/invoke/MethodHandle" ∧ y.cls ≠ "java/lang/invoke/VarHandle" ∧ (parseMethodDescriptor y.desc).map (fun d => d.parameters.length) = some n)
theorem gi_V {own Cn : String} {idx maxL : Nat} {y : MethodName} {bytes : ByteArray} {ret : Option FieldType} {n : Nat} (M : MthV Cn y bytes maxL ret n) (hl : Cond.methodLink own idx y ∈ TB) : GoodIn TB (wsV own idx Cn y (.code y bytes maxL ret :: TB)) := by
  have hm : ∀ w ∈ wsV own idx Cn y (.code y bytes maxL ret :: TB), w ∈ TB := by
    intro w hw
    rcases List.mem_append.mp hw with h | h
    · simp only [List.mem_cons, List.not_mem_nil, or_false] at h
      rcases h with rfl | rfl | rfl | rfl
      · exact hl
      · exact M.1
      · exact M.2.1
      · exact M.2.2.1
    · rcases List.mem_cons.mp h with rfl | h
      · exact M.2.2.2.1
      · exact h
  exact fun w hw => ⟨hm w hw, TB_good w (hm w hw)⟩
theorem gi_S {own : String} {idx maxL : Nat} {y : MethodName} {bytes : ByteArray} {ret : Option FieldType} {n : Nat} (M : MthS y bytes maxL ret n) (hl : Cond.methodLink own idx y ∈ TB) : GoodIn TB (va_wsS own idx y (.code y bytes maxL ret :: TB)) := by
  have hm : ∀ w ∈ va_wsS own idx y (.code y bytes maxL ret :: TB), w ∈ TB := by
    intro w hw
    rcases List.mem_append.mp hw with h | h
    · simp only [List.mem_cons, List.not_mem_nil, or_false] at h
      rcases h with rfl | rfl | rfl
      · exact hl
      · exact M.1
      · exact M.2.1
    · rcases List.mem_cons.mp h with rfl | h
      · exact M.2.2.1
      · exact h
  exact fun w hw => ⟨hm w hw, TB_good w (hm w hw)⟩
theorem gi_C {y : MethodName} {bytes : ByteArray} {maxL : Nat} {ret : Option FieldType} (h : Cond.code y bytes maxL ret ∈ TB) : GoodIn TB (.code y bytes maxL ret :: TB) := by
  have hm : ∀ w ∈ (Cond.code y bytes maxL ret :: TB), w ∈ TB := by
    intro w hw
    rcases List.mem_cons.mp hw with rfl | hw
    · exact h
    · exact hw
  exact fun w hw => ⟨hm w hw, TB_good w (hm w hw)⟩
section GH
variable {CL : List vw_C} {SH : List Shp} {ad : Nat → Nat} {dA : Nat → ClassId} {D : va_G} {p : Program} {l : Launch} {e : Env} {R : Room} {s : State} {m : MethodId} {args : Array Value} {below : List Frame} {meth : Method} {c : Code} {cc : ByteArray} {nL : Nat} {own : String} {ret : Option FieldType} {rv : Option Value} {μ μ' : Mm} {pc : Nat} {lv : Nat → Option Value} {st : List Value}
theorem g_get (C : Cx CL SH ad dA D p s m args meth c cc nL own ret) {Cn : String} {T : u_T} {N ci k idx a code : Nat} {ty : Nat → FieldType} {ks : List Nat} (K : ClsOk CL ci Cn T N ty) (hk : k < N) (hl : Cond.fieldLink own idx (T k).1 (T k).2.1 (T k).2.2.1 ∈ TB) (hs : SH[a]? = some (.inr (ci, ks))) (hc : ks[k]? = some code) (d : decode cc pc = .ok (.getfield idx, 3)) (kk : Go CL SH ad dA D p l e R s m args below meth c nL rv μ' (pc + 3) lv (fv ad μ a code k :: st) μ) : Go CL SH ad dA D p l e R s m args below meth c nL rv μ' pc lv (.ref (ad a) :: st) μ := fun ls H locs h1 h2 h3 =>
  va_get (D := D) (ci := ci) (v := fv ad μ a code k) C.1 C.2.1 C.2.2.2.2.1 K.2.1 C.2.2.2.1 C.2.2.2.2.2.2.2.1 h2 a (fs := fvs ad μ a 0 ks) (wld_at hs) K.1 k hk (C.2.2.2.2.1 _ hl) (fun _ h => h) (fvs_at hc) d (kk ls H locs h1 h2 h3)
theorem g_getI (C : Cx CL SH ad dA D p s m args meth c cc nL own ret) {Cn : String} {T : u_T} {N ci : Nat} {k idx a : Nat} {ty : Nat → FieldType} {ks : List Nat} (K : ClsOk CL ci Cn T N ty) (hk : k < N) (hl : Cond.fieldLink own idx (T k).1 (T k).2.1 (T k).2.2.1 ∈ TB) (hs : SH[a]? = some (.inr (ci, ks))) (hc : ks[k]? = some 0) (d : decode cc pc = .ok (.getfield idx, 3)) (kk : Go CL SH ad dA D p l e R s m args below meth c nL rv μ' (pc + 3) lv (.int (μ.1 a k) :: st) μ) : Go CL SH ad dA D p l e R s m args below meth c nL rv μ' pc lv (.ref (ad a) :: st) μ := g_get C K hk hl hs hc d kk
theorem g_getL (C : Cx CL SH ad dA D p s m args meth c cc nL own ret) {Cn : String} {T : u_T} {N ci : Nat} {k idx a : Nat} {ty : Nat → FieldType} {ks : List Nat} (K : ClsOk CL ci Cn T N ty) (hk : k < N) (hl : Cond.fieldLink own idx (T k).1 (T k).2.1 (T k).2.2.1 ∈ TB) (hs : SH[a]? = some (.inr (ci, ks))) (hc : ks[k]? = some 1) (d : decode cc pc = .ok (.getfield idx, 3)) (kk : Go CL SH ad dA D p l e R s m args below meth c nL rv μ' (pc + 3) lv (.long (μ.2 a k) :: st) μ) : Go CL SH ad dA D p l e R s m args below meth c nL rv μ' pc lv (.ref (ad a) :: st) μ := g_get C K hk hl hs hc d kk
theorem g_getW (C : Cx CL SH ad dA D p s m args meth c cc nL own ret) {Cn : String} {T : u_T} {N ci : Nat} {k idx a : Nat} {ty : Nat → FieldType} {ks : List Nat} (K : ClsOk CL ci Cn T N ty) (hk : k < N) (hl : Cond.fieldLink own idx (T k).1 (T k).2.1 (T k).2.2.1 ∈ TB) (hs : SH[a]? = some (.inr (ci, ks))) (hc : ks[k]? = some 2) (d : decode cc pc = .ok (.getfield idx, 3)) (kk : Go CL SH ad dA D p l e R s m args below meth c nL rv μ' (pc + 3) lv (.ref (ad (WK (μ.1 a k).toNatClampNeg)) :: st) μ) : Go CL SH ad dA D p l e R s m args below meth c nL rv μ' pc lv (.ref (ad a) :: st) μ := g_get C K hk hl hs hc d kk
theorem g_getR (C : Cx CL SH ad dA D p s m args meth c cc nL own ret) {Cn : String} {T : u_T} {N ci : Nat} {k idx a b : Nat} {ty : Nat → FieldType} {ks : List Nat} (K : ClsOk CL ci Cn T N ty) (hk : k < N) (hl : Cond.fieldLink own idx (T k).1 (T k).2.1 (T k).2.2.1 ∈ TB) (hs : SH[a]? = some (.inr (ci, ks))) (hc : ks[k]? = some (b + 3)) (d : decode cc pc = .ok (.getfield idx, 3)) (kk : Go CL SH ad dA D p l e R s m args below meth c nL rv μ' (pc + 3) lv (.ref (ad b) :: st) μ) : Go CL SH ad dA D p l e R s m args below meth c nL rv μ' pc lv (.ref (ad a) :: st) μ := g_get C K hk hl hs hc d kk
theorem g_put (C : Cx CL SH ad dA D p s m args meth c cc nL own ret) {Cn : String} {T : u_T} {N ci k idx a code : Nat} {ty : Nat → FieldType} {ks : List Nat} {v : Value} {μ2 : Mm} (K : ClsOk CL ci Cn T N ty) (hk : k < N) (hl : Cond.fieldLink own idx (T k).1 (T k).2.1 (T k).2.2.1 ∈ TB) (hs : SH[a]? = some (.inr (ci, ks))) (hc : ks[k]? = some code) (hfin : (T k).2.2.2 = false) (hn : narrow (ty k) v = v) (hft : fits (ty k) v = true) (hv : fv ad μ2 a code k = v) (ho : offC μ μ2 a) (ho2 : ∀ j, j ≠ k → μ2.1 a j = μ.1 a j ∧ μ2.2 a j = μ.2 a j) (d : decode cc pc = .ok (.putfield idx, 3)) (kk : Go CL SH ad dA D p l e R s m args below meth c nL rv μ' (pc + 3) lv st μ2) : Go CL SH ad dA D p l e R s m args below meth c nL rv μ' pc lv (v :: .ref (ad a) :: st) μ := fun ls H locs h1 h2 h3 => by
  refine va_put (D := D) (ci := ci) (v := v) (ty := ty k) C.1 C.2.1 C.2.2.2.2.1 K.2.1 ty K.2.2.1 K.2.2.2 C.2.2.2.1 C.2.2.2.2.2.2.2.1 h2 (wld_D C.2.2.2.2.2.2.2.2.1 dA μ) h3 a (fs := fvs ad μ a 0 ks) (wld_at hs) K.1 k hk (C.2.2.2.2.1 _ hl) (fun _ h => h) hfin (K.2.2.1 k hk) hn hft (by rw [fvs_len]; exact (List.getElem?_eq_some_iff.mp hc).1) d (fun H1 locs1 q1 q2 q3 => kk ls H1 locs1 h1 ?_ q3)
  rw [← hv, fvs_set hc ho2] at q1
  have e : (wld ad dA μ 0 SH).set a (ad a, cel ad dA μ2 a (.inr (ci, ks))) = wld ad dA μ2 0 SH := wld_set hs ho
  rw [← e]
  exact q1
theorem g_putI (C : Cx CL SH ad dA D p s m args meth c cc nL own ret) {Cn : String} {T : u_T} {N ci : Nat} {k idx a : Nat} {ty : Nat → FieldType} {ks : List Nat} {x : Int32} (K : ClsOk CL ci Cn T N ty) (hk : k < N) (hl : Cond.fieldLink own idx (T k).1 (T k).2.1 (T k).2.2.1 ∈ TB) (hs : SH[a]? = some (.inr (ci, ks))) (hc : ks[k]? = some 0) (hfin : (T k).2.2.2 = false) (ht : ty k = .int) (d : decode cc pc = .ok (.putfield idx, 3)) (kk : Go CL SH ad dA D p l e R s m args below meth c nL rv μ' (pc + 3) lv st (sI μ a k x)) : Go CL SH ad dA D p l e R s m args below meth c nL rv μ' pc lv (.int x :: .ref (ad a) :: st) μ :=
  g_put C K hk hl hs hc hfin (by rw [ht]; rfl) (by rw [ht]; rfl) (by simp [fv, sI, upd]) (sI_off μ a k x) (fun j hj => ⟨by simp [sI, upd, hj], rfl⟩) d kk
theorem g_putZ (C : Cx CL SH ad dA D p s m args meth c cc nL own ret) {Cn : String} {T : u_T} {N ci : Nat} {k idx a : Nat} {ty : Nat → FieldType} {ks : List Nat} {x : Int32} (K : ClsOk CL ci Cn T N ty) (hk : k < N) (hl : Cond.fieldLink own idx (T k).1 (T k).2.1 (T k).2.2.1 ∈ TB) (hs : SH[a]? = some (.inr (ci, ks))) (hc : ks[k]? = some 0) (hfin : (T k).2.2.2 = false) (ht : ty k = .boolean) (d : decode cc pc = .ok (.putfield idx, 3)) {α : Type} {A : Option α} {o : α} (hf : (if zb x = true then A else none) = some o) (kk : A = some o → Go CL SH ad dA D p l e R s m args below meth c nL rv μ' (pc + 3) lv st (sI μ a k x)) : Go CL SH ad dA D p l e R s m args below meth c nL rv μ' pc lv (.int x :: .ref (ad a) :: st) μ := by
  by_cases h : zb x = true
  · rw [if_pos h] at hf
    exact g_put C K hk hl hs hc hfin (by rw [ht]; exact zb_nar h) (by rw [ht]; exact zb_fit h) (by simp [fv, sI, upd]) (sI_off μ a k x) (fun j hj => ⟨by simp [sI, upd, hj], rfl⟩) d (kk hf)
  · rw [if_neg h] at hf; cases hf
theorem g_putL (C : Cx CL SH ad dA D p s m args meth c cc nL own ret) {Cn : String} {T : u_T} {N ci : Nat} {k idx a : Nat} {ty : Nat → FieldType} {ks : List Nat} {x : Int64} (K : ClsOk CL ci Cn T N ty) (hk : k < N) (hl : Cond.fieldLink own idx (T k).1 (T k).2.1 (T k).2.2.1 ∈ TB) (hs : SH[a]? = some (.inr (ci, ks))) (hc : ks[k]? = some 1) (hfin : (T k).2.2.2 = false) (ht : ty k = .long) (d : decode cc pc = .ok (.putfield idx, 3)) (kk : Go CL SH ad dA D p l e R s m args below meth c nL rv μ' (pc + 3) lv st (sL μ a k x)) : Go CL SH ad dA D p l e R s m args below meth c nL rv μ' pc lv (.long x :: .ref (ad a) :: st) μ :=
  g_put C K hk hl hs hc hfin (by rw [ht]; rfl) (by rw [ht]; rfl) (by simp [fv, sL, vp_updL]) (sL_off μ a k x) (fun j hj => ⟨rfl, by simp [sL, vp_updL, hj]⟩) d kk
theorem g_putW (C : Cx CL SH ad dA D p s m args meth c cc nL own ret) {Cn Cm : String} {T : u_T} {N ci : Nat} {k idx a j : Nat} {ty : Nat → FieldType} {ks : List Nat} (K : ClsOk CL ci Cn T N ty) (hk : k < N) (hl : Cond.fieldLink own idx (T k).1 (T k).2.1 (T k).2.2.1 ∈ TB) (hs : SH[a]? = some (.inr (ci, ks))) (hc : ks[k]? = some 2) (hfin : (T k).2.2.2 = false) (ht : ty k = .object Cm) (hj : j < 8) (d : decode cc pc = .ok (.putfield idx, 3)) (kk : Go CL SH ad dA D p l e R s m args below meth c nL rv μ' (pc + 3) lv st (sI μ a k (nI j))) : Go CL SH ad dA D p l e R s m args below meth c nL rv μ' pc lv (.ref (ad (WK j)) :: .ref (ad a) :: st) μ :=
  g_put C K hk hl hs hc hfin (by rw [ht]; rfl) (by rw [ht]; rfl) (by simp [fv, sI, upd, nI_clamp (show j < 2 ^ 31 by omega)]) (sI_off μ a k _) (fun j hj => ⟨by simp [sI, upd, hj], rfl⟩) d kk
theorem g_iald (C : Cx CL SH ad dA D p s m args meth c cc nL own ret) {a n : Nat} {i : Int32} (hs : SH[a]? = some (.inl (0, n))) (d : decode cc pc = .ok (.iaload, 1)) {α : Type} {A : Option α} {o : α} (hf : (if ixb i n = true then A else none) = some o) (kk : A = some o → Go CL SH ad dA D p l e R s m args below meth c nL rv μ' (pc + 1) lv (.int (μ.1 a i.toNatClampNeg) :: st) μ) : Go CL SH ad dA D p l e R s m args below meth c nL rv μ' pc lv (.int i :: .ref (ad a) :: st) μ := fun ls H locs h1 h2 h3 => by
  by_cases h : ixb i n = true
  · rw [if_pos h] at hf
    exact va_iald C.1 C.2.1 C.2.2.2.2.2.2.2.1 h2 a 0 (cA := dA 0) (n := n) (f := μ.1 a) (wld_at hs) rfl (ixb_in h) d (kk hf ls H locs h1 h2 h3)
  · rw [if_neg h] at hf; cases hf
theorem g_bald (C : Cx CL SH ad dA D p s m args meth c cc nL own ret) {a n : Nat} {i : Int32} (hs : SH[a]? = some (.inl (1, n))) (d : decode cc pc = .ok (.baload, 1)) {α : Type} {A : Option α} {o : α} (hf : (if ixb i n = true then A else none) = some o) (kk : A = some o → Go CL SH ad dA D p l e R s m args below meth c nL rv μ' (pc + 1) lv (.int (μ.1 a i.toNatClampNeg) :: st) μ) : Go CL SH ad dA D p l e R s m args below meth c nL rv μ' pc lv (.int i :: .ref (ad a) :: st) μ := fun ls H locs h1 h2 h3 => by
  by_cases h : ixb i n = true
  · rw [if_pos h] at hf
    exact va_bald C.1 C.2.1 C.2.2.2.2.2.2.2.1 h2 a 1 (cA := dA 1) (n := n) (f := μ.1 a) (wld_at hs) rfl (ixb_in h) d (kk hf ls H locs h1 h2 h3)
  · rw [if_neg h] at hf; cases hf
theorem g_zald (C : Cx CL SH ad dA D p s m args meth c cc nL own ret) {a n : Nat} {i : Int32} (hs : SH[a]? = some (.inl (2, n))) (d : decode cc pc = .ok (.baload, 1)) {α : Type} {A : Option α} {o : α} (hf : (if ixb i n = true then A else none) = some o) (kk : A = some o → Go CL SH ad dA D p l e R s m args below meth c nL rv μ' (pc + 1) lv (.int (μ.1 a i.toNatClampNeg) :: st) μ) : Go CL SH ad dA D p l e R s m args below meth c nL rv μ' pc lv (.int i :: .ref (ad a) :: st) μ := fun ls H locs h1 h2 h3 => by
  by_cases h : ixb i n = true
  · rw [if_pos h] at hf
    exact va_zald C.1 C.2.1 C.2.2.2.2.2.2.2.1 h2 a 2 (cA := dA 2) (n := n) (f := μ.1 a) (wld_at hs) rfl (ixb_in h) d (kk hf ls H locs h1 h2 h3)
  · rw [if_neg h] at hf; cases hf
theorem g_lald (C : Cx CL SH ad dA D p s m args meth c cc nL own ret) {a n : Nat} {i : Int32} (hs : SH[a]? = some (.inl (3, n))) (d : decode cc pc = .ok (.laload, 1)) {α : Type} {A : Option α} {o : α} (hf : (if ixb i n = true then A else none) = some o) (kk : A = some o → Go CL SH ad dA D p l e R s m args below meth c nL rv μ' (pc + 1) lv (.long (μ.2 a i.toNatClampNeg) :: st) μ) : Go CL SH ad dA D p l e R s m args below meth c nL rv μ' pc lv (.int i :: .ref (ad a) :: st) μ := fun ls H locs h1 h2 h3 => by
  by_cases h : ixb i n = true
  · rw [if_pos h] at hf
    exact va_lald C.1 C.2.1 C.2.2.2.2.2.2.2.1 h2 a 3 (cA := dA 3) (n := n) (f := μ.2 a) (wld_at hs) rfl (ixb_in h) d (kk hf ls H locs h1 h2 h3)
  · rw [if_neg h] at hf; cases hf
theorem g_aald (C : Cx CL SH ad dA D p s m args meth c cc nL own ret) {a n : Nat} {i : Int32} (hs : SH[a]? = some (.inl (4, n))) (d : decode cc pc = .ok (.aaload, 1)) {α : Type} {A : Option α} {o : α} (hf : (if ixb i n = true then A else none) = some o) (kk : ixb i n = true → A = some o → Go CL SH ad dA D p l e R s m args below meth c nL rv μ' (pc + 1) lv (.ref (ad (WK i.toNatClampNeg)) :: st) μ) : Go CL SH ad dA D p l e R s m args below meth c nL rv μ' pc lv (.int i :: .ref (ad a) :: st) μ := fun ls H locs h1 h2 h3 => by
  by_cases h : ixb i n = true
  · rw [if_pos h] at hf
    exact va_aldq C.1 C.2.1 C.2.2.2.2.2.2.2.1 h2 a 4 (cA := dA 4) (n := n) (C := "WallWalkers$Walker") (f := fun j => some (ad (WK j))) (wld_at hs) rfl (ixb_in h) d (kk h hf ls H locs h1 h2 h3)
  · rw [if_neg h] at hf; cases hf
theorem wld_iA {t n a k : Nat} {x : Int32} (h3 : t ≠ 3) (h4 : t ≠ 4) (hs : SH[a]? = some (.inl (t, n))) : (wld ad dA μ 0 SH).set a (ad a, .inl (dA t, n, .inl (upd (μ.1 a) k x))) = wld ad dA (sI μ a k x) 0 SH := by
  rw [← wld_set hs (sI_off μ a k x)]
  simp [cel, arC, h3, h4, sI_at]
theorem wld_aA {t n a : Nat} {f : Nat → Int32} (h3 : t ≠ 3) (h4 : t ≠ 4) (hs : SH[a]? = some (.inl (t, n))) : (wld ad dA μ 0 SH).set a (ad a, .inl (dA t, n, .inl f)) = wld ad dA (sA μ a f) 0 SH := by
  rw [← wld_set hs (sA_off μ a f)]
  simp [cel, arC, h3, h4, sA_at]
theorem wld_lA {n a k : Nat} {x : Int64} (hs : SH[a]? = some (.inl (3, n))) : (wld ad dA μ 0 SH).set a (ad a, .inl (dA 3, n, .inr (.inl (vp_updL (μ.2 a) k x)))) = wld ad dA (sL μ a k x) 0 SH := by
  rw [← wld_set hs (sL_off μ a k x)]
  simp [cel, arC, sL_at]
theorem g_iast (C : Cx CL SH ad dA D p s m args meth c cc nL own ret) {a n : Nat} {i x : Int32} (hs : SH[a]? = some (.inl (0, n))) (d : decode cc pc = .ok (.iastore, 1)) {α : Type} {A : Option α} {o : α} (hf : (if ixb i n = true then A else none) = some o) (kk : A = some o → Go CL SH ad dA D p l e R s m args below meth c nL rv μ' (pc + 1) lv st (sI μ a i.toNatClampNeg x)) : Go CL SH ad dA D p l e R s m args below meth c nL rv μ' pc lv (.int x :: .int i :: .ref (ad a) :: st) μ := fun ls H locs h1 h2 h3 => by
  by_cases h : ixb i n = true
  · rw [if_pos h] at hf
    refine va_iast C.1 C.2.1 C.2.2.2.2.2.2.2.1 h2 (wld_D C.2.2.2.2.2.2.2.2.1 dA μ) h3 a 0 (cA := dA 0) (n := n) (f := μ.1 a) (wld_at hs) rfl (ixb_in h) d (fun H1 locs1 q1 q2 q3 => kk hf ls H1 locs1 h1 ?_ q3)
    rw [wld_iA (by decide) (by decide) hs] at q1
    exact q1
  · rw [if_neg h] at hf; cases hf
theorem g_bast (C : Cx CL SH ad dA D p s m args meth c cc nL own ret) {a n : Nat} {i x : Int32} (hs : SH[a]? = some (.inl (1, n))) (d : decode cc pc = .ok (.bastore, 1)) {α : Type} {A : Option α} {o : α} (hf : (if ixb i n = true then A else none) = some o) (kk : A = some o → Go CL SH ad dA D p l e R s m args below meth c nL rv μ' (pc + 1) lv st (sI μ a i.toNatClampNeg (vp_nar .byte x))) : Go CL SH ad dA D p l e R s m args below meth c nL rv μ' pc lv (.int x :: .int i :: .ref (ad a) :: st) μ := fun ls H locs h1 h2 h3 => by
  by_cases h : ixb i n = true
  · rw [if_pos h] at hf
    refine va_bast C.1 C.2.1 C.2.2.2.2.2.2.2.1 h2 (wld_D C.2.2.2.2.2.2.2.2.1 dA μ) h3 a 1 (cA := dA 1) (n := n) (f := μ.1 a) (wld_at hs) rfl (ixb_in h) d (fun H1 locs1 q1 q2 q3 => kk hf ls H1 locs1 h1 ?_ q3)
    rw [wld_iA (by decide) (by decide) hs] at q1
    exact q1
  · rw [if_neg h] at hf; cases hf
theorem g_zast (C : Cx CL SH ad dA D p s m args meth c cc nL own ret) {a n : Nat} {i x : Int32} (hs : SH[a]? = some (.inl (2, n))) (d : decode cc pc = .ok (.bastore, 1)) {α : Type} {A : Option α} {o : α} (hf : (if ixb i n = true then A else none) = some o) (kk : A = some o → Go CL SH ad dA D p l e R s m args below meth c nL rv μ' (pc + 1) lv st (sI μ a i.toNatClampNeg (vp_nar .boolean x))) : Go CL SH ad dA D p l e R s m args below meth c nL rv μ' pc lv (.int x :: .int i :: .ref (ad a) :: st) μ := fun ls H locs h1 h2 h3 => by
  by_cases h : ixb i n = true
  · rw [if_pos h] at hf
    refine va_zast C.1 C.2.1 C.2.2.2.2.2.2.2.1 h2 (wld_D C.2.2.2.2.2.2.2.2.1 dA μ) h3 a 2 (cA := dA 2) (n := n) (f := μ.1 a) (wld_at hs) rfl (ixb_in h) d (fun H1 locs1 q1 q2 q3 => kk hf ls H1 locs1 h1 ?_ q3)
    rw [wld_iA (by decide) (by decide) hs] at q1
    exact q1
  · rw [if_neg h] at hf; cases hf
theorem g_last (C : Cx CL SH ad dA D p s m args meth c cc nL own ret) {a n : Nat} {i : Int32} {x : Int64} (hs : SH[a]? = some (.inl (3, n))) (d : decode cc pc = .ok (.lastore, 1)) {α : Type} {A : Option α} {o : α} (hf : (if ixb i n = true then A else none) = some o) (kk : A = some o → Go CL SH ad dA D p l e R s m args below meth c nL rv μ' (pc + 1) lv st (sL μ a i.toNatClampNeg x)) : Go CL SH ad dA D p l e R s m args below meth c nL rv μ' pc lv (.long x :: .int i :: .ref (ad a) :: st) μ := fun ls H locs h1 h2 h3 => by
  by_cases h : ixb i n = true
  · rw [if_pos h] at hf
    refine va_last C.1 C.2.1 C.2.2.2.2.2.2.2.1 h2 (wld_D C.2.2.2.2.2.2.2.2.1 dA μ) h3 a 3 (cA := dA 3) (n := n) (f := μ.2 a) (wld_at hs) rfl (ixb_in h) d (fun H1 locs1 q1 q2 q3 => kk hf ls H1 locs1 h1 ?_ q3)
    rw [wld_lA hs] at q1
    exact q1
  · rw [if_neg h] at hf; cases hf
theorem g_copy (C : Cx CL SH ad dA D p s m args meth c cc nL own ret) {a n0 idx : Nat} {sp dp n : Int32} (hs : SH[a]? = some (.inl (1, n0))) (hl : Cond.methodLink own idx arraycopyName ∈ TB) (hnat : Cond.native arraycopyName ∈ TB) (hstat : Cond.static arraycopyName ∈ TB) (hini : Cond.initialized "java/lang/System" ∈ TB) (hfr : 1 ≤ R.frames) (hlo : (st.map fun v => v.category).sum + (nativeFrameWords "java/lang/System" "arraycopy" 5 + 11) ≤ R.locals) (d : decode cc pc = .ok (.invokestatic idx, 3)) {α : Type} {A : Option α} {o : α} (hf : (if cpb μ a n0 sp dp n = true then A else none) = some o) (kk : A = some o → Go CL SH ad dA D p l e R s m args below meth c nL rv μ' (pc + 3) lv st (sA μ a (va_cpy (μ.1 a) (μ.1 a) sp.toNatClampNeg dp.toNatClampNeg n.toNatClampNeg))) : Go CL SH ad dA D p l e R s m args below meth c nL rv μ' pc lv (.int n :: .int dp :: .ref (ad a) :: .int sp :: .ref (ad a) :: st) μ := fun ls H locs h1 h2 h3 => by
  by_cases h : cpb μ a n0 sp dp n = true
  · rw [if_pos h] at hf
    obtain ⟨c1, c2, c3, c4, c5, c6⟩ := of_decide_eq_true h
    refine va_copyi C.1 C.2.1 (C.2.2.1.trans h1.1.symm) C.2.2.2.1 (C.2.2.2.2.1 _ hl) (C.2.2.2.2.1 _ hnat) (C.2.2.2.2.1 _ hstat) (C.2.2.2.2.1 _ hini) C.2.2.2.2.2.2.2.1 h2 (wld_D C.2.2.2.2.2.2.2.2.1 dA μ) h3 a a 1 1 (c0 := dA 1) (c1 := dA 1) (n0 := n0) (n1 := n0) (f := μ.1 a) (g := μ.1 a) (ty := .byte) (wld_at hs) (wld_at hs) rfl rfl rfl c1 c2 c3 c4 c5 c6 hfr hlo d (fun H1 locs1 q1 q2 q3 => kk hf ls H1 locs1 h1 ?_ q3)
    rw [wld_aA (by decide) (by decide) hs] at q1
    exact q1
  · rw [if_neg h] at hf; cases hf
theorem g_run {rest st0 : List Value} {rv1 : Option Value} {μ1 : Mm} {a : Array Value} {ls : Array Slot} {H : Heap} {locs : List Loc} (hr : va_Run p l e R s m args below meth c H locs 0 0 0 0 (F0 m pc ls st0) rest (Qo CL SH ad dA D rv1 μ1 a) (AA SH ad)) (h1 : lvf ls nL lv) (hS : va_S (AA SH ad) s.heap H locs) (kk : Go CL SH ad dA D p l e R s m args below meth c nL rv μ' (pc + 3) lv (rv1.toList ++ rest) μ1) : W p l e R s m args below meth c H locs 0 0 (MQ below (Qo CL SH ad dA D rv μ') args s 0 0 (AA SH ad)) (F0 m pc ls st0) := by
  intro T hT X
  obtain ⟨v, st₀, t, T', L, h0, X', hL, e1, e2, ⟨hv, hw, hz, hk⟩, stp⟩ := hr T hT X
  cases hv
  rw [h0] at hz hk
  obtain ⟨t2, a1, b1⟩ := kk ls T'.heap (locs ++ L) h1 (by rw [e1]; exact hw.1)
    ⟨Nat.le_trans hS.1 (by rw [e1]; exact hz), fun q g1 g2 => by rw [e1, hk q (Nat.lt_of_lt_of_le g1 hS.1) g2]; exact hS.2.1 q g1 g2, fun q hq => by
      rcases List.mem_append.mp hq with h | h
      · exact hS.2.2 q h
      · exact hL q h⟩ T' rfl X'
  exact ⟨t2, stp t2 a1, b1⟩
theorem wd_blind {av : List Value} : FrameBlind (va_Pc av (Wd CL SH ad dA D μ)) := fun a U g mk q => ⟨q.1, q.2.1, va_K.moved (u := U) (U := U.calling g mk a) (Vm.Alike.refl U.vm) q.2.2.1, q.2.2.2.same rfl⟩
theorem g_callV (C : Cx CL SH ad dA D p s m args meth c cc nL own ret) {Cn : String} {T : u_T} {N ci idx a maxL n d0 : Nat} {ty : Nat → FieldType} {ks : List Nat} {y : MethodName} {bytes : ByteArray} {ret' : Option FieldType} {As rest : List Value} {rv1 : Option Value} {μ1 : Mm} (K : ClsOk CL ci Cn T N ty) (hs : SH[a]? = some (.inr (ci, ks))) (M : MthV Cn y bytes maxL ret' n) (hl : Cond.methodLink own idx y ∈ TB) (hn : As.length = n) (hR : d0 + 1 ≤ R.frames ∧ 8 + (maxL + 11) + 64 * d0 ≤ R.locals) (hW : (rest.map fun v => v.category).sum ≤ 8) (dd : decode cc pc = .ok (.invokevirtual idx, 3)) (hst : st = As.reverse ++ .ref (ad a) :: rest) (hM : Ct CL l SH ad dA D y bytes maxL ret' d0 (.ref (ad a) :: As) μ rv1 μ1) (kk : Go CL SH ad dA D p l e R s m args below meth c nL rv μ' (pc + 3) lv (rv1.toList ++ rest) μ1) : Go CL SH ad dA D p l e R s m args below meth c nL rv μ' pc lv st μ := fun ls H locs h1 h2 h3 =>
  g_run (va_runV (As := As) (rest := rest) (nL := nL) ⟨C.1, C.2.1, C.2.2.1, C.2.2.2.1, C.2.2.2.2.1⟩ hM (cwV n C.2.2.2.2.1 (gi_V M hl) rfl rfl rfl M.2.2.2.2 hR) ⟨wd_blind, va_recv C.2.2.2.2.2.2.2.1 h2 K.1 (fs := fvs ad μ a 0 ks) (wld_at hs), fun U hU hW => ⟨rfl, by rw [hU]; exact h2, va_K.moved hW.alike C.2.2.2.2.2.2.2.1, C.2.2.2.2.2.2.2.2.2.warm hW⟩⟩ rfl hn h1.1 hst (lv_room hW) dd ⟨Nat.zero_le _, Nat.zero_le _⟩) h1 h3 kk
theorem g_callS (C : Cx CL SH ad dA D p s m args meth c cc nL own ret) {idx maxL n d0 : Nat} {y : MethodName} {bytes : ByteArray} {ret' : Option FieldType} {As rest : List Value} {rv1 : Option Value} {μ1 : Mm} (M : MthS y bytes maxL ret' n) (hl : Cond.methodLink own idx y ∈ TB) (hn : As.length = n) (hR : d0 + 1 ≤ R.frames ∧ 8 + (maxL + 11) + 64 * d0 ≤ R.locals) (hW : (rest.map fun v => v.category).sum ≤ 8) (dd : decode cc pc = .ok (.invokestatic idx, 3)) (hst : st = As.reverse ++ rest) (hM : Ct CL l SH ad dA D y bytes maxL ret' d0 As μ rv1 μ1) (kk : Go CL SH ad dA D p l e R s m args below meth c nL rv μ' (pc + 3) lv (rv1.toList ++ rest) μ1) : Go CL SH ad dA D p l e R s m args below meth c nL rv μ' pc lv st μ := fun ls H locs h1 h2 h3 =>
  g_run (va_runS (As := As) (rest := rest) (nL := nL) ⟨C.1, C.2.1, C.2.2.1, C.2.2.2.1, C.2.2.2.2.1⟩ hM (va_cwS n C.2.2.2.2.1 (gi_S M hl) rfl rfl rfl M.2.2.2 hR) ⟨wd_blind, fun U hU hW => ⟨rfl, by rw [hU]; exact h2, va_K.moved hW.alike C.2.2.2.2.2.2.2.1, C.2.2.2.2.2.2.2.2.2.warm hW⟩⟩ rfl hn h1.1 hst (lv_room hW) dd ⟨Nat.zero_le _, Nat.zero_le _⟩) h1 h3 kk
theorem g_callSN (C : Cx CL SH ad dA D p s m args meth c cc nL own ret) {host : String} {idx maxL n d0 : Nat} {y : MethodName} {bytes : ByteArray} {ret' : Option FieldType} {As rest : List Value} {rv1 : Option Value} {μ1 : Mm} (M : MthS y bytes maxL ret' n) (hl : (own, idx, y, host) ∈ NST) (hn : As.length = n) (hR : d0 + 1 ≤ R.frames ∧ 8 + (maxL + 11) + 64 * d0 ≤ R.locals) (hW : (rest.map fun v => v.category).sum ≤ 8) (dd : decode cc pc = .ok (.invokestatic idx, 3)) (hst : st = As.reverse ++ rest) (hM : Ct CL l SH ad dA D y bytes maxL ret' d0 As μ rv1 μ1) (kk : Go CL SH ad dA D p l e R s m args below meth c nL rv μ' (pc + 3) lv (rv1.toList ++ rest) μ1) : Go CL SH ad dA D p l e R s m args below meth c nL rv μ' pc lv st μ := fun ls H locs h1 h2 h3 =>
  g_run (va_runSN (As := As) (rest := rest) (nL := nL) ⟨C.1, C.2.1, C.2.2.1, C.2.2.2.1, C.2.2.2.2.1⟩ hM ⟨va_cnB n C.2.2.2.2.1 (gi_C M.2.2.1) rfl rfl rfl (C.2.2.2.2.2.2.2.2.2 _ hl) (C.2.2.2.2.1 _ M.2.1) M.2.2.2 hR, C.2.2.2.2.1 _ M.1, trivial⟩ ⟨wd_blind, fun U hU hW => ⟨rfl, by rw [hU]; exact h2, va_K.moved hW.alike C.2.2.2.2.2.2.2.1, C.2.2.2.2.2.2.2.2.2.warm hW⟩⟩ rfl hn h1.1 hst (lv_room hW) dd ⟨Nat.zero_le _, Nat.zero_le _⟩) h1 h3 kk
theorem g_iret (C : Cx CL SH ad dA D p s m args meth c cc nL own (some .int)) {v r : Int32} (d : decode cc pc = .ok (.ireturn, 1)) (hf : some (v, μ) = some (r, μ')) : Go CL SH ad dA D p l e R s m args below meth c nL (some (.int r)) μ' pc lv [.int v] μ := fun ls H locs h1 h2 h3 => by
  cases hf
  exact W.iret C.1 C.2.1 C.2.2.2.2.2.1 (fun t ht hW => ⟨rfl, ⟨by rw [ht]; exact h2, va_K.moved hW.alike C.2.2.2.2.2.2.2.1, C.2.2.2.2.2.2.2.2.2.warm hW⟩, h3.F ht⟩) h3.2.2 d C.2.2.2.2.2.2.1
theorem g_zret (C : Cx CL SH ad dA D p s m args meth c cc nL own (some .boolean)) {v r : Int32} (d : decode cc pc = .ok (.ireturn, 1)) (hf : (if zb v = true then some (v, μ) else none) = some (r, μ')) : Go CL SH ad dA D p l e R s m args below meth c nL (some (.int r)) μ' pc lv [.int v] μ := fun ls H locs h1 h2 h3 => by
  by_cases h : zb v = true
  · rw [if_pos h] at hf
    cases hf
    exact W.zret C.1 C.2.1 C.2.2.2.2.2.1 (zb_nar h) (fun t ht hW => ⟨rfl, ⟨by rw [ht]; exact h2, va_K.moved hW.alike C.2.2.2.2.2.2.2.1, C.2.2.2.2.2.2.2.2.2.warm hW⟩, h3.F ht⟩) h3.2.2 d C.2.2.2.2.2.2.1
  · rw [if_neg h] at hf; cases hf
theorem g_lret (C : Cx CL SH ad dA D p s m args meth c cc nL own (some .long)) {v r : Int64} (d : decode cc pc = .ok (.lreturn, 1)) (hf : some (v, μ) = some (r, μ')) : Go CL SH ad dA D p l e R s m args below meth c nL (some (.long r)) μ' pc lv [.long v] μ := fun ls H locs h1 h2 h3 => by
  cases hf
  exact W.lret C.1 C.2.1 C.2.2.2.2.2.1 (fun t ht hW => ⟨rfl, ⟨by rw [ht]; exact h2, va_K.moved hW.alike C.2.2.2.2.2.2.2.1, C.2.2.2.2.2.2.2.2.2.warm hW⟩, h3.F ht⟩) h3.2.2 d C.2.2.2.2.2.2.1
theorem g_vret (C : Cx CL SH ad dA D p s m args meth c cc nL own none) (d : decode cc pc = .ok (.return_, 1)) (hf : some μ = some μ') : Go CL SH ad dA D p l e R s m args below meth c nL none μ' pc lv [] μ := fun ls H locs h1 h2 h3 => by
  cases hf
  exact W.vret C.1 C.2.1 C.2.2.2.2.2.1 (fun t ht hW => ⟨rfl, ⟨by rw [ht]; exact h2, va_K.moved hW.alike C.2.2.2.2.2.2.2.1, C.2.2.2.2.2.2.2.2.2.warm hW⟩, h3.F ht⟩) h3.2.2 d C.2.2.2.2.2.2.1
theorem g_wret {Cm : String} (C : Cx CL SH ad dA D p s m args meth c cc nL own (some (.object Cm))) {j r : Nat} (d : decode cc pc = .ok (.areturn, 1)) (hf : some (j, μ) = some (r, μ')) : Go CL SH ad dA D p l e R s m args below meth c nL (some (.ref (ad (WK r)))) μ' pc lv [.ref (ad (WK j))] μ := fun ls H locs h1 h2 h3 => by
  cases hf
  exact W.aret C.1 C.2.1 C.2.2.2.2.2.1 (Or.inl ⟨_, rfl⟩) (Or.inr ⟨_, rfl⟩) (fun t ht hW => ⟨rfl, ⟨by rw [ht]; exact h2, va_K.moved hW.alike C.2.2.2.2.2.2.2.1, C.2.2.2.2.2.2.2.2.2.warm hW⟩, h3.F ht⟩) h3.2.2 d C.2.2.2.2.2.2.1
theorem g_tabIn (C : Cx CL SH ad dA D p s m args meth c cc nL own ret) {dflt lo hi : Int} {offs : Array Int} {len : Nat} {x : Int32} {off : Int} {tgt : Nat} (d : decode cc pc = .ok (.tableswitch dflt lo hi offs, len)) (g1 : ¬ x.toInt < lo) (g2 : ¬ hi < x.toInt) (ho : offs[(x.toInt - lo).toNat]? = some off) (ht : (pc : Int) + off = (tgt : Int)) (k : Go CL SH ad dA D p l e R s m args below meth c nL rv μ' tgt lv st μ) : Go CL SH ad dA D p l e R s m args below meth c nL rv μ' pc lv (.int x :: st) μ := fun ls H locs h1 h2 h3 => lv_tableIn C.1 C.2.1 d g1 g2 ho ht (k ls H locs h1 h2 h3)
theorem g_tabOut (C : Cx CL SH ad dA D p s m args meth c cc nL own ret) {dflt lo hi : Int} {offs : Array Int} {len : Nat} {x : Int32} {tgt : Nat} (d : decode cc pc = .ok (.tableswitch dflt lo hi offs, len)) (g : x.toInt < lo ∨ hi < x.toInt) (ht : (pc : Int) + dflt = (tgt : Int)) (k : Go CL SH ad dA D p l e R s m args below meth c nL rv μ' tgt lv st μ) : Go CL SH ad dA D p l e R s m args below meth c nL rv μ' pc lv (.int x :: st) μ := fun ls H locs h1 h2 h3 => lv_tableOut C.1 C.2.1 d g ht (k ls H locs h1 h2 h3)
theorem g_look (C : Cx CL SH ad dA D p s m args meth c cc nL own ret) {dflt : Int} {ps : Array (Int × Int)} {len : Nat} {x : Int32} {off : Int} {tgt : Nat} (d : decode cc pc = .ok (.lookupswitch dflt ps, len)) (hp : (ps.toList.zip (ps.toList.drop 1)).all (fun (a, next) => a.1 < next.1) = true) (ho : Op.lookupswitch.offset ps.toList dflt x.toInt = off) (ht : (pc : Int) + off = (tgt : Int)) (k : Go CL SH ad dA D p l e R s m args below meth c nL rv μ' tgt lv st μ) : Go CL SH ad dA D p l e R s m args below meth c nL rv μ' pc lv (.int x :: st) μ := fun ls H locs h1 h2 h3 => lv_lookup C.1 C.2.1 d hp ho ht (k ls H locs h1 h2 h3)
theorem lookup_mem {i : Nat} {v : Value} : ∀ (l : List (Nat × Value)), l.lookup i = some v → (i, v) ∈ l
  | [], h => by simp at h
  | (j, w) :: l, h => by
    simp only [List.lookup] at h
    by_cases e : i = j
    · subst e
      simp at h
      subst h
      exact List.mem_cons_self
    · have e2 : (i == j) = false := by simpa using e
      rw [e2] at h
      exact List.mem_cons_of_mem _ (lookup_mem l h)
theorem ct_of {y : MethodName} {cc : ByteArray} {nL d : Nat} {ret : Option FieldType} {av : List Value} (hy : plainName y.cls = true) (hi : Inj SH ad) (hlen : (lg_sl av).length ≤ nL) (hb : ∀ (p : Program) (e : Env) (s : State) (m : MethodId) (args : Array Value) (below : List Frame) (meth : Method) (c : Code), Cx CL SH ad dA D p s m args meth c cc nL y.cls ret → Go CL SH ad dA D p l e (rmD d) s m args below meth c nL rv μ' 0 (lvA av) [] μ) : Ct CL l SH ad dA D y cc nL ret d av μ rv μ' := by
  refine Met.ofW (cc := cc) (maxL := nL) (ret := ret) hy rfl ?_
  intro p e s m args below meth c s₁ B hml hv
  obtain ⟨rfl, hP, hK, hN⟩ := hv
  have hts := atoms_spec (ws := .code y cc nL ret :: TB) B.pre
  have hl := lv_entry av (n := nL) hlen
  rw [lg_entry_eq]
  exact hb p e s m av.toArray below meth c ⟨B.exec, B.bytes, hml, findClass_of_methodNamed B.named, fun w hw => hts w (List.mem_cons_of_mem _ hw), B.returns, B.notSynchronized, hK, hi, hN⟩ _ s.heap [] ⟨hl.1, hl.2.1, fun i v h => hl.2.2 (i, v) (lookup_mem _ h)⟩ hP va_S.rf
end GH
