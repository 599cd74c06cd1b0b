/-! rows of calls with the binds of the functions -/
section R2
variable {CL : List vw_C} {SH : List Shp} {ad : Nat → Nat} {dA : Nat → ClassId} {D : va_G} {p : Program} {l : Launch} {e : Env} {R : Room} {s : State} {m : MethodId} {args : Array Value} {below : List Frame} {meth : Method} {c : Code} {cc : ByteArray} {nL : Nat} {own : String} {ret : Option FieldType} {rv : Option Value} {μ μ' : Mm} {pc : Nat} {lv : Nat → Option Value} {st : List Value}
theorem upS {lv : Nat → Option Value} {i : Nat} {v : Value} : upL lv i v i = some v := if_pos rfl
theorem upG {lv : Nat → Option Value} {i j : Nat} {v w : Value} (h : lv j = some w) (h1 : (j == i || (v.category == 2 && j == i + 1) || (j + 1 == i && w.category == 2)) = false) : upL lv i v j = some w := by
  simp only [Bool.or_eq_false_iff, Bool.and_eq_false_iff, beq_eq_false_iff_ne, ne_eq] at h1
  obtain ⟨⟨a, b⟩, c⟩ := h1
  unfold upL
  rw [if_neg a, if_neg (by rintro ⟨q1, q2⟩; rcases b with b | b; exact b q1; exact b q2)]
  by_cases e : j + 1 = i
  · rw [if_pos e, h]
    simp only
    rw [if_neg (by rcases c with c | c; exact absurd e c; exact c)]
  · rw [if_neg e, h]
theorem chk8 {j : Nat} {α : Type} {A : Option α} {o : α} (h : (if j < 8 then A else none) = some o) : j < 8 ∧ A = some o := by
  by_cases q : j < 8
  · rw [if_pos q] at h; exact ⟨q, h⟩
  · rw [if_neg q] at h; cases h
theorem g_cvI (C : Cx CL SH ad dA D p s m args meth c cc nL own ret) {Cn : String} {T : u_T} {N ci idx a maxL n d0 : Nat} {ty : Nat → FieldType} {ks : List Nat} {y : MethodName} {bytes : ByteArray} {ret' : Option FieldType} {As rest : List Value} {f : Option (Int32 × Mm)} {β : Type} {kf : Int32 → Mm → Option β} {o : β} (K : ClsOk CL ci Cn T N ty) (hs : SH[a]? = some (.inr (ci, ks))) (M : MthV Cn y bytes maxL ret' n) (hl : Cond.methodLink own idx y ∈ TB) (dd : decode cc pc = .ok (.invokevirtual idx, 3)) (hf : bn f kf = some o) (hM : ∀ (r : Int32) (μ1 : Mm), f = some (r, μ1) → Ct CL l SH ad dA D y bytes maxL ret' d0 (.ref (ad a) :: As) μ (some (.int r)) μ1) (hst : st = As.reverse ++ .ref (ad a) :: rest) (hn : As.length = n) (hR : d0 + 1 ≤ R.frames ∧ 8 + (maxL + 11) + 64 * d0 ≤ R.locals) (hW : (rest.map fun v => v.category).sum ≤ 8) (kk : ∀ (r : Int32) (μ1 : Mm), kf r μ1 = some o → Go CL SH ad dA D p l e R s m args below meth c nL rv μ' (pc + 3) lv (.int r :: rest) μ1) : Go CL SH ad dA D p l e R s m args below meth c nL rv μ' pc lv st μ := by
  obtain ⟨r, μ1, h1, h2⟩ := bn_some hf
  exact g_callV C K hs M hl hn hR hW dd hst (hM r μ1 h1) (kk r μ1 h2)
theorem g_csI (C : Cx CL SH ad dA D p s m args meth c cc nL own ret) {idx maxL n d0 : Nat} {y : MethodName} {bytes : ByteArray} {ret' : Option FieldType} {As rest : List Value} {f : Option (Int32 × Mm)} {β : Type} {kf : Int32 → Mm → Option β} {o : β} (M : MthS y bytes maxL ret' n) (hl : Cond.methodLink own idx y ∈ TB) (dd : decode cc pc = .ok (.invokestatic idx, 3)) (hf : bn f kf = some o) (hM : ∀ (r : Int32) (μ1 : Mm), f = some (r, μ1) → Ct CL l SH ad dA D y bytes maxL ret' d0 As μ (some (.int r)) μ1) (hst : st = As.reverse ++ rest) (hn : As.length = n) (hR : d0 + 1 ≤ R.frames ∧ 8 + (maxL + 11) + 64 * d0 ≤ R.locals) (hW : (rest.map fun v => v.category).sum ≤ 8) (kk : ∀ (r : Int32) (μ1 : Mm), kf r μ1 = some o → Go CL SH ad dA D p l e R s m args below meth c nL rv μ' (pc + 3) lv (.int r :: rest) μ1) : Go CL SH ad dA D p l e R s m args below meth c nL rv μ' pc lv st μ := by
  obtain ⟨r, μ1, h1, h2⟩ := bn_some hf
  exact g_callS C M hl hn hR hW dd hst (hM r μ1 h1) (kk r μ1 h2)
theorem g_cnI (C : Cx CL SH ad dA D p s m args meth c cc nL own ret) {idx maxL n d0 : Nat} {y : MethodName} {bytes : ByteArray} {ret' : Option FieldType} {As rest : List Value} {f : Option (Int32 × Mm)} {β : Type} {kf : Int32 → Mm → Option β} {o : β} (M : MthS y bytes maxL ret' n) {host : String} (hl : (own, idx, y, host) ∈ NST) (dd : decode cc pc = .ok (.invokestatic idx, 3)) (hf : bn f kf = some o) (hM : ∀ (r : Int32) (μ1 : Mm), f = some (r, μ1) → Ct CL l SH ad dA D y bytes maxL ret' d0 As μ (some (.int r)) μ1) (hst : st = As.reverse ++ rest) (hn : As.length = n) (hR : d0 + 1 ≤ R.frames ∧ 8 + (maxL + 11) + 64 * d0 ≤ R.locals) (hW : (rest.map fun v => v.category).sum ≤ 8) (kk : ∀ (r : Int32) (μ1 : Mm), kf r μ1 = some o → Go CL SH ad dA D p l e R s m args below meth c nL rv μ' (pc + 3) lv (.int r :: rest) μ1) : Go CL SH ad dA D p l e R s m args below meth c nL rv μ' pc lv st μ := by
  obtain ⟨r, μ1, h1, h2⟩ := bn_some hf
  exact g_callSN C M hl hn hR hW dd hst (hM r μ1 h1) (kk r μ1 h2)
theorem g_cvL (C : Cx CL SH ad dA D p s m args meth c cc nL own ret) {Cn : String} {T : u_T} {N ci idx a maxL n d0 : Nat} {ty : Nat → FieldType} {ks : List Nat} {y : MethodName} {bytes : ByteArray} {ret' : Option FieldType} {As rest : List Value} {f : Option (Int64 × Mm)} {β : Type} {kf : Int64 → Mm → Option β} {o : β} (K : ClsOk CL ci Cn T N ty) (hs : SH[a]? = some (.inr (ci, ks))) (M : MthV Cn y bytes maxL ret' n) (hl : Cond.methodLink own idx y ∈ TB) (dd : decode cc pc = .ok (.invokevirtual idx, 3)) (hf : bn f kf = some o) (hM : ∀ (r : Int64) (μ1 : Mm), f = some (r, μ1) → Ct CL l SH ad dA D y bytes maxL ret' d0 (.ref (ad a) :: As) μ (some (.long r)) μ1) (hst : st = As.reverse ++ .ref (ad a) :: rest) (hn : As.length = n) (hR : d0 + 1 ≤ R.frames ∧ 8 + (maxL + 11) + 64 * d0 ≤ R.locals) (hW : (rest.map fun v => v.category).sum ≤ 8) (kk : ∀ (r : Int64) (μ1 : Mm), kf r μ1 = some o → Go CL SH ad dA D p l e R s m args below meth c nL rv μ' (pc + 3) lv (.long r :: rest) μ1) : Go CL SH ad dA D p l e R s m args below meth c nL rv μ' pc lv st μ := by
  obtain ⟨r, μ1, h1, h2⟩ := bn_some hf
  exact g_callV C K hs M hl hn hR hW dd hst (hM r μ1 h1) (kk r μ1 h2)
theorem g_csL (C : Cx CL SH ad dA D p s m args meth c cc nL own ret) {idx maxL n d0 : Nat} {y : MethodName} {bytes : ByteArray} {ret' : Option FieldType} {As rest : List Value} {f : Option (Int64 × Mm)} {β : Type} {kf : Int64 → Mm → Option β} {o : β} (M : MthS y bytes maxL ret' n) (hl : Cond.methodLink own idx y ∈ TB) (dd : decode cc pc = .ok (.invokestatic idx, 3)) (hf : bn f kf = some o) (hM : ∀ (r : Int64) (μ1 : Mm), f = some (r, μ1) → Ct CL l SH ad dA D y bytes maxL ret' d0 As μ (some (.long r)) μ1) (hst : st = As.reverse ++ rest) (hn : As.length = n) (hR : d0 + 1 ≤ R.frames ∧ 8 + (maxL + 11) + 64 * d0 ≤ R.locals) (hW : (rest.map fun v => v.category).sum ≤ 8) (kk : ∀ (r : Int64) (μ1 : Mm), kf r μ1 = some o → Go CL SH ad dA D p l e R s m args below meth c nL rv μ' (pc + 3) lv (.long r :: rest) μ1) : Go CL SH ad dA D p l e R s m args below meth c nL rv μ' pc lv st μ := by
  obtain ⟨r, μ1, h1, h2⟩ := bn_some hf
  exact g_callS C M hl hn hR hW dd hst (hM r μ1 h1) (kk r μ1 h2)
theorem g_cnL (C : Cx CL SH ad dA D p s m args meth c cc nL own ret) {idx maxL n d0 : Nat} {y : MethodName} {bytes : ByteArray} {ret' : Option FieldType} {As rest : List Value} {f : Option (Int64 × Mm)} {β : Type} {kf : Int64 → Mm → Option β} {o : β} (M : MthS y bytes maxL ret' n) {host : String} (hl : (own, idx, y, host) ∈ NST) (dd : decode cc pc = .ok (.invokestatic idx, 3)) (hf : bn f kf = some o) (hM : ∀ (r : Int64) (μ1 : Mm), f = some (r, μ1) → Ct CL l SH ad dA D y bytes maxL ret' d0 As μ (some (.long r)) μ1) (hst : st = As.reverse ++ rest) (hn : As.length = n) (hR : d0 + 1 ≤ R.frames ∧ 8 + (maxL + 11) + 64 * d0 ≤ R.locals) (hW : (rest.map fun v => v.category).sum ≤ 8) (kk : ∀ (r : Int64) (μ1 : Mm), kf r μ1 = some o → Go CL SH ad dA D p l e R s m args below meth c nL rv μ' (pc + 3) lv (.long r :: rest) μ1) : Go CL SH ad dA D p l e R s m args below meth c nL rv μ' pc lv st μ := by
  obtain ⟨r, μ1, h1, h2⟩ := bn_some hf
  exact g_callSN C M hl hn hR hW dd hst (hM r μ1 h1) (kk r μ1 h2)
theorem g_cvW (C : Cx CL SH ad dA D p s m args meth c cc nL own ret) {Cn : String} {T : u_T} {N ci idx a maxL n d0 : Nat} {ty : Nat → FieldType} {ks : List Nat} {y : MethodName} {bytes : ByteArray} {ret' : Option FieldType} {As rest : List Value} {f : Option (Nat × Mm)} {β : Type} {kf : Nat → Mm → Option β} {o : β} (K : ClsOk CL ci Cn T N ty) (hs : SH[a]? = some (.inr (ci, ks))) (M : MthV Cn y bytes maxL ret' n) (hl : Cond.methodLink own idx y ∈ TB) (dd : decode cc pc = .ok (.invokevirtual idx, 3)) (hf : bn f kf = some o) (hM : ∀ (r : Nat) (μ1 : Mm), f = some (r, μ1) → Ct CL l SH ad dA D y bytes maxL ret' d0 (.ref (ad a) :: As) μ (some (.ref (ad (WK r)))) μ1) (hst : st = As.reverse ++ .ref (ad a) :: rest) (hn : As.length = n) (hR : d0 + 1 ≤ R.frames ∧ 8 + (maxL + 11) + 64 * d0 ≤ R.locals) (hW : (rest.map fun v => v.category).sum ≤ 8) (kk : ∀ (r : Nat) (μ1 : Mm), kf r μ1 = some o → Go CL SH ad dA D p l e R s m args below meth c nL rv μ' (pc + 3) lv (.ref (ad (WK r)) :: rest) μ1) : Go CL SH ad dA D p l e R s m args below meth c nL rv μ' pc lv st μ := by
  obtain ⟨r, μ1, h1, h2⟩ := bn_some hf
  exact g_callV C K hs M hl hn hR hW dd hst (hM r μ1 h1) (kk r μ1 h2)
theorem g_cvV (C : Cx CL SH ad dA D p s m args meth c cc nL own ret) {Cn : String} {T : u_T} {N ci idx a maxL n d0 : Nat} {ty : Nat → FieldType} {ks : List Nat} {y : MethodName} {bytes : ByteArray} {ret' : Option FieldType} {As rest : List Value} {f : Option Mm} {β : Type} {kf : Mm → Option β} {o : β} (K : ClsOk CL ci Cn T N ty) (hs : SH[a]? = some (.inr (ci, ks))) (M : MthV Cn y bytes maxL ret' n) (hl : Cond.methodLink own idx y ∈ TB) (dd : decode cc pc = .ok (.invokevirtual idx, 3)) (hf : bv f kf = some o) (hM : ∀ (μ1 : Mm), f = some μ1 → Ct CL l SH ad dA D y bytes maxL ret' d0 (.ref (ad a) :: As) μ none μ1) (hst : st = As.reverse ++ .ref (ad a) :: rest) (hn : As.length = n) (hR : d0 + 1 ≤ R.frames ∧ 8 + (maxL + 11) + 64 * d0 ≤ R.locals) (hW : (rest.map fun v => v.category).sum ≤ 8) (kk : ∀ (μ1 : Mm), kf μ1 = some o → Go CL SH ad dA D p l e R s m args below meth c nL rv μ' (pc + 3) lv rest μ1) : Go CL SH ad dA D p l e R s m args below meth c nL rv μ' pc lv st μ := by
  obtain ⟨μ1, h1, h2⟩ := bv_some hf
  exact g_callV C K hs M hl hn hR hW dd hst (hM μ1 h1) (kk μ1 h2)
theorem g_putZc (C : Cx CL SH ad dA D p s m args meth c cc nL own ret) {Cn : String} {T : u_T} {N ci : Nat} {k idx a : Nat} {ty : Nat → FieldType} {ks : List Nat} {x : Int32} (K : ClsOk CL ci Cn T N ty) (hk : k < N) (hl : Cond.fieldLink own idx (T k).1 (T k).2.1 (T k).2.2.1 ∈ TB) (hs : SH[a]? = some (.inr (ci, ks))) (hc : ks[k]? = some 0) (hfin : (T k).2.2.2 = false) (ht : ty k = .boolean) (d : decode cc pc = .ok (.putfield idx, 3)) (hz : zb x = true) (kk : Go CL SH ad dA D p l e R s m args below meth c nL rv μ' (pc + 3) lv st (sI μ a k x)) : Go CL SH ad dA D p l e R s m args below meth c nL rv μ' pc lv (.int x :: .ref (ad a) :: st) μ := g_putZ C K hk hl hs hc hfin ht d (A := some ()) (o := ()) (if_pos hz) (fun _ => kk)
theorem g_zretc (C : Cx CL SH ad dA D p s m args meth c cc nL own (some .boolean)) {v r : Int32} (d : decode cc pc = .ok (.ireturn, 1)) (hz : zb v = true) (hf : some (v, μ) = some (r, μ')) : Go CL SH ad dA D p l e R s m args below meth c nL (some (.int r)) μ' pc lv [.int v] μ := g_zret C d (by rw [if_pos hz]; exact hf)
theorem tni {x : Int32} {k : Int} (y : Int32) (hy : y.toInt = k) (h : ¬ x = y) : x.toInt ≠ k := fun q => h (Int32.toInt_inj.mp (q.trans hy.symm))
theorem Met.ofWF {y : MethodName} {ws ws' : List Cond} {rm : Room} {Pc : Array Value → State → Prop} {Qc : Array Value → State → Outcome → State → Prop} {mc ms : Nat} {free : Addr → Prop} {cc : ByteArray} {maxL : Nat} {ret : Option FieldType}
    (hy : plainFor y = true) (hw : ws = Cond.code y cc maxL ret :: ws')
    (body : ∀ p e s m args below meth c s₁, BodyLoose p l y (headSpec ws rm) cc maxL ret e s m args below meth c s₁ → c.maxLocals = maxL → Pc args s →
      W p l e (headSpec ws rm).room s m args below meth c s.heap [] 0 0 (MQ below Qc args s mc ms free) (entryFrame m args maxL)) : Met l y ws rm Pc Qc mc ms free := by
  refine MetFree.of_bodyRF (code := cc) (maxLocals := maxL) (ret := ret) hy ?_ ?_
  · intro args s m h hn
    obtain ⟨meth, c, h1, h2, h3, h4, h5, h6, -, -⟩ := Cond.code_spec hn (atoms_spec (ws := ws) h _ (by rw [hw]; exact List.mem_cons_self))
    exact ⟨meth, c, h1, h2, h3, h4, h5, h6⟩
  · intro p e s m args below meth c s₁ B hml hP _ hst
    have hh0 : s₁.heap = s.heap := by rw [B.state]; rfl
    obtain ⟨t, a1, o, b1, b2, b3⟩ := body p e s m args below meth c s₁ B hml hP s₁ hh0 (Stand.of_body B)
    exact ⟨t, o, hst.trans a1, b1, b2, ⟨b3.1, b3.2⟩⟩
theorem ct_ofF {y : MethodName} {cc : ByteArray} {nL d : Nat} {ret : Option FieldType} {av : List Value} (hy : plainFor y = true) (hi : Inj SH ad) (hlen : (lg_sl av).length ≤ nL) (hb : ∀ (p : Program) (e : Env) (s : State) (m : MethodId) (args : Array Value) (below : List Frame) (meth : Method) (c : Code), Cx CL SH ad dA D p s m args meth c cc nL y.cls ret → Go CL SH ad dA D p l e (rmD d) s m args below meth c nL rv μ' 0 (lvA av) [] μ) : Ct CL l SH ad dA D y cc nL ret d av μ rv μ' := by
  refine Met.ofWF (cc := cc) (maxL := nL) (ret := ret) hy rfl ?_
  intro p e s m args below meth c s₁ B hml hv
  obtain ⟨rfl, hP, hK, hN⟩ := hv
  have hts := atoms_spec (ws := .code y cc nL ret :: TB) B.pre
  have hl := lv_entry av (n := nL) hlen
  rw [lg_entry_eq]
  exact hb p e s m av.toArray below meth c ⟨B.exec, B.bytes, hml, findClass_of_methodNamed B.named, fun w hw => hts w (List.mem_cons_of_mem _ hw), B.returns, B.notSynchronized, hK, hi, hN⟩ _ s.heap [] ⟨hl.1, hl.2.1, fun i v h => hl.2.2 (i, v) (lookup_mem _ h)⟩ hP va_S.rf
theorem g_cas {α : Type} {A B o : Option α} {x y : Int32} {Gl : Prop} (hf : (if x = y then A else B) = o) (a : x = y → A = o → Gl) (b : ¬ x = y → B = o → Gl) : Gl := by
  by_cases h : x = y
  · rw [if_pos h] at hf; exact a h hf
  · rw [if_neg h] at hf; exact b h hf
theorem lk_out {x : Int} {d a b : Int} (h0 : x ≠ 0) (h1 : x ≠ 1) : Op.lookupswitch.offset [(0, a), (1, b)] d x = d := by
  simp [Op.lookupswitch.offset, h0, h1, Ne.symm h0, Ne.symm h1]
end R2
