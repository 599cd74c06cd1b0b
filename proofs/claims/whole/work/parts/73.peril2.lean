/-! PURE 53: peril: the reference; both -/
/-- as MFr, but for the set that is lost besides -/
def M7 (μ μ' : Mm) : Prop := (∀ f, f ≤ 26 → μ'.1 0 f = μ.1 0 f) ∧ (∀ c, (1 ≤ c ∧ c ≤ 8) ∨ (10 ≤ c ∧ c ≤ 20) ∨ c = 29 ∨ c = 30 → μ'.1 c = μ.1 c) ∧ ∀ f, f = 3 ∨ f = 4 → μ'.2 0 f = μ.2 0 f
theorem M7.trans {μ μ' μ'' : Mm} (a : M7 μ μ') (b : M7 μ' μ'') : M7 μ μ'' := ⟨fun f h => (b.1 f h).trans (a.1 f h), fun f h => (b.2.1 f h).trans (a.2.1 f h), fun f h => (b.2.2 f h).trans (a.2.2 f h)⟩
theorem MFr.m7 {μ μ' : Mm} (a : MFr μ μ') : M7 μ μ' := ⟨fun f h => a.1 f (by omega), a.2.1, a.2.2⟩
theorem M7.dm {D : Da} {μ μ' : Mm} (a : M7 μ μ') (X : DM D μ) : DM D μ' := X.congr ⟨a.1 8 (by omega), a.1 9 (by omega), a.1 15 (by omega)⟩ (fun c h => a.2.1 c (by omega))
theorem M7.set (μ : Mm) (v : Int32) : M7 μ (sI μ 0 27 v) := ⟨fun f h => by rw [sI_at, upd_ne _ _ (by omega)], fun c h => sI_ne _ _ _ (by omega), fun _ _ => rfl⟩
theorem M7.back {μ μ' : Mm} (a : M7 μ μ') (h : μ.1 0 27 = 0) : MFr μ (sI μ' 0 27 0) := ⟨fun f hf => by
  rw [sI_at, upd_at]
  by_cases e : f = 27
  · rw [if_pos e, e, h]
  · rw [if_neg e]; exact a.1 f (by omega), fun c hc => by rw [sI_ne _ _ _ (by omega)]; exact a.2.1 c hc, fun f hf => a.2.2 f hf⟩
theorem M_bits8_loop (N : Nat) {B : Nat} (hB : B < 256) (μ : Mm) : ∀ (m i : Nat), i ≤ 8 → 8 < m + i → f_M_bitsOf_L4 N m (nI B) (nI (cnt (fun q => B.testBit q) i)) (nI i) μ = some (nI (cnt (fun q => B.testBit q) 8), μ) := by
  intro m
  induction m with
  | zero => intro i h1 h2; omega
  | succ m ih =>
    intro i h1 h2
    rw [f_M_bitsOf_L4]
    by_cases h : i = 8
    · subst h
      rw [if_pos (by decide)]
    · rw [if_neg (show ¬ (8 : Int32) ≤ nI i from nI_ge (b := 8) (by omega) (by decide)), bitN (by omega) (by omega)]
      simp only [nI_1, nI_add]
      rw [← ih (i + 1) (by omega) (by omega)]
      show _ = f_M_bitsOf_L4 N m _ (nI (cnt _ i + _)) _ _
      by_cases c : B.testBit i = true
      · rw [c, show b2 true = nI 1 from rfl, nI_add, if_pos c]
      · have c' : B.testBit i = false := by simpa using c
        rw [c', show b2 false = nI 0 from rfl, nI_add, if_neg c]
theorem M_bitsOf_eq (N : Nat) (hN : 20 ≤ N) {B : Nat} (hB : B < 256) (μ : Mm) : f_M_bitsOf N (nI B) μ = some (nI (cnt (fun q => B.testBit q) 16), μ) := by
  have := M_bits8_loop N hB μ N 0 (by omega) (by omega)
  rw [cnt_16 (n := 8) (by decide) hB]
  exact this
theorem M_able_loop (N : Nat) (hN : 30 ≤ N) {D : Da} (I : DI D) (v1 : Int32) (μ : Mm) (X : DM D μ) (e : μ.1 0 27 = 0) : ∀ (m i : Nat), i ≤ D.w → D.w < m + i → f_M_peril_L20 N m v1 (nI (bsN D.go i)) (nI i) μ = f_M_peril_B52 N v1 (nI D.gB) μ := by
  have w8 := I.w8
  intro m
  induction m with
  | zero => intro i h1 h2; omega
  | succ m ih =>
    intro i h1 h2
    rw [f_M_peril_L20, X.w]
    by_cases h : i = D.w
    · rw [if_pos (by rw [h]; exact nI_le (Nat.le_refl _) (by omega)), h]; rfl
    · have hi : i < D.w := by omega
      have hg := M_goes_eq N hN I (L := 0) (by decide) hi μ X e
      rw [D.goL0] at hg
      have st := bsn_step D.go (show i < 16 by omega)
      rw [if_neg (nI_ge (by omega) (by omega)), hg, bnS]
      unfold f_M_peril_B44
      simp only [nI_1, nI_add]
      rw [← ih (i + 1) (by omega) (by omega), ← st]
      by_cases g : D.go i = true
      · rw [if_neg (by rw [g]; decide), if_pos g]
      · have g' : D.go i = false := by simpa using g
        rw [if_pos (by rw [g']; decide), if_neg g]
theorem M_peril_loop (N : Nat) (hN : 61000 ≤ N) {D : Da} (I : DI D) {many : Nat} (hm : many ≤ 16) (μ0 : Mm) (M : DM D μ0) (hwb : ∀ x, D.ls many x = true → D.ov x = false → D.bl x = false → 0 ≤ (D.ws x).2) : ∀ (m s : Nat) (μ : Mm), M7 μ0 μ → s ≤ 2 ^ D.w → 2 ^ D.w + 1 < m + s → (∀ x, x < s → D.ls many x = true → D.ov x = false) → ∃ (μ' : Mm) (v4 v5 v6 v7 : Int32), f_M_peril_L86 N m (nI D.gB) (nI many) (zI (gF (D.ls many) D.bl (fun x => (D.ws x).2) s).1) (zI (gF (D.ls many) D.bl (fun x => (D.ws x).2) s).2) (zI (bF (D.ls many) D.bl s)) 0 (nI s) μ = f_M_peril_B215 N v4 v5 v6 v7 μ' ∧ M7 μ0 μ' ∧ ((∃ x, x < 2 ^ D.w ∧ D.ls many x = true ∧ D.ov x = true) → v7 = 1) ∧ ((∀ x, x < 2 ^ D.w → D.ls many x = true → D.ov x = false) → v7 = 0 ∧ v4 = zI (gF (D.ls many) D.bl (fun x => (D.ws x).2) (2 ^ D.w)).1 ∧ v5 = zI (gF (D.ls many) D.bl (fun x => (D.ws x).2) (2 ^ D.w)).2 ∧ v6 = zI (bF (D.ls many) D.bl (2 ^ D.w))) := by
  have w8 := I.w8
  have hb := gB_lt I
  have n16 := I.g.n16
  have w256 : 2 ^ D.w ≤ 256 := (show 2 ^ D.w ≤ 2 ^ 8 from Nat.pow_le_pow_right (by decide) w8)
  intro m
  induction m with
  | zero => intro s μ _ h1 h2; omega
  | succ m ih =>
    intro s μ hM h1 h2 h0
    have Mμ := hM.dm M
    have bfb := bF_ge (ls := D.ls many) (bl := D.bl) s
    have gst := gF_s (D.ls many) D.bl (fun x => (D.ws x).2) s
    have bst := bF_s (D.ls many) D.bl s
    have next := ih (s + 1)
    rw [f_M_peril_L86, Mμ.w, shl1 (by omega)]
    by_cases c : s = 2 ^ D.w
    · rw [if_pos (by rw [c]; exact nI_le (Nat.le_refl _) (by omega))]
      refine ⟨μ, _, _, _, _, rfl, hM, fun ⟨x, x1, x2, x3⟩ => ?_, fun _ => by rw [c]; exact ⟨rfl, rfl, rfl, rfl⟩⟩
      rw [h0 x (by omega) x2] at x3
      cases x3
    · have al : anN s D.gB < 256 := anN_lt (n := 8) (show s < 2 ^ 8 by omega)
      have ib : D.ls many s = (decide (anN s D.gB = 0) && decide (cnt (fun i => s.testBit i) 16 = many)) := rfl
      have cl := cnt_le (fun i => s.testBit i) 16
      rw [if_neg (nI_ge (by omega) (by omega)), if_pos rfl, notN (by omega) (by omega), M_bitsOf_eq N (by omega) (by omega)]
      unfold f_M_peril_B209
      simp only [nI_1, nI_add, bnS]
      have skip : D.ls many s = false → ∃ (μ' : Mm) (v4 v5 v6 v7 : Int32), f_M_peril_L86 N m (nI D.gB) (nI many) (zI (gF (D.ls many) D.bl (fun x => (D.ws x).2) s).1) (zI (gF (D.ls many) D.bl (fun x => (D.ws x).2) s).2) (zI (bF (D.ls many) D.bl s)) 0 (nI (s + 1)) μ = f_M_peril_B215 N v4 v5 v6 v7 μ' ∧ M7 μ0 μ' ∧ ((∃ x, x < 2 ^ D.w ∧ D.ls many x = true ∧ D.ov x = true) → v7 = 1) ∧ ((∀ x, x < 2 ^ D.w → D.ls many x = true → D.ov x = false) → v7 = 0 ∧ v4 = zI (gF (D.ls many) D.bl (fun x => (D.ws x).2) (2 ^ D.w)).1 ∧ v5 = zI (gF (D.ls many) D.bl (fun x => (D.ws x).2) (2 ^ D.w)).2 ∧ v6 = zI (bF (D.ls many) D.bl (2 ^ D.w))) := fun d => by
        rw [if_neg (by rw [d]; simp)] at gst bst
        have := next μ hM (by omega) (by omega) (fun x hx hl => by
          by_cases e : x = s
          · subst e; rw [d] at hl; cases hl
          · exact h0 x (by omega) hl)
        rw [gst, bst] at this
        exact this
      by_cases c1 : anN s D.gB = 0
      · rw [if_pos (by rw [c1]; rfl)]
        by_cases c2 : cnt (fun i => s.testBit i) 16 = many
        · have d : D.ls many s = true := by rw [ib, decide_eq_true c1, decide_eq_true c2]; rfl
          rw [if_pos (by rw [c2])]
          have M1 : M7 μ0 (sI μ 0 27 (nI s)) := hM.trans (M7.set μ (nI s))
          have e27 : (sI μ 0 27 (nI s)).1 0 27 = nI s := by rw [sI_at, upd_eq]
          rcases M_laySeen_eq N hN I (L := s) (by omega) (sI μ 0 27 (nI s)) (M1.dm M) e27 with ⟨q1, μ2, r1, r2⟩ | ⟨q1, μ2, r1, r2, r3, _, r4⟩
          · rw [r1, bnS, if_pos rfl]
            unfold f_M_peril_B138 f_M_peril_B209
            simp only [nI_1, nI_add]
            rw [if_neg (by decide)]
            have dsp : D.ov s = true := decide_eq_true q1
            obtain ⟨m, rfl⟩ : ∃ m', m = m' + 1 := ⟨m - 1, by omega⟩
            have fin : f_M_peril_L86 N (m + 1) (nI D.gB) (nI many) (zI (gF (D.ls many) D.bl (fun x => (D.ws x).2) s).1) (zI (gF (D.ls many) D.bl (fun x => (D.ws x).2) s).2) (zI (bF (D.ls many) D.bl s)) 1 (nI (s + 1)) μ2 = f_M_peril_B215 N (zI (gF (D.ls many) D.bl (fun x => (D.ws x).2) s).1) (zI (gF (D.ls many) D.bl (fun x => (D.ws x).2) s).2) (zI (bF (D.ls many) D.bl s)) 1 μ2 := by
              rw [f_M_peril_L86]
              split
              · rfl
              · rw [if_neg (by decide)]
            rw [fin]
            exact ⟨μ2, _, _, _, _, rfl, M1.trans r2.m7, fun _ => rfl, fun h => by have := h s (by omega) d; rw [dsp] at this; cases this⟩
          · have dsp : D.ov s = false := decide_eq_false (by omega)
            have j1 := Da.jn_pos I D.w (S := D.goL s) (Nat.le_refl _) (fun y _ q => goL_go q)
            obtain ⟨μ4, t1, t2, t3, t4⟩ := M_layWorst_eq N hN I (fun x => D.sa (D.goL s) (x : Int) D.w) (D.sq (D.goL s)) j1 q1 (fun p t => sq_mod q1 p t) μ2 (r2.dm (M1.dm M)) r3 (fun x hx => ⟨r4 x hx, D.sa_lt I.g _ _ _⟩)
            have t4' : μ4.1 0 37 = zI (D.ws s).2 := t4
            have M4 : M7 μ0 μ4 := (M1.trans r2.m7).trans t2.mfr.m7
            have nx := next μ4 M4 (by omega) (by omega) (fun x hx hl => by
              by_cases e : x = s
              · subst e; exact dsp
              · exact h0 x (by omega) hl)
            have wb2 : -81 ≤ (D.ws s).2 ∧ (D.ws s).2 ≤ 129600 := by
              unfold Da.ws
              rcases wsF_b (wor := D.wor) (lv := fun p => rL (D.sq (D.goL s) p) (D.jn (D.goL s) D.w)) n16 (fun p hp => I.wor p hp) (fun p _ => ⟨(rL_b _ j1 q1).1, (rL_b _ j1 q1).2.1⟩) D.n (Nat.le_refl _) with q | q
              · omega
              · rw [q]; decide
            have gbl : ∀ z, (gF (D.ls many) D.bl (fun x => (D.ws x).2) z).1 = -9 ∨ 0 ≤ (gF (D.ls many) D.bl (fun x => (D.ws x).2) z).1 := fun z => by
              induction z with
              | zero => left; rfl
              | succ z ih =>
                rw [gF_s]
                split
                · right; simp only []; omega
                · exact ih
            have gb1 : (gF (D.ls many) D.bl (fun x => (D.ws x).2) s).1 < 256 ∧ -81 ≤ (gF (D.ls many) D.bl (fun x => (D.ws x).2) s).2 ∧ (gF (D.ls many) D.bl (fun x => (D.ws x).2) s).2 ≤ 129600 := by
              have : ∀ z, z ≤ s → (gF (D.ls many) D.bl (fun x => (D.ws x).2) z).1 < 256 ∧ -81 ≤ (gF (D.ls many) D.bl (fun x => (D.ws x).2) z).2 ∧ (gF (D.ls many) D.bl (fun x => (D.ws x).2) z).2 ≤ 129600 := fun z => by
                induction z with
                | zero => intro _; exact ⟨show (-9 : Int) < 256 by decide, show (-81 : Int) ≤ 0 by decide, show (0 : Int) ≤ 129600 by decide⟩
                | succ z ih =>
                  intro hz
                  rw [gF_s]
                  split
                  · rename_i cc
                    have zz := h0 z (by omega) cc.1
                    have zz' := of_decide_eq_false zz
                    have z1 := Da.jn_pos I D.w (S := D.goL z) (Nat.le_refl _) (fun y _ q => goL_go q)
                    refine ⟨by simp only []; omega, ?_⟩
                    show -81 ≤ (D.ws z).2 ∧ (D.ws z).2 ≤ 129600
                    unfold Da.ws
                    rcases wsF_b (wor := D.wor) (lv := fun p => rL (D.sq (D.goL z) p) (D.jn (D.goL z) D.w)) n16 (fun p hp => I.wor p hp) (fun p _ => ⟨(rL_b _ z1 (by omega)).1, (rL_b _ z1 (by omega)).2.1⟩) D.n (Nat.le_refl _) with q | q
                    · omega
                    · rw [q]; decide
                  · exact ih (by omega)
              exact this s (Nat.le_refl _)
            have gbs := gbl s
            rw [r1, bnS, if_neg (by decide)]
            unfold f_M_peril_B138 f_M_peril_B170 f_M_peril_B172 f_M_peril_B199 f_M_peril_B209
            simp only [nI_1, nI_add]
            rw [if_pos trivial, t1, bvS, t4']
            have e37 : zI (D.ws s).2 = (-9 : Int32) ↔ D.bl s = true := by
              unfold Da.bl
              rw [decide_eq_true_eq]
              exact zI_eq (a := (D.ws s).2) (b := -9) (by omega) (by omega) (by decide) (by decide)
            have ebf : zI (bF (D.ls many) D.bl s) = (-9 : Int32) ↔ bF (D.ls many) D.bl s = -9 := zI_eq (b := -9) (by omega) (by omega) (by decide) (by decide)
            have egf : zI (gF (D.ls many) D.bl (fun x => (D.ws x).2) s).1 = (-9 : Int32) ↔ (gF (D.ls many) D.bl (fun x => (D.ws x).2) s).1 = -9 := zI_eq (b := -9) (by omega) (by omega) (by decide) (by decide)
            cases bl : D.bl s with
            | true =>
              have x37 := e37.mpr bl
              rw [if_neg (by rw [bl]; simp)] at gst
              rw [gst] at nx
              rw [if_pos x37, if_pos x37, if_pos x37]
              by_cases y : bF (D.ls many) D.bl s = -9
              · rw [if_pos ⟨y, d, bl⟩] at bst
                rw [if_pos (ebf.mpr y)]
                rw [bst] at nx
                exact nx
              · rw [if_neg (fun q => y q.1)] at bst
                rw [if_neg (fun q => y (ebf.mp q))]
                rw [bst] at nx
                exact nx
            | false =>
              have x37 : ¬ zI (D.ws s).2 = (-9 : Int32) := fun q => by have := e37.mp q; rw [bl] at this; cases this
              rw [if_neg (by rw [bl]; simp)] at bst
              rw [bst] at nx
              rw [if_neg x37, if_neg x37, ite_self]
              by_cases y : (gF (D.ls many) D.bl (fun x => (D.ws x).2) s).1 = -9
              · rw [if_pos ⟨d, bl, Or.inl y⟩] at gst
                rw [if_pos (egf.mpr y)]
                rw [gst] at nx
                exact nx
              · rw [if_neg (fun q => y (egf.mp q))]
                have le : zI (D.ws s).2 ≤ zI (gF (D.ls many) D.bl (fun x => (D.ws x).2) s).2 ↔ ¬ (gF (D.ls many) D.bl (fun x => (D.ws x).2) s).2 < (D.ws s).2 := by
                  rw [le_I, zI_toInt (by omega) (by omega), zI_toInt (by omega) (by omega)]
                  omega
                by_cases z : (gF (D.ls many) D.bl (fun x => (D.ws x).2) s).2 < (D.ws s).2
                · rw [if_pos ⟨d, bl, Or.inr z⟩] at gst
                  rw [if_neg (fun q => (le.mp q) z)]
                  rw [gst] at nx
                  exact nx
                · rw [if_neg (fun q => q.2.2.elim y z)] at gst
                  rw [if_pos (le.mpr z)]
                  rw [gst] at nx
                  exact nx
        · rw [if_neg (fun q => c2 ((nI_eq (by omega) (by omega)).mp q))]
          exact skip (by rw [ib, decide_eq_false c2, Bool.and_false])
      · rw [if_neg (nI_ne0 (by omega) (by omega))]
        exact skip (by rw [ib, decide_eq_false c1]; rfl)
/-- there are always enough to lose -/
theorem cnt_first (p : Nat → Bool) (m : Nat) : ∀ n, cnt (fun i => p i && decide (cnt p i < m)) n = min m (cnt p n)
  | 0 => by unfold cnt; omega
  | n + 1 => by
    have ih := cnt_first p m n
    show cnt (fun i => p i && decide (cnt p i < m)) n + (if (p n && decide (cnt p n < m)) = true then 1 else 0) = min m (cnt p n + (if p n = true then 1 else 0))
    rw [ih]
    cases p n with
    | false => simp
    | true =>
      simp only [Bool.true_and, decide_eq_true_eq, if_true]
      split <;> omega
theorem loss_ex {D : Da} (I : DI D) {many : Nat} (hm : many ≤ cnt (fun i => D.gB.testBit i) 16) : ∃ x, x ≤ D.gB ∧ D.ls many x = true := by
  have hb := gB_lt I
  have xl := bsN_lt (fun i => D.gB.testBit i && decide (cnt (fun i => D.gB.testBit i) i < many)) 16
  have tb : ∀ i, (bsN (fun i => D.gB.testBit i && decide (cnt (fun i => D.gB.testBit i) i < many)) 16).testBit i = (decide (i < 16) && (D.gB.testBit i && decide (cnt (fun i => D.gB.testBit i) i < many))) := fun i => bsN_tb _ i 16
  have a0 : anN (bsN (fun i => D.gB.testBit i && decide (cnt (fun i => D.gB.testBit i) i < many)) 16) D.gB = 0 := by
    apply Nat.eq_of_testBit_eq
    intro i
    rw [anN_tb, tb, Nat.zero_testBit]
    cases D.gB.testBit i <;> simp
  refine ⟨_, sub_le xl a0, ?_⟩
  unfold Da.ls
  rw [decide_eq_true a0, Bool.true_and, decide_eq_true_eq]
  rw [cnt_ext (q := fun i => D.gB.testBit i && decide (cnt (fun i => D.gB.testBit i) i < many)) 16 (fun i hi => by
    show (bsN _ 16).testBit i = _
    rw [tb, decide_eq_true hi, Bool.true_and]), cnt_first]
  show min many (cnt (fun i => D.gB.testBit i) 16) = many
  omega
theorem sm_peril {TK} (N : Nat) (hN : 61000 ≤ N) : Sm_peril (Rel (RCv TK)) N := by
  have hR := RCv_ok TK
  intro k hk a1 μx μm h
  have hnx := h.next hR
  unfold f_W_peril f_M_peril
  rw [f_M_in_eq, bnS, if01, show (0 : Int32).toInt = 0 from rfl, show (3 : Int32).toInt = 3 from rfl]
  by_cases c : 0 ≤ a1.toInt ∧ a1.toInt ≤ 3
  · obtain ⟨z, hz, rfl⟩ := row_of (x := a1) 4 ⟨c.1, by omega⟩
    rw [if_pos c, if_neg (show ¬ nI z < (0 : Int32) by rw [lt_I, tI (by omega), show (0 : Int32).toInt = 0 from rfl]; omega), if_pos (show nI z ≤ (3 : Int32) from (nIc (b := 3) (by omega) (by decide)).mpr (by omega))]
    obtain ⟨μ1, D, e, h1, I, X, M, C⟩ := h.fresh hk N (by omega)
    have w8 := I.w8
    have hb := gB_lt I
    have e27 : μm.1 0 27 = 0 := h1.2.2.2.2.2.1
    have w256 : 2 ^ D.w ≤ 256 := (show 2 ^ D.w ≤ 2 ^ 8 from Nat.pow_le_pow_right (by decide) w8)
    have gw : D.gB < 2 ^ D.w := bsN_lt _ _
    have M7s := M7.set μm (0 : Int32)
    have e27' : (sI μm 0 27 0).1 0 27 = 0 := by rw [sI_at, upd_eq]
    have lp := M_able_loop N (by omega) I (nI z) (sI μm 0 27 0) (M7s.dm M) e27' N 0 (by omega) (by omega)
    rw [show nI (bsN D.go 0) = (0 : Int32) from rfl, show nI 0 = (0 : Int32) from rfl] at lp
    rw [e, bvS, C.1, show bsN D.go D.w = D.gB from rfl]
    simp only []
    rw [lp]
    unfold f_M_peril_B52
    have cl := cnt_le (fun i => D.gB.testBit i) 16
    rw [bitCount_eq N (by omega), bnS, Jmin, bnS, M_bitsOf_eq N (by omega) hb, bnS, M_bitsOf_eq N (by omega) hb, bnS]
    generalize hmany : (if z ≤ cnt (fun i => D.gB.testBit i) 16 then z else cnt (fun i => D.gB.testBit i) 16) = many
    have hm1 : many ≤ cnt (fun i => D.gB.testBit i) 16 := by rw [← hmany]; split <;> omega
    have hm : many ≤ 16 := by omega
    have mx : (if (nI z).toInt ≤ (nI (cnt (fun i => D.gB.testBit i) 16)).toInt then nI z else nI (cnt (fun i => D.gB.testBit i) 16)) = nI many := by
      rw [tI (by omega), tI (by omega), ← hmany]
      by_cases y : z ≤ cnt (fun i => D.gB.testBit i) 16
      · rw [if_pos (by omega), if_pos y]
      · rw [if_neg (by omega), if_neg y]
    have mm : (if nI z ≤ nI (cnt (fun i => D.gB.testBit i) 16) then f_M_peril_B68 N (nI D.gB) (nI z) (sI μm 0 27 0) else f_M_peril_B68 N (nI D.gB) (nI (cnt (fun i => D.gB.testBit i) 16)) (sI μm 0 27 0)) = f_M_peril_B68 N (nI D.gB) (nI many) (sI μm 0 27 0) := by
      rw [← hmany]
      by_cases y : z ≤ cnt (fun i => D.gB.testBit i) 16
      · rw [if_pos (nI_le y (by omega)), if_pos y]
      · rw [if_neg (nI_ge (by omega) (by omega)), if_neg y]
    rw [mx, mm]
    have hwb : ∀ x, D.ls many x = true → D.ov x = false → D.bl x = false → 0 ≤ (D.ws x).2 := fun x hl ho hbx => by
      have hj : D.jn (D.goL x) D.w ≤ 14400 := by
        have := of_decide_eq_false ho
        omega
      obtain ⟨μ', _, _, L⟩ := look_L N hN I hj μ1 X C
      have lb := LA_blind I hj L
      exact lb.2 (lb.1.mpr hbx)
    obtain ⟨μ2, v4, v5, v6, v7, p1, p2, p3, p4⟩ := M_peril_loop N hN I hm μm M hwb N 0 (sI μm 0 27 0) M7s (by omega) (by omega) (fun x hx => by omega)
    have p1' : f_M_peril_B68 N (nI D.gB) (nI many) (sI μm 0 27 0) = f_M_peril_B215 N v4 v5 v6 v7 μ2 := p1
    rw [p1']
    have mb := p2.back e27
    obtain ⟨r, s1, s2⟩ := W_spent_loop N (by omega) I hm μ1 X C N 0 (by omega) (by omega) (fun x hx => by omega)
    have s1' : f_W_isSpentWithAny N (nI D.gB) (nI many) μ1 = some (b2 r, μ1) := s1
    rw [s1', bnS]
    have lsw : ∀ x, D.ls many x = true → x ≤ D.gB := fun x hl => by
      unfold Da.ls at hl
      rw [Bool.and_eq_true] at hl
      exact sub_le (n := x) Nat.lt_two_pow_self (of_decide_eq_true hl.1)
    unfold f_M_peril_B215
    simp only []
    cases r with
    | true =>
      obtain ⟨x, x1, x2, x3⟩ := s2.mp rfl
      rw [if_neg (by decide), p3 ⟨x, by omega, x2, x3⟩, if_neg (by decide)]
      exact ⟨_, _, _, rfl, rfl, (h1.mfr mb).next hR⟩
    | false =>
      have nos : ∀ x, D.ls many x = true → D.ov x = false := fun x hl => by
        cases q : D.ov x with
        | false => rfl
        | true =>
          have := s2.mpr ⟨x, lsw x hl, hl, q⟩
          cases this
      obtain ⟨q7, q4, q5, q6⟩ := p4 (fun x _ hl => nos x hl)
      have lsF : ∀ x, D.gB + 1 ≤ x → x < D.gB + 1 + (2 ^ D.w - (D.gB + 1)) → D.ls many x = false := fun x a b => by
        cases q : D.ls many x with
        | false => rfl
        | true => have := lsw x q; omega
      have bW : bF (D.ls many) D.bl (2 ^ D.w) = bF (D.ls many) D.bl (D.gB + 1) := by
        have := bF_no (ls := D.ls many) (bl := D.bl) (s := D.gB + 1) (2 ^ D.w - (D.gB + 1)) lsF
        rw [show D.gB + 1 + (2 ^ D.w - (D.gB + 1)) = 2 ^ D.w by omega] at this
        exact this
      have gW : gF (D.ls many) D.bl (fun x => (D.ws x).2) (2 ^ D.w) = gF (D.ls many) D.bl (fun x => (D.ws x).2) (D.gB + 1) := by
        have := gF_no (ls := D.ls many) (bl := D.bl) (ld := fun x => (D.ws x).2) (s := D.gB + 1) (2 ^ D.w - (D.gB + 1)) lsF
        rw [show D.gB + 1 + (2 ^ D.w - (D.gB + 1)) = 2 ^ D.w by omega] at this
        exact this
      have bl0 := W_blind_loop N hN I hm μ1 X C (fun x _ hl => nos x hl) N 0 (by omega) (by omega) rfl
      have bl1 : f_W_firstBlindSet N (nI D.gB) (nI many) μ1 = some (zI (bF (D.ls many) D.bl (D.gB + 1)), μ1) := by
        unfold f_W_firstBlindSet
        rw [Gr_worthy_eq N (by omega) I μ1 X, bnS]
        exact bl0
      rw [if_pos (by decide), bl1, bnS, q7, if_pos rfl, q6, bW]
      unfold f_M_tells
      rcases bF_ge (ls := D.ls many) (bl := D.bl) (D.gB + 1) with y | y
      · rw [y, if_pos (by decide), if_pos (by decide)]
        have nob : ∀ x, x ≤ D.gB → D.ls many x = true → D.bl x = false := fun x hx hl => by
          cases q : D.bl x with
          | false => rfl
          | true =>
            exfalso
            have z1 := bF_s (D.ls many) D.bl x
            have kp : ∀ s, s ≤ D.gB + 1 → bF (D.ls many) D.bl s = -9 := fun s hs => by
              rcases bF_ge (ls := D.ls many) (bl := D.bl) s with w | w
              · exact w
              · have := bF_keep (ls := D.ls many) (bl := D.bl) (s := s) (by omega) (D.gB + 1 - s)
                rw [show s + (D.gB + 1 - s) = D.gB + 1 by omega, y] at this
                omega
            rw [if_pos ⟨kp x (by omega), hl, q⟩, kp (x + 1) (by omega)] at z1
            omega
        obtain ⟨x, x1, x2⟩ := loss_ex I hm1
        have hit := gF_hit (ls := D.ls many) (bl := D.bl) (ld := fun x => (D.ws x).2) x2 (nob x x1 x2) (D.gB + 1) (by omega)
        have id2 : XFr (sI μ1 1 2 (μ1.1 1 2)) μ1 := by
          refine ⟨fun c hc => ?_, rfl⟩
          by_cases e : c = 1
          · subst e
            rw [sI_at]
            funext y
            rw [upd_at]
            split
            · rename_i w; rw [w]
            · rfl
          · rw [sI_ne _ _ _ e]
        obtain ⟨μ3, v', g1, g2, g3⟩ := W_great_loop N hN I hm μ1 X C (fun x _ hl => nos x hl) nob N 0 (μ1.1 1 2) μ1 (by omega) (by omega) id2 (fun q => absurd q (show ¬ (0 : Int) ≤ -9 by decide))
        have g1' : f_W_tellGreatestLoad N (nI D.gB) (nI many) μ1 = some (zI (gF (D.ls many) D.bl (fun x => (D.ws x).2) (D.gB + 1)).2, μ3) := by
          unfold f_W_tellGreatestLoad
          rw [Gr_worthy_eq N (by omega) I μ1 X, bnS]
          rw [if_neg (show ¬ (gF (D.ls many) D.bl (fun x => (D.ws x).2) (D.gB + 1)).1 = -9 by omega)] at g1
          exact g1
        rw [g1', q4, q5, gW]
        simp only [bnS]
        have vv := g3 hit.2
        rw [vv] at g2
        exact ⟨_, _, _, rfl, rfl, (((h1.mfr mb).asks hR _).xfr hR g2).next hR⟩
      · have zb : zI (bF (D.ls many) D.bl (D.gB + 1)) = nI (bF (D.ls many) D.bl (D.gB + 1)).toNat := by
          rw [zI_n, Int.toNat_of_nonneg y.1]
        rw [if_neg (show ¬ zI (bF (D.ls many) D.bl (D.gB + 1)) < (0 : Int32) from fun q => by
          rw [lt_I, zI_toInt (by omega) (by omega), show (0 : Int32).toInt = 0 from rfl] at q
          omega), if_neg (show ¬ zI (bF (D.ls many) D.bl (D.gB + 1)) = (-9 : Int32) from fun q => by
          rw [eq_I, zI_toInt (by omega) (by omega), show (-9 : Int32).toInt = -9 from rfl] at q
          omega)]
        simp only [bnS]
        exact ⟨_, _, _, rfl, rfl, ((h1.mfr mb).asks hR _).next hR⟩
  · rw [if_neg c]
    clear h
    repeat' split
    all_goals first | exact ⟨_, _, _, rfl, rfl, hnx⟩ | (exfalso; simp only [lt_I, le_I, eq_I, Int32.reduceToInt] at *; omega)
