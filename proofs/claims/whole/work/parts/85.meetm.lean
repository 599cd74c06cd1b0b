/-! PURE 65: the reference finds two at one place -/
theorem pz_next {D : Da} (I : DI D) {j : Nat} (hj : j < D.w) (g : D.go j = true) {t : Nat} (h : D.mv j t = true) : D.pz j (((t + 1 : Nat) : Int) * 27720) = if (D.gn' j t + 1) * D.sp j = 60 * D.wn (D.wa j t) (D.wb j t) then (D.wb j t, D.wb j t, 0) else wlP (D.wa j t) (D.wb j t) ((D.gn' j t + 1) * D.sp j * 27720) (60 * D.wn (D.wa j t) (D.wb j t) * 27720) := by
  obtain ⟨hk, a, ne, wan, wbn, bd, pe⟩ := mv_ok I hj g h
  obtain ⟨_, b, d⟩ := I.hl_spec hj g hk t
  have s1 := I.sp j hj
  have cs : D.cm j (D.hl j t + 1) = D.cm j (D.hl j t) + (D.pr j (D.hl j t) + D.un j * D.ln j (D.hl j t)) := rfl
  have cmm := D.cm_mono j (show D.hl j t + 1 ≤ D.sz j by omega)
  have per := D.per_cm (j := j) hk
  have lw : D.wn (D.wa j t) (D.wb j t) = D.ln j (D.hl j t) := rfl
  have nl : nx (D.sz j) (D.hl j t) < D.sz j := by unfold nx; split <;> omega
  have u60 : D.un j * D.ln j (D.hl j t) * D.sp j = 60 * D.ln j (D.hl j t) := by rw [Nat.mul_right_comm, sp60 I hj hk]
  have iff : (D.gn' j t + 1) * D.sp j = 60 * D.ln j (D.hl j t) ↔ D.gn' j t + 1 = D.un j * D.ln j (D.hl j t) := by
    rw [← u60]
    constructor
    · intro q
      exact Nat.eq_of_mul_eq_mul_right (by omega) q
    · intro q; rw [q]
  have p1 := I.ph_add hj g t 1
  have p1' : D.ph j ((t + 1 : Nat) : Int) = (D.ph j t + 1) % D.per j := by
    rw [← p1]
    congr 1
  obtain ⟨z1, z2, z3⟩ := pz_int I hj g (t + 1)
  rw [z1, lw]
  by_cases c : D.gn' j t + 1 = D.un j * D.ln j (D.hl j t)
  · rw [if_pos (iff.mpr c)]
    have e : D.ph j t + 1 = D.cm j (D.hl j t + 1) := by omega
    have pn : D.ph j ((t + 1 : Nat) : Int) = D.cm j (nx (D.sz j) (D.hl j t)) := by
      rw [p1', e]
      unfold nx
      by_cases q : D.hl j t + 1 < D.sz j
      · rw [if_pos q]
        have lp := I.lt_pos hj g hk q
        have c2 : D.cm j (D.hl j t + 1 + 1) = D.cm j (D.hl j t + 1) + D.lt j (D.hl j t + 1) := rfl
        have := D.cm_mono j (show D.hl j t + 1 + 1 ≤ D.sz j by omega)
        rw [Nat.mod_eq_of_lt (by omega)]
      · rw [if_neg q, show D.hl j t + 1 = D.sz j by omega, ← per, Nat.mod_self]; rfl
    have ln : D.hl j ((t + 1 : Nat) : Int) = nx (D.sz j) (D.hl j t) := by
      show D.lf j (D.ph j ((t + 1 : Nat) : Int)) = _
      rw [pn]
      have lp := I.lt_pos hj g hk nl
      exact Da.lf_one nl (Nat.le_refl _) (by show _ < D.cm j (nx (D.sz j) (D.hl j t)) + D.lt j (nx (D.sz j) (D.hl j t)); omega)
    have r : D.hr j ((t + 1 : Nat) : Int) = true := by
      unfold Da.hr
      rw [ln, pn, decide_eq_true (show D.cm j (nx (D.sz j) (D.hl j t)) ≤ D.cm j (nx (D.sz j) (D.hl j t)) + D.pr j (nx (D.sz j) (D.hl j t)) by omega), Bool.or_true]
    have h0 : D.hg j ((t + 1 : Nat) : Int) = 0 := by unfold Da.hg; rw [if_pos r]
    have hp : D.hp j ((t + 1 : Nat) : Int) = D.wb j t := by unfold Da.hp; rw [if_neg hk, ln]; rfl
    rw [if_pos h0, hp]
  · rw [if_neg (fun q => c (iff.mp q))]
    have bd2 : D.gn' j t + 1 ≤ D.un j * D.ln j (D.hl j t) := by
      rw [← u60] at bd
      exact Nat.le_of_mul_le_mul_right bd (by omega)
    have e : D.ph j ((t + 1 : Nat) : Int) = D.ph j t + 1 := by rw [p1', Nat.mod_eq_of_lt (by omega)]
    have l1 : D.hl j ((t + 1 : Nat) : Int) = D.hl j t := by
      show D.lf j (D.ph j ((t + 1 : Nat) : Int)) = D.hl j t
      rw [e]
      exact Da.lf_one a (by omega) (by omega)
    have r1 : ¬ D.hr j ((t + 1 : Nat) : Int) = true := by
      unfold Da.hr
      rw [l1, e, decide_eq_false hk, decide_eq_false (show ¬ D.ph j t + 1 ≤ D.cm j (D.hl j t) + D.pr j (D.hl j t) by omega)]; decide
    have hg : D.hg j ((t + 1 : Nat) : Int) = D.gn' j t + 1 := by unfold Da.hg; rw [if_neg r1, l1, e]; omega
    have hp : D.hp j ((t + 1 : Nat) : Int) = D.wa j t := by unfold Da.hp; rw [if_neg hk, l1]; rfl
    have hn : D.hn j ((t + 1 : Nat) : Int) = D.wb j t := by unfold Da.hn; rw [if_neg hk, if_neg r1, l1]; rfl
    rw [if_neg (by omega), hg, hp, hn, lw]
theorem oq_same {D : Da} (I : DI D) {a b : Nat} (ha : a < D.w) (hb : b < D.w) (ga : D.go a = true) (gb : D.go b = true) {t : Nat} (ma : D.mv a t = true) (mb : D.mv b t = true) (hs : D.sw a b t) (h0 : D.nw a b t = 0) (h1 : D.tn a b t = 0) : D.wa a t = D.wa b t ∧ D.wb a t = D.wb b t ∧ D.gn' a t = D.gn' b t ∧ D.sp a = D.sp b := by
  have n16 := I.g.n16
  obtain ⟨ka, _, nea, a1, a2, ba, _⟩ := mv_ok I ha ga ma
  obtain ⟨kb, _, neb, b1, b2, bb, _⟩ := mv_ok I hb gb mb
  have sa := I.sp a ha
  have sb := I.sp b hb
  have ev : D.vv a t = D.vv b t := by unfold Da.nw at h0; unfold Da.tn at h1; omega
  have ez : D.zz a t = D.zz b t := by unfold Da.nw at h0; omega
  obtain ⟨s1, s2⟩ := hs
  have la : D.ln a (D.hl a t) = D.wn (D.wa a t) (D.wb a t) := rfl
  have lb : D.ln b (D.hl b t) = D.wn (D.wa b t) (D.wb b t) := rfl
  unfold Da.vv at ev
  unfold Da.zz at ez
  by_cases ca : D.wa a t < D.wb a t
  · by_cases cb : D.wa b t < D.wb b t
    · rw [if_pos ca, if_pos cb] at ev ez
      have e1 : D.wa a t = D.wa b t := by omega
      have e2 : D.wb a t = D.wb b t := by omega
      have e3 : D.sp a = D.sp b := by omega
      refine ⟨e1, e2, ?_, e3⟩
      have : D.gn' a t * D.sp a = D.gn' b t * D.sp a := by
        rw [← e3, ← Int.natCast_mul, ← Int.natCast_mul] at ez
        omega
      exact Nat.eq_of_mul_eq_mul_right (by omega) this
    · rw [if_pos ca, if_neg cb] at ev
      omega
  · by_cases cb : D.wa b t < D.wb b t
    · rw [if_neg ca, if_pos cb] at ev
      omega
    · rw [if_neg ca, if_neg cb] at ev ez
      have e1 : D.wa a t = D.wa b t := by omega
      have e2 : D.wb a t = D.wb b t := by omega
      have e3 : D.sp a = D.sp b := by omega
      refine ⟨e1, e2, ?_, e3⟩
      rw [la, lb, e1, e2] at ez
      have : D.gn' a t * D.sp a = D.gn' b t * D.sp a := by
        rw [← e3, ← Int.natCast_mul, ← Int.natCast_mul] at ez
        omega
      exact Nat.eq_of_mul_eq_mul_right (by omega) this
theorem oq_ends {D : Da} (I : DI D) {a b : Nat} (ha : a < D.w) (hb : b < D.w) (ga : D.go a = true) (gb : D.go b = true) {t : Nat} (h : D.oq a b t) : D.pz a ((t : Int) * 27720) = D.pz b ((t : Int) * 27720) ∧ D.pz a (((t + 1 : Nat) : Int) * 27720) = D.pz b (((t + 1 : Nat) : Int) * 27720) := by
  rcases h with ⟨ma, mb, e⟩ | ⟨ma, mb, hs, h0, h1⟩
  · obtain ⟨p1, p2, p3, p4, p5⟩ := pz_rest I ha ga (t := t) (f := 0) (by decide) ma
    obtain ⟨q1, q2, q3, q4, q5⟩ := pz_rest I hb gb (t := t) (f := 0) (by decide) mb
    refine ⟨?_, ?_⟩
    · rw [show (t : Int) * 27720 + ((0 : Nat) : Int) = (t : Int) * 27720 by omega] at p1 q1
      rw [p1, q1, e]
    · have z := (pz_int I ha ga (t + 1)).1
      have y := (pz_int I hb gb (t + 1)).1
      have c1 : ((t + 1 : Nat) : Int) = (t : Int) + 1 := by omega
      rw [z, y, c1, p2, p3, q2, q3, e, if_pos rfl, if_pos rfl]
  · obtain ⟨e1, e2, e3, e4⟩ := oq_same I ha hb ga gb ma mb hs h0 h1
    refine ⟨?_, ?_⟩
    · obtain ⟨x1, x2, x3, _⟩ := hg_walk I ha ga ma
      obtain ⟨y1, y2, y3, _⟩ := hg_walk I hb gb mb
      rw [(pz_int I ha ga t).1, (pz_int I hb gb t).1, x1, x2, x3, y1, y2, y3, e1, e2, e3, e4]
    · rw [pz_next I ha ga ma, pz_next I hb gb mb, e1, e2, e3, e4]
/-- what these searches write: fields 28 to 30, 38 to 43 -/
def KFr (μ μ' : Mm) : Prop := (∀ c, c ≠ 0 → μ'.1 c = μ.1 c) ∧ (∀ f, f < 28 ∨ (30 < f ∧ f < 38) ∨ 43 < f → μ'.1 0 f = μ.1 0 f) ∧ μ'.2 = μ.2
theorem KFr.refl (μ : Mm) : KFr μ μ := ⟨fun _ _ => rfl, fun _ _ => rfl, rfl⟩
theorem KFr.trans {μ μ' μ'' : Mm} (a : KFr μ μ') (b : KFr μ' μ'') : KFr μ μ'' := ⟨fun c h => (b.1 c h).trans (a.1 c h), fun f h => (b.2.1 f h).trans (a.2.1 f h), b.2.2.trans a.2.2⟩
theorem FFr.kfr {μ μ' : Mm} (a : FFr μ μ') : KFr μ μ' := ⟨a.1, fun f h => a.2.1 f (by omega), a.2.2⟩
theorem KFr.fld {f : Nat} (h : 38 ≤ f) (h' : f ≤ 43) (μ : Mm) (v : Int32) : KFr μ (sI μ 0 f v) := ⟨fun c hc => sI_ne _ _ _ hc, fun g hg => by rw [sI_at, upd_ne _ _ (by omega)], rfl⟩
theorem KFr.mfr {μ μ' : Mm} (a : KFr μ μ') : MFr μ μ' := ⟨fun f h => a.2.1 f (by omega), fun c h => a.1 c (by omega), fun f _ => by rw [a.2.2]⟩
theorem M_together_eq (N : Nat) (hN : 30 ≤ N) {D : Da} (I : DI D) {a b : Nat} (ha : a < D.w) (hb : b < D.w) (ga : D.go a = true) (gb : D.go b = true) {t : Nat} (ht : t < 2 ^ 29) (μ : Mm) (M : DM D μ) : ∃ μ', f_M_areTogether N (nI a) (nI b) (nI t) μ = some (b2 (decide (D.pz a ((t : Int) * 27720) = D.pz b ((t : Int) * 27720))), μ') ∧ KFr μ μ' := by
  have n16 := I.g.n16
  have w8 := I.w8
  obtain ⟨μ1, r1, r2, r3, r4, r5⟩ := M_find_eq N hN I ha ga (t := (t : Int)) (by omega) (by omega) μ M
  have M1 := r2.mfr.dm M
  obtain ⟨μ2, s1, s2, s3, s4, s5⟩ := M_find_eq N hN I hb gb (t := (t : Int)) (by omega) (by omega) μ1 M1
  have M2 := s2.mfr.dm M1
  rw [← zI_n t] at r1 s1
  unfold f_M_areTogether f_M_areTogether_B42 f_M_areTogether_B134
  rw [r1, bvS]
  simp only [r3, r4, r5]
  rw [s1, bvS]
  simp only [s3, s4, s5]
  obtain ⟨pa, pa1, pa2⟩ := pz_int I ha ga t
  obtain ⟨pb, pb1, pb2⟩ := pz_int I hb gb t
  rw [pa, pb]
  have fr : KFr μ μ2 := (r2.trans s2).kfr
  have hga : D.hg a t < 2 ^ 20 := by
    have : D.hg a t ≤ D.ph a t := by unfold Da.hg; split <;> omega
    have := I.ph_lt ha ga t
    have := (I.per1 ha ga).2
    omega
  have hgb : D.hg b t < 2 ^ 20 := by
    have : D.hg b t ≤ D.ph b t := by unfold Da.hg; split <;> omega
    have := I.ph_lt hb gb t
    have := (I.per1 hb gb).2
    omega
  have s6a := I.sp a ha
  have s6b := I.sp b hb
  by_cases za : D.hg a t = 0
  · rw [if_pos (by rw [za]; rfl), if_pos (by rw [za]; rfl), if_pos za]
    by_cases zb : D.hg b t = 0
    · rw [if_pos (by rw [zb]; rfl), if_pos zb]
      by_cases e : D.hp a t = D.hp b t
      · rw [if_pos (by rw [e]), decide_eq_true (by rw [e])]
        exact ⟨μ2, rfl, fr⟩
      · rw [if_neg (fun q => e ((nI_eq (by omega) (by omega)).mp q)), decide_eq_false (fun q => e (congrArg Prod.fst q))]
        exact ⟨μ2, rfl, fr⟩
    · rw [if_neg (nI_ne0 (by omega) (by omega)), if_neg zb, decide_eq_false (fun q => wlP_post (pb2 zb).2.1 q.symm)]
      exact ⟨μ2, rfl, fr⟩
  · rw [if_neg (nI_ne0 (by omega) (by omega)), if_neg za]
    obtain ⟨a1, a2, a3, a4⟩ := pa2 za
    by_cases zb : D.hg b t = 0
    · rw [if_pos (by rw [zb]; rfl), if_neg (nI_ne0 (by omega) (by omega)), if_pos zb, decide_eq_false (fun q => wlP_post a2 q)]
      exact ⟨μ2, rfl, fr⟩
    · obtain ⟨b1, b2', b3, b4⟩ := pb2 zb
      have xa : D.hg a t * D.sp a < 2 ^ 23 := by
        have : D.hg a t * D.sp a ≤ 2 ^ 20 * 6 := Nat.mul_le_mul (by omega) s6a.2
        omega
      have xb : D.hg b t * D.sp b < 2 ^ 23 := by
        have : D.hg b t * D.sp b ≤ 2 ^ 20 * 6 := Nat.mul_le_mul (by omega) s6b.2
        omega
      have w30 : D.wn (D.hp a t) (D.hn a t) ≤ 30 := by
        have := I.g.lb (D.hp a t) (D.hn a t) (by omega) (by omega)
        unfold Da.wn; omega
      have w5 : μ2.1 5 (16 * D.hp a t + D.hn a t) = nI (D.wn (D.hp a t) (D.hn a t)) := M2.len _ _ (by omega) (by omega)
      rw [if_neg (nI_ne0 (by omega) (by omega)), if_neg zb]
      simp only [show (16 : Int32) = nI 16 from rfl, show (60 : Int32) = nI 60 from rfl, pk_mul, nI_add, if_pos (ixb_t (show 16 * D.hp a t + D.hn a t < 256 by omega) (show 256 < 2 ^ 31 by decide)), nI_clamp (show 16 * D.hp a t + D.hn a t < 2 ^ 31 by omega), w5, if_pos (ixb_t (show a < 8 by omega) (show 8 < 2 ^ 31 by decide)), if_pos (ixb_t (show b < 8 by omega) (show 8 < 2 ^ 31 by decide)), nI_clamp (show a < 2 ^ 31 by omega), nI_clamp (show b < 2 ^ 31 by omega), M2.sp a ha, M2.sp b hb]
      have q1 : nI (D.hp a t) = nI (D.hp b t) ↔ D.hp a t = D.hp b t := nI_eq (by omega) (by omega)
      have q2 : nI (D.hn a t) = nI (D.hn b t) ↔ D.hn a t = D.hn b t := nI_eq (by omega) (by omega)
      have q3 : nI (D.hp a t) = nI (D.hn b t) ↔ D.hp a t = D.hn b t := nI_eq (by omega) (by omega)
      have q4 : nI (D.hn a t) = nI (D.hp b t) ↔ D.hn a t = D.hp b t := nI_eq (by omega) (by omega)
      by_cases e1 : D.hp a t = D.hp b t ∧ D.hn a t = D.hn b t
      · rw [if_pos (q1.mpr e1.1), if_pos (q2.mpr e1.2)]
        have we : D.wn (D.hp b t) (D.hn b t) = D.wn (D.hp a t) (D.hn a t) := by rw [e1.1, e1.2]
        rw [we] at b3 ⊢
        have key := wlP_eq (w := 60 * D.wn (D.hp a t) (D.hn a t) * 27720) (x := D.hg a t * D.sp a * 27720) (x' := D.hg b t * D.sp b * 27720) a2 b2' (by omega) (by omega)
        by_cases e3 : D.hg a t * D.sp a = D.hg b t * D.sp b
        · rw [if_pos (by rw [e3]), decide_eq_true (key.mpr (Or.inl ⟨e1.1, e1.2, by rw [e3]⟩))]
          exact ⟨μ2, rfl, fr⟩
        · rw [if_neg (fun q => e3 ((nI_eq (by omega) (by omega)).mp q)), decide_eq_false (fun q => by
            rcases key.mp q with z | z
            · omega
            · omega)]
          exact ⟨μ2, rfl, fr⟩
      · have rest : ∃ μ', (if nI (D.hp a t) = nI (D.hn b t) then if nI (D.hn a t) = nI (D.hp b t) then if nI (D.hg a t * D.sp a) = nI (60 * D.wn (D.hp a t) (D.hn a t)) - nI (D.hg b t * D.sp b) then (some (1, μ2) : Option (Int32 × Mm)) else some (0, μ2) else some (0, μ2) else some (0, μ2)) = some (b2 (decide (wlP (D.hp a t) (D.hn a t) (D.hg a t * D.sp a * 27720) (60 * D.wn (D.hp a t) (D.hn a t) * 27720) = wlP (D.hp b t) (D.hn b t) (D.hg b t * D.sp b * 27720) (60 * D.wn (D.hp b t) (D.hn b t) * 27720))), μ') ∧ KFr μ μ' := by
          by_cases e2 : D.hp a t = D.hn b t ∧ D.hn a t = D.hp b t
          · have we : D.wn (D.hp b t) (D.hn b t) = D.wn (D.hp a t) (D.hn a t) := by rw [e2.1, e2.2]; exact wn_sym I (by omega) (by omega)
            rw [we] at b3 ⊢
            have key := wlP_eq (w := 60 * D.wn (D.hp a t) (D.hn a t) * 27720) (x := D.hg a t * D.sp a * 27720) (x' := D.hg b t * D.sp b * 27720) a2 b2' (by omega) (by omega)
            rw [if_pos (q3.mpr e2.1), if_pos (q4.mpr e2.2), pk_sub (by omega)]
            by_cases e3 : D.hg a t * D.sp a = 60 * D.wn (D.hp a t) (D.hn a t) - D.hg b t * D.sp b
            · rw [if_pos (by rw [← e3]), decide_eq_true (key.mpr (Or.inr ⟨e2.1, e2.2, by omega⟩))]
              exact ⟨μ2, rfl, fr⟩
            · rw [if_neg (fun q => e3 ((nI_eq (by omega) (by omega)).mp q)), decide_eq_false (fun q => by
                rcases key.mp q with z | z
                · exact e1 ⟨z.1, z.2.1⟩
                · omega)]
              exact ⟨μ2, rfl, fr⟩
          · have d0 := wlP_ne (x := D.hg a t * D.sp a * 27720) (w := 60 * D.wn (D.hp a t) (D.hn a t) * 27720) (x' := D.hg b t * D.sp b * 27720) (w' := 60 * D.wn (D.hp b t) (D.hn b t) * 27720) a2 b2' e1 e2
            rw [decide_eq_false d0]
            by_cases e4 : D.hp a t = D.hn b t
            · rw [if_pos (q3.mpr e4), if_neg (fun q => e2 ⟨e4, q4.mp q⟩)]
              exact ⟨μ2, rfl, fr⟩
            · rw [if_neg (fun q => e4 (q3.mp q))]
              exact ⟨μ2, rfl, fr⟩
        by_cases e4 : D.hp a t = D.hp b t
        · rw [if_pos (q1.mpr e4), if_neg (fun q => e1 ⟨e4, q2.mp q⟩)]
          exact rest
        · rw [if_neg (fun q => e4 (q1.mp q))]
          exact rest
