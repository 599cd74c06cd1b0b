/-! PURE 34: frames of both sides; far, fit, fuel, told, joint -/
def MFr (μ μ' : Mm) : Prop := (∀ f, f ≤ 27 → μ'.1 0 f = μ.1 0 f) ∧ (∀ c, (1 ≤ c ∧ c ≤ 8) ∨ (10 ≤ c ∧ c ≤ 20) ∨ c = 29 ∨ c = 30 → μ'.1 c = μ.1 c) ∧ ∀ f, f = 3 ∨ f = 4 → μ'.2 0 f = μ.2 0 f
theorem MFr.refl (μ : Mm) : MFr μ μ := ⟨fun _ _ => rfl, fun _ _ => rfl, fun _ _ => rfl⟩
theorem MFr.trans {μ μ' μ'' : Mm} (a : MFr μ μ') (b : MFr μ' μ'') : MFr μ μ'' := ⟨fun f h => (b.1 f h).trans (a.1 f h), fun f h => (b.2.1 f h).trans (a.2.1 f h), fun f h => (b.2.2 f h).trans (a.2.2 f h)⟩
theorem MFr.dm {D : Da} {μ μ' : Mm} (a : MFr μ μ') (X : DM D μ) : DM D μ' := X.congr ⟨a.1 8 (by omega), a.1 9 (by omega), a.1 15 (by omega)⟩ (fun c h => a.2.1 c (by omega))
theorem MFr.fld {f : Nat} (h : 27 < f) (μ : Mm) (v : Int32) : MFr μ (sI μ 0 f v) := ⟨fun g hg => by rw [sI_at, upd_ne _ _ (by omega)], fun c hc => sI_ne _ _ _ (by omega), fun _ _ => rfl⟩
theorem MFr.cell {c : Nat} (h : c = 9 ∨ (21 ≤ c ∧ c ≤ 28)) (μ : Mm) (g : Nat → Int32) : MFr μ (sA μ c g) := ⟨fun f hf => by rw [sA_ne _ _ (by omega)], fun d hd => sA_ne _ _ (by omega), fun _ _ => rfl⟩
theorem Rel.mfr {RC : Nat → Mm → Prop} {k : Nat} {μx μm μm' : Mm} (h : Rel RC k μx μm) (f : MFr μm μm') : Rel RC k μx μm' := by
  obtain ⟨hT, hS, hG, hW, hP, h0, hC⟩ := h
  refine ⟨?_, ?_, ?_, RW_cells (μx := μx) (μm := μm) (fun c _ _ => rfl) (f.1 15 (by omega)) (fun c _ _ => f.2.1 c (by omega)) hW, ?_, by rw [f.1 27 (by omega)]; exact h0, hC⟩
  · unfold RTx at *
    rw [f.1 0 (by omega), f.1 2 (by omega), f.2.2 3 (by omega), f.2.2 4 (by omega), f.2.1 1 (by omega)]
    exact hT
  · unfold RSx at *
    rw [f.2.1 3 (by omega), f.2.1 2 (by omega)]
    exact hS
  · unfold RGx at *
    rw [f.1 8 (by omega), f.1 9 (by omega), f.2.1 5 (by omega), f.2.1 6 (by omega), f.2.1 7 (by omega), f.2.1 8 (by omega)]
    exact hG
  · unfold RPx at *
    rw [f.2.1 29 (by omega), f.2.1 30 (by omega)]
    exact hP
/-- the class's own working places -/
def XFr (μ μ' : Mm) : Prop := (∀ c, c ≤ 60 ∨ (75 ≤ c ∧ c ≤ 77) ∨ c = 80 ∨ c = 81 → μ'.1 c = μ.1 c) ∧ μ'.2 1 = μ.2 1
theorem XFr.refl (μ : Mm) : XFr μ μ := ⟨fun _ _ => rfl, rfl⟩
theorem XFr.trans {μ μ' μ'' : Mm} (a : XFr μ μ') (b : XFr μ' μ'') : XFr μ μ'' := ⟨fun f h => (b.1 f h).trans (a.1 f h), b.2.trans a.2⟩
theorem XFr.fld {c f : Nat} (h : (61 ≤ c ∧ c ≤ 74) ∨ c = 78 ∨ c = 79 ∨ 82 ≤ c) (μ : Mm) (v : Int32) : XFr μ (sI μ c f v) := ⟨fun d hd => sI_ne _ _ _ (by omega), rfl⟩
theorem XFr.lfld {c f : Nat} (h : c ≠ 1) (μ : Mm) (v : Int64) : XFr μ (sL μ c f v) := ⟨fun _ _ => rfl, by rw [sL2, if_neg (fun q => h q.symm)]⟩
theorem XFr.dx {D : Da} (hw : D.w ≤ 8) {μ μ' : Mm} (a : XFr μ μ') (X : DX D μ) : DX D μ' := DX_cells hw (fun c h => a.1 c (by omega)) X
theorem XFr.crew {D : Da} (hw : D.w ≤ 8) {μ μ' : Mm} (a : XFr μ μ') (C : CrewOk D μ) : CrewOk D μ' := CrewOk_congr hw (fun c h1 h2 => a.1 c (by omega)) (by rw [a.1 11 (by omega)]) C
theorem Rel.xfr {RC : Nat → Mm → Prop} (hR : RCok RC) {k : Nat} {μx μx' μm : Mm} (h : Rel RC k μx μm) (f : XFr μx μx') : Rel RC k μx' μm := by
  obtain ⟨hT, hS, hG, hW, hP, h0, hC⟩ := h
  refine ⟨?_, ?_, ?_, RW_cells (μx := μx) (μm := μm) (fun c _ _ => f.1 c (by omega)) rfl (fun c _ _ => rfl) hW, ?_, h0, hR.2.1 k μx μx' (fun c hc => f.1 c (by omega)) hC⟩
  · unfold RTx at *
    rw [f.1 1 (by omega), f.1 2 (by omega), f.2]
    exact hT
  · unfold RSx at *
    rw [f.1 4 (by omega), f.1 5 (by omega)]
    exact hS
  · unfold RGx at *
    rw [f.1 6 (by omega), f.1 7 (by omega), f.1 8 (by omega), f.1 9 (by omega)]
    exact hG
  · unfold RPx at *
    rw [f.1 80 (by omega), f.1 81 (by omega)]
    exact hP
/-- what is asked for is told -/
theorem Rel.asks {RC : Nat → Mm → Prop} (hR : RCok RC) {k : Nat} {μx μm : Mm} (h : Rel RC k μx μm) (v : Int32) : Rel RC k (sI μx 1 2 v) (sI μm 0 2 v) := by
  obtain ⟨hT, hS, hG, hW, hP, h0, hC⟩ := h
  obtain ⟨t1, t2, t3, t4, t5⟩ := hT
  exact ⟨⟨t1, rfl, t3, t4, t5⟩, hS, hG, RW_cells (μx := μx) (μm := μm) (fun c _ _ => sI_ne _ _ _ (by omega)) rfl (fun c _ _ => sI_ne _ _ _ (by omega)) hW, hP, h0, hR.2.1 k μx _ (fun c hc => sI_ne _ _ _ (by omega)) hC⟩
theorem Rel.tells {RC : Nat → Mm → Prop} (hR : RCok RC) {k : Nat} {μx μm : Mm} (h : Rel RC k μx μm) (u v : Int64) : Rel RC k (sL (sL μx 1 3 u) 1 4 v) (sL (sL μm 0 3 u) 0 4 v) := by
  obtain ⟨hT, hS, hG, hW, hP, h0, hC⟩ := h
  obtain ⟨t1, t2, t3, t4, t5⟩ := hT
  exact ⟨⟨t1, t2, rfl, rfl, t5⟩, hS, hG, hW, hP, h0, hR.2.1 k μx _ (fun c hc => rfl) hC⟩
theorem sm_far {TK} (N : Nat) (hN : 30 ≤ N) : Sm_far (Rel (RCv TK)) N := by
  intro k hk a1 a2 μx μm h
  obtain ⟨μ', D, e, h', I, X, M, F⟩ := h.measured hk N hN
  obtain ⟨D0, I0, X0, M0⟩ := h.data
  have n16 := I.g.n16
  have nn : D0.n = D.n := (nI_eq (by have := I0.g.n16; omega) (by omega)).mp (M0.n.symm.trans M.n)
  have hx : μx.1 6 1 = nI D.n := by rw [X0.g.n, nn]
  unfold f_W_far f_M_far
  rw [Gr_has_eq N n16 a1 μx hx, M_isPost_eq N n16 a1 μm M.n]
  simp only [bnS, if01]
  have hnx := h.next (RCv_ok TK)
  by_cases c1 : 0 ≤ a1.toInt ∧ a1.toInt < D.n
  · rw [if_pos c1, if_pos c1, Gr_has_eq N n16 a2 μx hx, M_isPost_eq N n16 a2 μm M.n]
    simp only [bnS, if01]
    by_cases c2 : 0 ≤ a2.toInt ∧ a2.toInt < D.n
    · rw [if_pos c2, if_pos c2, e]
      obtain ⟨a, ha, rfl⟩ := row_of D.n c1
      obtain ⟨b, hb, rfl⟩ := row_of D.n c2
      obtain ⟨g, eg, G⟩ := M_layFars_eq N D I.g (by omega) μm M
      have hl := fw_le I.g ha hb
      rw [bvS, Gr_farOf_eq N I.g ha hb μ' F, eg]
      simp only [bnS, bvS]
      rw [show (16 : Int32) = nI 16 from rfl, pk_mul, nI_add, if_pos (ixb_t (show 16 * a + b < 256 by omega) (by decide)), nI_clamp (show 16 * a + b < 2 ^ 31 by omega), sAat, G a b ha hb]
      have hr := (h'.mfr (MFr.cell (Or.inl rfl) μm g)).next (RCv_ok TK)
      by_cases c : 1000000 ≤ fw D.n D.len a b
      · rw [if_pos c, if_neg (show ¬ nI (fw D.n D.len a b) < (1000000 : Int32) from fun q => absurd ((nIl (b := 1000000) (by omega) (by decide)).mp q) (by omega))]
        exact ⟨_, _, _, rfl, rfl, hr⟩
      · rw [if_neg c, if_pos (show nI (fw D.n D.len a b) < (1000000 : Int32) from (nIl (b := 1000000) (by omega) (by decide)).mpr (by omega))]
        exact ⟨_, _, _, rfl, rfl, hr⟩
    · rw [if_neg c2, if_neg c2]
      exact ⟨_, _, _, rfl, rfl, hnx⟩
  · rw [if_neg c1, if_neg c1]
    exact ⟨_, _, _, rfl, rfl, hnx⟩
theorem Da.why7 (D : Da) (j : Nat) : D.why j < 7 := by
  unfold Da.why Da.rf
  repeat' split
  all_goals omega
theorem sm_fit {RC : Nat → Mm → Prop} (hR : RCok RC) (N : Nat) (hN : 30 ≤ N) : Sm_fit (Rel RC) N := by
  intro k hk a1 μx μm h
  obtain ⟨D, I, X, M⟩ := h.data
  have w8 := I.w8
  have hnx := h.next hR
  unfold f_W_fit f_M_fit
  rw [Cr_has_eq N w8 a1 μx X.w]
  simp only [bnS, if01]
  by_cases c : 0 ≤ a1.toInt ∧ a1.toInt < D.w
  · obtain ⟨j, hj, rfl⟩ := row_of D.w c
    have hj8 : j < 8 := by omega
    rw [if_pos c, Cr_lacks_eq N hj8 μx (by rw [X.gn j hj]; exact b2_z _), M_need_yes N w8 hj (by decide) μm M.w, X.gn j hj, M.gn j hj]
    simp only [bnS, fd1]
    by_cases c2 : b2 (D.gn j) = 0
    · rw [if_pos c2, if_pos c2, Cr_get_eq N hj8]
      simp only [bnS]
      rw [if_pos hj8, if_pos (show (0 : Int32) ≤ 0 by decide), Wk_faultOn_eq N hN I hj μx X, M_whyNot_eq N hN I hj μm M]
      simp only [bnS]
      exact ⟨_, _, _, rfl, rfl, hnx⟩
    · rw [if_neg c2, if_neg c2]
      exact ⟨_, _, _, rfl, rfl, h.found hR 1⟩
  · rw [if_neg c, M_need_no N w8 _ a1 μm M.w (Or.inl c)]
    exact ⟨_, _, _, rfl, rfl, hnx⟩
theorem sm_fuel {RC : Nat → Mm → Prop} (hR : RCok RC) (N : Nat) (hN : 30 ≤ N) : Sm_fuel (Rel RC) N := by
  intro k hk a1 μx μm h
  obtain ⟨D, I, X, M⟩ := h.data
  have w8 := I.w8
  have hnx := h.next hR
  unfold f_W_fuel f_M_fuel
  rw [Cr_has_eq N w8 a1 μx X.w]
  simp only [bnS, if01]
  by_cases c : 0 ≤ a1.toInt ∧ a1.toInt < D.w
  · obtain ⟨j, hj, rfl⟩ := row_of D.w c
    have hj8 : j < 8 := by omega
    rw [if_pos c, Cr_lacks_eq N hj8 μx (by rw [X.gn j hj]; exact b2_z _), M_need_yes N w8 hj (by decide) μm M.w, X.gn j hj, M.gn j hj]
    simp only [bnS, fd1]
    by_cases c2 : b2 (D.gn j) = 0
    · rw [if_pos c2, if_pos c2, Cr_get_eq N hj8]
      simp only [bnS]
      rw [if_pos hj8, if_pos (show (0 : Int32) ≤ 0 by decide), Wk_faultOn_eq N hN I hj μx X, M_whyNot_eq N hN I hj μm M]
      simp only [bnS]
      have w7 := D.why7 j
      rw [f_M_in_eq]
      simp only [bnS, if01]
      rw [tI (show D.why j < 2 ^ 31 by omega), show (1 : Int32).toInt = 1 from rfl, show (4 : Int32).toInt = 4 from rfl]
      by_cases c3 : 1 ≤ D.why j ∧ D.why j ≤ 4
      · rw [if_pos (show (1 : Int) ≤ (D.why j : Int) ∧ (D.why j : Int) ≤ 4 by omega), if_neg (show ¬ nI (D.why j) < (1 : Int32) from fun q => absurd ((nIl (b := 1) (by omega) (by decide)).mp q) (by omega)), if_neg (show ¬ (4 : Int32) < nI (D.why j) from fun q => absurd ((nIl (a := 4) (by decide) (by omega)).mp q) (by omega))]
        exact ⟨_, _, _, rfl, rfl, hnx⟩
      · rw [if_neg (show ¬ ((1 : Int) ≤ (D.why j : Int) ∧ (D.why j : Int) ≤ 4) by omega)]
        have hp : ∀ i, i < D.sz j → 0 < D.lg j i := by
          refine ok4_iff.mp ?_
          unfold Da.why at c3
          by_cases d1 : D.sz j = 0
          · rw [if_pos d1] at c3; omega
          · rw [if_neg d1] at c3
            by_cases d2 : D.ok2 j = false
            · rw [if_pos d2] at c3; omega
            · rw [if_neg d2] at c3
              by_cases d3 : D.ok3 j = false
              · rw [if_pos d3] at c3; omega
              · rw [if_neg d3] at c3
                by_cases d4 : D.ok4 j = false
                · rw [if_pos d4] at c3; omega
                · simpa using d4
        obtain ⟨v, ev, tv⟩ := Wk_longestRide_eq N hN I hj hp μx X
        obtain ⟨v', ev', tv'⟩ := M_mostFuel_eq N hN I hj μm M
        have : v = v' := eq_I.mpr (tv.trans tv'.symm)
        subst this
        unfold f_W_fuel_B64
        rw [ev, ev']
        simp only [bnS]
        repeat' split
        all_goals first | exact ⟨_, _, _, rfl, rfl, hnx⟩ | skip
        exfalso
        rename_i q1 q2
        exact c3 ⟨by
          rcases Nat.lt_or_ge (D.why j) 1 with r | r
          · exact absurd ((nIl (b := 1) (by omega) (by decide)).mpr r) q1
          · exact r, by
          rcases Nat.lt_or_ge 4 (D.why j) with r | r
          · exact absurd ((nIl (a := 4) (by decide) (by omega)).mpr r) q2
          · exact r⟩
    · rw [if_neg c2, if_neg c2]
      exact ⟨_, _, _, rfl, rfl, h.found hR 1⟩
  · rw [if_neg c, M_need_no N w8 _ a1 μm M.w (Or.inl c)]
    exact ⟨_, _, _, rfl, rfl, hnx⟩
theorem Cr_goes_eq (N : Nat) {D : Da} (I : DI D) {j : Nat} (hj : j < D.w) (μ : Mm) (C : CrewOk D μ) : f_Cr_goes N (nI j) μ = some (b2 (D.go j), μ) := by
  have w8 := I.w8
  have hb : bsN D.go D.w < 2 ^ 31 := Nat.lt_of_lt_of_le (bsN_lt _ _) (Nat.pow_le_pow_right (by decide) (by omega))
  unfold f_Cr_goes
  rw [C.1, bitN hb (by omega), bsN_tb, decide_eq_true hj, Bool.true_and]
  by_cases c : D.go j = true
  · rw [c, if_neg (by decide)]; rfl
  · have c' : D.go j = false := by simpa using c
    rw [c', if_pos (by decide)]; rfl
theorem told_eq (N : Nat) (hN : 30 ≤ N) {D : Da} (I : DI D) {j : Nat} (hj : j < D.w) {z : Nat} (hz : z < 7) (μx μm : Mm) (X : DX D μx) (M : DM D μm) (C : CrewOk D μx) (h0 : μm.1 0 27 = 0) : ∃ v, f_Cr_tell N (nI j) (nI z) μx = some (v, μx) ∧ f_M_toldOf N (nI j) (nI z) μm = some (v, μm) := by
  have w8 := I.w8
  have hj8 : j < 8 := by omega
  have hg := M_goes_eq N hN I (L := 0) (by decide) hj μm M h0
  rw [D.goL0] at hg
  have hl : (if b2 (D.lo j) = 0 then (some (0, μx) : Option (Int32 × Mm)) else some (1, μx)) = some (b2 (D.lo j), μx) := by cases D.lo j <;> rfl
  have hl' : (if b2 (D.lo j) = 0 then (some (0, μm) : Option (Int32 × Mm)) else some (1, μm)) = some (b2 (D.lo j), μm) := by cases D.lo j <;> rfl
  unfold f_Cr_tell f_M_toldOf
  simp only [if_pos (ixb_t hj8 (show 8 < 2 ^ 31 by decide)), nI_clamp (show j < 2 ^ 31 by omega), Cr_goes_eq N I hj μx C, hg, Wk_unitParts_eq N I hj μx X, M_unitOf_eq N I hj μm M, bnS, M_periodOf_eq N hN I hj μm M, X.kd j hj, M.kd j hj, X.vw j hj, M.vw j hj, X.lo j hj, M.lo j hj, X.sz j hj, M.sz j hj, hl, hl']
  rcases (show z = 0 ∨ z = 1 ∨ z = 2 ∨ z = 3 ∨ z = 4 ∨ z = 5 ∨ z = 6 by omega) with rfl | rfl | rfl | rfl | rfl | rfl | rfl
  · exact ⟨_, rfl, rfl⟩
  · exact ⟨_, rfl, rfl⟩
  · exact ⟨_, rfl, rfl⟩
  · exact ⟨_, rfl, rfl⟩
  · exact ⟨_, rfl, rfl⟩
  · refine ⟨b2 (D.go j), ?_, ?_⟩ <;> (cases D.go j <;> rfl)
  · refine ⟨if D.go j = true then nI (D.per j) else -9, ?_, ?_⟩
    · by_cases c : D.go j = true
      · rw [c, (C.2 j hj c).1]; rfl
      · have c' : D.go j = false := by simpa using c
        rw [c']; rfl
    · by_cases c : D.go j = true
      · rw [c]; rfl
      · have c' : D.go j = false := by simpa using c
        rw [c']; rfl
theorem sm_told {TK} (N : Nat) (hN : 30 ≤ N) : Sm_told (Rel (RCv TK)) N := by
  have hR := RCv_ok TK
  intro k hk a1 a2 μx μm h
  obtain ⟨D, I, X, M⟩ := h.data
  have w8 := I.w8
  have hnx := h.next hR
  unfold f_W_told f_M_told
  rw [Cr_has_eq N w8 a1 μx X.w, f_M_in_eq]
  simp only [bnS, if01]
  by_cases c : 0 ≤ a1.toInt ∧ a1.toInt < D.w
  · obtain ⟨j, hj, rfl⟩ := row_of D.w c
    have hj8 : j < 8 := by omega
    rw [if_pos c]
    by_cases cv : 0 ≤ a2.toInt ∧ a2.toInt ≤ 6
    · rw [if_neg (show ¬ a2 < 0 by rw [lt_I, show (0 : Int32).toInt = 0 from rfl]; omega), if_pos (show a2 ≤ 6 by rw [le_I, show (6 : Int32).toInt = 6 from rfl]; omega), if_pos (show (0 : Int32).toInt ≤ a2.toInt ∧ a2.toInt ≤ (6 : Int32).toInt from cv)]
      rw [Cr_lacks_eq N hj8 μx (by rw [X.gn j hj]; exact b2_z _), M_need_yes N w8 hj (by decide) μm M.w, X.gn j hj, M.gn j hj]
      simp only [bnS, fd1]
      by_cases c2 : b2 (D.gn j) = 0
      · rw [if_pos c2, if_pos c2]
        obtain ⟨μ', D', e, h', I', X', M', C'⟩ := h.fresh hk N hN
        have ww : D.w = D'.w := (nI_eq (by omega) (by have := I'.w8; omega)).mp (M.w.symm.trans M'.w)
        obtain ⟨z, hz, rfl⟩ := row_of (x := a2) 7 ⟨cv.1, by omega⟩
        obtain ⟨v, e1, e2⟩ := told_eq N hN I' (ww ▸ hj) hz μ' μm X' M' C' h'.2.2.2.2.2.1
        rw [e]
        simp only [bnS, bvS]
        rw [e1, if_pos (show (0 : Int32) ≤ 0 by decide), e2]
        exact ⟨_, _, _, rfl, rfl, h'.next hR⟩
      · rw [if_neg c2, if_neg c2]
        exact ⟨_, _, _, rfl, rfl, h.found hR 1⟩
    · rw [if_neg (show ¬ ((0 : Int32).toInt ≤ a2.toInt ∧ a2.toInt ≤ (6 : Int32).toInt) from cv), M_need_no N w8 0 (nI j) μm M.w (Or.inr rfl)]
      clear h
      repeat' split
      all_goals first | exact ⟨_, _, _, rfl, rfl, hnx⟩ | (exfalso; simp only [lt_I, le_I, eq_I, Int32.reduceToInt] at *; omega)
  · rw [if_neg c, M_need_no N w8 _ a1 μm M.w (Or.inl c)]
    exact ⟨_, _, _, rfl, rfl, hnx⟩
theorem bsgo_lt {D : Da} (I : DI D) (S : Nat → Bool) : bsN S D.w < 256 := Nat.lt_of_lt_of_le (bsN_lt _ _) (show 2 ^ D.w ≤ 2 ^ 8 from Nat.pow_le_pow_right (by decide) I.w8)
theorem bsgo_tb {D : Da} (S : Nat → Bool) {x : Nat} (h : x < D.w) : (bsN S D.w).testBit x = S x := by rw [bsN_tb, decide_eq_true h, Bool.true_and]
def Da.jg (D : Da) : Nat := D.jn D.go D.w
theorem Cr_joint_all (N : Nat) (hN : 130 ≤ N) {D : Da} (I : DI D) (μ : Mm) (X : DX D μ) (C : CrewOk D μ) : f_Cr_jointOf N (μ.1 11 2) μ = some (if 14400 < D.jg then -6 else nI D.jg, μ) := by
  have hb := bsgo_lt I D.go
  rw [C.1, Cr_jointOf_eq N hN I (by omega) (fun x hx q => by rw [bsgo_tb _ hx] at q; exact q) μ X C, D.jn_ext D.w (T := D.go) (fun x hx => bsgo_tb _ hx)]
  rfl
theorem M_joint_all (N : Nat) (hN : 130 ≤ N) {D : Da} (I : DI D) (μ : Mm) (X : DM D μ) (e : μ.1 0 27 = 0) : f_M_layJoint N μ = some (b2 (decide (D.jg ≤ 14400)), sI μ 0 31 (nI (if D.jg ≤ 14400 then D.jg else 0))) := by
  have := M_layJoint_eq N hN I (L := 0) (by decide) μ X e
  rw [D.jn_ext D.w (T := D.go) (fun x _ => D.goL0 x)] at this
  exact this
theorem sm_joint {TK} (N : Nat) (hN : 130 ≤ N) : Sm_joint (Rel (RCv TK)) N := by
  have hR := RCv_ok TK
  intro k hk μx μm h
  obtain ⟨μ', D', e, h', I', X', M', C'⟩ := h.fresh hk N (by omega)
  unfold f_W_joint f_M_joint
  rw [e, M_joint_all N hN I' μm M' h'.2.2.2.2.2.1]
  simp only [bnS, bvS]
  rw [Cr_joint_all N hN I' μ' X' C']
  simp only [bnS]
  have hr := (h'.mfr (MFr.fld (f := 31) (by decide) μm (nI (if D'.jg ≤ 14400 then D'.jg else 0)))).next hR
  by_cases c : D'.jg ≤ 14400
  · rw [if_neg (by omega), decide_eq_true c, if_neg (by decide), sI_at, upd_eq, if_pos c]
    rw [if_pos c] at hr
    exact ⟨_, _, _, rfl, rfl, hr⟩
  · rw [if_pos (by omega), decide_eq_false c, if_pos (by decide)]
    exact ⟨_, _, _, rfl, rfl, hr⟩
