/-! PURE 36: where, count -/
theorem W_isTime_eq (N : Nat) (a : Int32) (μ : Mm) : f_W_isTime N a μ = some (if 0 ≤ a.toInt ∧ a.toInt ≤ 100000 then 1 else 0, μ) := by
  unfold f_W_isTime
  by_cases h1 : a < 0
  · have := lt_I.mp h1
    rw [show (0 : Int32).toInt = 0 from rfl] at this
    rw [if_pos h1, if_neg (by omega)]
  · have h1' : ¬ a.toInt < 0 := fun q => h1 (lt_I.mpr q)
    rw [if_neg h1]
    by_cases h2 : (100000 : Int32) < a
    · have := lt_I.mp h2
      rw [show (100000 : Int32).toInt = 100000 from rfl] at this
      rw [if_pos h2, if_neg (by omega)]
    · have h2' : ¬ (100000 : Int) < a.toInt := fun q => h2 (lt_I.mpr q)
      rw [if_neg h2, if_pos (by omega)]
theorem sm_where {TK} (N : Nat) (hN : 30 ≤ N) : Sm_where (Rel (RCv TK)) N := by
  have hR := RCv_ok TK
  intro k hk a1 a2 a3 μx μm h
  obtain ⟨D, I, X, M⟩ := h.data
  have w8 := I.w8
  have hnx := h.next hR
  unfold f_W_where f_M_where
  rw [Cr_has_eq N w8 a1 μx X.w, f_M_in_eq]
  simp only [bnS, if01, show (0 : Int32).toInt = 0 from rfl, show (100000 : Int32).toInt = 100000 from rfl]
  unfold f_M_where_B24
  by_cases c : 0 ≤ a1.toInt ∧ a1.toInt < D.w
  · obtain ⟨j, hj, rfl⟩ := row_of D.w c
    have hj8 : j < 8 := by omega
    rw [if_pos c, W_isTime_eq]
    simp only [bnS, if01]
    by_cases ct : 0 ≤ a2.toInt ∧ a2.toInt ≤ 100000
    · rw [if_pos ct, if_pos ct, f_M_in_eq]
      simp only [bnS, if01, show (0 : Int32).toInt = 0 from rfl, show (2 : Int32).toInt = 2 from rfl]
      by_cases cv : 0 ≤ a3.toInt ∧ a3.toInt ≤ 2
      · rw [if_neg (show ¬ a3 < 0 by rw [lt_I, show (0 : Int32).toInt = 0 from rfl]; omega), if_pos (show a3 ≤ 2 by rw [le_I, show (2 : Int32).toInt = 2 from rfl]; omega), if_pos cv]
        unfold f_M_where_B25
        rw [Cr_lacks_eq N hj8 μx (by rw [X.gn j hj]; exact b2_z _), M_need_yes N w8 hj (by decide) μm M.w, X.gn j hj, M.gn j hj]
        simp only [bnS, fd1]
        by_cases c2 : b2 (D.gn j) = 0
        · rw [if_pos c2, if_pos c2]
          obtain ⟨μ', D', e, h', I', X', M', C'⟩ := h.fresh hk N hN
          have ww : D.w = D'.w := (nI_eq (by omega) (by have := I'.w8; omega)).mp (M.w.symm.trans M'.w)
          have hj' : j < D'.w := ww ▸ hj
          obtain ⟨z, hz, rfl⟩ := row_of (x := a3) 3 ⟨cv.1, by omega⟩
          have hg := M_goes_eq N hN I' (L := 0) (by decide) hj' μm M' h'.2.2.2.2.2.1
          rw [D'.goL0] at hg
          rw [e]
          simp only [bnS, bvS]
          rw [if_pos (show (0 : Int32) ≤ 0 by decide), Cr_goes_eq N I' hj' μ' C', hg]
          simp only [bnS]
          by_cases g : D'.go j = true
          · rw [if_neg (by rw [g]; decide), if_neg (by rw [g]; decide), Cr_get_eq N hj8]
            simp only [bnS]
            have et : a2 = zI a2.toInt := zI_of a2
            obtain ⟨μ2, r1, r2, r3, r4, r5⟩ := M_find_eq N hN I' hj' g (t := a2.toInt) (by omega) (by omega) μm M'
            have hpl := Wk_placeAt_eq N hN I' hj' g (t := a2.toInt) (by omega) (by omega) hz μ' X' C'
            rw [← et] at r1 hpl
            rw [if_pos hj8, hpl, r1]
            simp only [bnS, bvS]
            rw [r3, r4, r5]
            have hr := (h'.mfr r2.mfr).next hR
            rcases (show z = 0 ∨ z = 1 ∨ z = 2 by omega) with rfl | rfl | rfl
            · exact ⟨_, _, _, rfl, rfl, hr⟩
            · exact ⟨_, _, _, rfl, rfl, hr⟩
            · exact ⟨_, _, _, rfl, rfl, hr⟩
          · have g' : D'.go j = false := by simpa using g
            rw [if_pos (by rw [g']; decide), if_pos (by rw [g']; decide)]
            exact ⟨_, _, _, rfl, rfl, h'.next hR⟩
        · rw [if_neg c2, if_neg c2]
          exact ⟨_, _, _, rfl, rfl, h.found hR 1⟩
      · rw [if_neg cv]
        unfold f_M_where_B25
        rw [M_need_no N w8 0 (nI j) μm M.w (Or.inr rfl)]
        clear h
        repeat' split
        all_goals first | exact ⟨_, _, _, rfl, rfl, hnx⟩ | (exfalso; simp only [lt_I, le_I, eq_I, Int32.reduceToInt] at *; omega)
    · rw [if_neg ct, if_neg ct]
      unfold f_M_where_B25
      rw [M_need_no N w8 0 (nI j) μm M.w (Or.inr rfl)]
      exact ⟨_, _, _, rfl, rfl, hnx⟩
  · rw [if_neg c]
    unfold f_M_where_B25
    have no : ∀ s, f_M_need N s a1 μm = some (-1, μm) := fun s => M_need_no N w8 s a1 μm M.w (Or.inl c)
    rw [f_M_in_eq]
    simp only [no, bnS, if01]
    clear h
    repeat' split
    all_goals first | exact ⟨_, _, _, rfl, rfl, hnx⟩ | (exfalso; simp only [lt_I, le_I, eq_I, Int32.reduceToInt] at *; omega)
theorem cnt_ext {p q : Nat → Bool} : ∀ n, (∀ i, i < n → p i = q i) → cnt p n = cnt q n
  | 0, _ => rfl
  | n + 1, h => by
    unfold cnt
    rw [cnt_ext n (fun i hi => h i (by omega)), h n (by omega)]
theorem cnt_pad {p : Nat → Bool} {n : Nat} : ∀ d, (∀ i, n ≤ i → p i = false) → cnt p (n + d) = cnt p n
  | 0, _ => rfl
  | d + 1, h => by
    show cnt p (n + d) + (if p (n + d) = true then 1 else 0) = _
    rw [cnt_pad d h, h (n + d) (by omega)]
    rfl
theorem cnt_bs (S : Nat → Bool) {n : Nat} (hn : n ≤ 16) : cnt (fun i => (bsN S n).testBit i) 16 = cnt S n := by
  have := cnt_pad (p := fun i => (bsN S n).testBit i) (n := n) (16 - n) (fun i hi => by show (bsN S n).testBit i = false; rw [bsN_tb, decide_eq_false (by omega)]; rfl)
  rw [show n + (16 - n) = 16 by omega] at this
  rw [this]
  exact cnt_ext n (fun i hi => by show (bsN S n).testBit i = S i; rw [bsN_tb, decide_eq_true hi]; rfl)
theorem M_count5_loop (N : Nat) (hN : 30 ≤ N) {D : Da} (I : DI D) (μ : Mm) (X : DM D μ) (e : μ.1 0 27 = 0) : ∀ (m i : Nat), i ≤ D.w → D.w < m + i → f_M_tellsCount_L69 N m (nI (cnt D.go i)) (nI i) μ = some (nI (cnt D.go D.w), μ) := by
  have w8 := I.w8
  intro m
  induction m with
  | zero => intro i h1 h2; omega
  | succ m ih =>
    intro i h1 h2
    rw [f_M_tellsCount_L69, X.w]
    by_cases h : i = D.w
    · rw [if_pos (by rw [h]; exact nI_le (Nat.le_refl _) (by omega)), h]
    · have hi : i < D.w := by omega
      have hg := M_goes_eq N hN I (L := 0) (by decide) hi μ X e
      rw [D.goL0] at hg
      rw [if_neg (nI_ge (by omega) (by omega)), hg, bnS]
      have := ih (i + 1) (by omega) (by omega)
      unfold f_M_tellsCount_B91
      simp only [nI_1, nI_add]
      rw [← this]
      show _ = f_M_tellsCount_L69 N m (nI (cnt D.go i + _)) _ _
      by_cases g : D.go i = true
      · rw [if_neg (by rw [g]; decide), if_pos g]
      · have g' : D.go i = false := by simpa using g
        rw [if_pos (by rw [g']; decide), if_neg g, show (0 : Int32) = nI 0 from rfl, nI_add]
theorem count5 {TK} {k : Nat} (hk : k < 512) {μx μm : Mm} (h : Rel (RCv TK) k μx μm) (N : Nat) (hN : 30 ≤ N) : ∃ v μx' D, f_W_count N (nI 5) μx = some (v, μx') ∧ f_M_tellsCount N (nI 5) μm = some (v, μm) ∧ Rel (RCv TK) k μx' μm ∧ DI D ∧ DX D μx' ∧ DM D μm ∧ CrewOk D μx' := by
  obtain ⟨μ', D', e, h', I', X', M', C'⟩ := h.fresh hk N hN
  have w8 := I'.w8
  refine ⟨nI (cnt D'.go D'.w), μ', D', ?_, ?_, h', I', X', M', C'⟩
  · unfold f_W_count
    rw [if_neg (by decide), if_neg (by decide), if_neg (by decide), if_neg (by decide), if_neg (by decide), if_pos (by decide), e, bvS, C'.1, bitCount_eq N (by have := bsgo_lt I' D'.go; omega), bnS, cnt_bs _ (by omega)]
  · unfold f_M_tellsCount
    rw [if_neg (by decide), if_neg (by decide), if_neg (by decide), if_neg (by decide), if_neg (by decide), if_pos (by decide)]
    exact M_count5_loop N hN I' μm M' h'.2.2.2.2.2.1 N 0 (by omega) (by omega)
theorem Sf_present_loop (N : Nat) (μ : Mm) : ∀ (m i : Nat), i ≤ 8 → 8 < m + i → f_Sf_present_L4 N m (nI (cnt (fun r => decide (¬ μ.1 5 r = -1)) i)) (nI i) μ = some (nI (cnt (fun r => decide (¬ μ.1 5 r = -1)) 8), μ) := by
  intro m
  induction m with
  | zero => intro i h1 h2; omega
  | succ m ih =>
    intro i h1 h2
    rw [f_Sf_present_L4]
    by_cases h : i = 8
    · subst h
      rw [if_pos (by decide)]
    · rw [if_neg (show ¬ (8 : Int32) ≤ nI i from nI_ge (b := 8) (by omega) (by decide)), Sf_lacks_eq N (by omega), bnS]
      have := ih (i + 1) (by omega) (by omega)
      unfold f_Sf_present_B24
      simp only [nI_1, nI_add]
      rw [← this]
      show _ = f_Sf_present_L4 N m (nI (cnt _ i + _)) _ _
      by_cases c : μ.1 5 i = -1
      · rw [if_pos c, if_neg (by decide), if_neg (by simp [c]), show (0 : Int32) = nI 0 from rfl, nI_add]
      · rw [if_neg c, if_pos rfl, if_pos (by simp [c])]
theorem M_count6_loop (N : Nat) (μ : Mm) (hs : ∀ r, r < 8 → -1 ≤ (μ.1 2 r).toInt) : ∀ (m i : Nat), i ≤ 8 → 8 < m + i → f_M_tellsCount_L103 N m (nI (cnt (fun r => decide (¬ μ.1 2 r = -1)) i)) (nI i) μ = some (nI (cnt (fun r => decide (¬ μ.1 2 r = -1)) 8), μ) := by
  intro m
  induction m with
  | zero => intro i h1 h2; omega
  | succ m ih =>
    intro i h1 h2
    rw [f_M_tellsCount_L103]
    by_cases h : i = 8
    · subst h
      rw [if_pos (by decide)]
    · rw [if_neg (show ¬ (8 : Int32) ≤ nI i from nI_ge (b := 8) (by omega) (by decide)), if_pos (ixb_t (show i < 8 by omega) (by decide)), nI_clamp (show i < 2 ^ 31 by omega)]
      have := ih (i + 1) (by omega) (by omega)
      unfold f_M_tellsCount_B124
      simp only [nI_1, nI_add]
      rw [← this]
      show _ = f_M_tellsCount_L103 N m (nI (cnt _ i + _)) _ _
      have n1 := neg1 (hs i (by omega))
      by_cases c : μ.1 2 i = -1
      · rw [if_neg (n1.mp c), if_neg (by simp [c]), show (0 : Int32) = nI 0 from rfl, nI_add]
      · rw [if_pos (Classical.byContradiction fun q => c (n1.mpr q)), if_pos (by simp [c])]
theorem countO {RC : Nat → Mm → Prop} {k : Nat} {μx μm : Mm} (h : Rel RC k μx μm) (N : Nat) (hN : 30 ≤ N) {z : Nat} (hz : z < 7) (h5 : z ≠ 5) : ∃ v, f_W_count N (nI z) μx = some (v, μx) ∧ f_M_tellsCount N (nI z) μm = some (v, μm) := by
  obtain ⟨hT, hS, hG, hW, hP, h0, hC⟩ := h
  obtain ⟨gk, gk3, gp, n, n1, n16, en, gL, gw, gb, gwl, gbr, _, gf⟩ := hG
  obtain ⟨s1, _, _⟩ := hS
  have ew0 : cntP (wF μm 0) n n = cntP (fun a b => decide (μm.1 5 (16 * a + b) ≠ 0)) n n := cntP_eq (fun u w hu hw _ => wF0 (gL u w (by omega) (by omega)).1.1)
  have ew1 : cntP (wF μm 1) n n = cntP (fun a b => decide (μm.1 6 (16 * a + b) ≠ 0)) n n := cntP_eq (fun u w hu hw _ => wF1 (gL u w (by omega) (by omega)).1.1 (gL u w (by omega) (by omega)).2.2.2.2.1)
  rcases (show z = 0 ∨ z = 1 ∨ z = 2 ∨ z = 3 ∨ z = 4 ∨ z = 6 by omega) with rfl | rfl | rfl | rfl | rfl | rfl
  · refine ⟨μm.1 0 8, ?_, rfl⟩
    show some (μx.1 6 0, μx) = _
    rw [gk]
  · refine ⟨μm.1 0 9, ?_, rfl⟩
    show some (μx.1 6 1, μx) = _
    rw [gp]
  · refine ⟨nI (cntP (wF μm 0) n n), ?_, ?_⟩
    · show some (μx.1 6 2, μx) = _
      rw [gwl, ew0]
    · unfold f_M_tellsCount
      rw [if_neg (by decide), if_neg (by decide), if_pos (by decide), M_walls_eq N n n16 (by omega) 0 μm en, bnS]
  · refine ⟨nI (cntP (wF μm 1) n n), ?_, ?_⟩
    · show some (μx.1 6 3, μx) = _
      rw [gbr, ew1]
    · unfold f_M_tellsCount
      rw [if_neg (by decide), if_neg (by decide), if_neg (by decide), if_pos (by decide), M_walls_eq N n n16 (by omega) 1 μm en, bnS]
  · refine ⟨μm.1 0 15, ?_, rfl⟩
    show some (μx.1 11 1, μx) = _
    rw [hW.1]
  · refine ⟨nI (cnt (fun r => decide (¬ μm.1 2 r = -1)) 8), ?_, ?_⟩
    · unfold f_W_count f_Sf_present
      rw [if_neg (by decide), if_neg (by decide), if_neg (by decide), if_neg (by decide), if_neg (by decide), if_neg (by decide), if_pos (by decide)]
      have := Sf_present_loop N μx N 0 (by omega) (by omega)
      rw [show nI (cnt (fun r => decide (¬ μx.1 5 r = -1)) 0) = 0 from rfl, show nI 0 = (0 : Int32) from rfl] at this
      rw [this, bnS, cnt_ext (q := fun r => decide (¬ μm.1 2 r = -1)) 8 (fun r hr => by show decide (¬ μx.1 5 r = -1) = decide (¬ μm.1 2 r = -1); rw [(s1 r hr).1])]
    · show f_M_tellsCount_L103 N N 0 0 μm = _
      exact M_count6_loop N μm (fun r hr => (s1 r hr).2.1) N 0 (by omega) (by omega)
theorem sm_count {TK} (N : Nat) (hN : 30 ≤ N) : Sm_count (Rel (RCv TK)) N := by
  have hR := RCv_ok TK
  intro k hk a1 μx μm h
  have hnx := h.next hR
  unfold f_M_count
  rw [f_M_in_eq]
  simp only [bnS, if01, show (0 : Int32).toInt = 0 from rfl, show (6 : Int32).toInt = 6 from rfl]
  by_cases c : 0 ≤ a1.toInt ∧ a1.toInt ≤ 6
  · obtain ⟨z, hz, rfl⟩ := row_of (x := a1) 7 ⟨c.1, by omega⟩
    rw [if_pos c]
    by_cases c5 : z = 5
    · subst c5
      obtain ⟨v, μx', D, e1, e2, h', _⟩ := count5 hk h N hN
      rw [e1, e2]
      exact ⟨_, _, _, rfl, rfl, h'.next hR⟩
    · obtain ⟨v, e1, e2⟩ := countO h N hN hz c5
      rw [e1, e2]
      exact ⟨_, _, _, rfl, rfl, hnx⟩
  · rw [if_neg c]
    unfold f_W_count
    clear h
    repeat' split
    all_goals first | exact ⟨_, _, _, rfl, rfl, hnx⟩ | (exfalso; simp only [lt_I, le_I, eq_I, Int32.reduceToInt] at *; omega)
