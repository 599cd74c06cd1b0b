/-! PURE 14: unplan, mark, planned -/
theorem sm_unplan {RC : Nat → Mm → Prop} (hR : RCok RC) (N : Nat) : Sm_unplan (Rel RC) N := by
  intro k _ a1 μx μm h
  obtain ⟨h1, w, hw, ew, hall, _⟩ := id h.2.2.2.1
  unfold f_W_unplan f_M_unplan
  rw [Cr_has_eq N hw a1 μx (h1.trans ew)]
  simp only [bnS, if01]
  by_cases c : 0 ≤ a1.toInt ∧ a1.toInt < w
  · obtain ⟨j, hj, rfl⟩ := row_of w c
    have hj8 : j < 8 := by omega
    have R1 : RW1 (μx.1 (WK j)) (μx.1 (WK j + 1)) (μx.1 (WK j + 2)) (μm.1 10) (μm.1 11) (μm.1 12) (μm.1 13) (μm.1 14) (μm.1 15) (μm.1 16) (μm.1 17) (μm.1 20) (μm.1 18) (μm.1 19) j := hall j hj
    have ea : μx.1 (WK j) 6 = μm.1 16 j := R1.2.2.2.2.2.2.1
    have el : μx.1 (WK j) 8 = μm.1 17 j := R1.2.2.2.2.2.2.2.1
    have gz : μm.1 16 j = 0 ∨ μm.1 16 j = 1 := R1.2.2.2.2.2.2.2.2.2.2.2.2.2.2.2.1
    rw [if_pos c, Cr_lacks_eq N (by omega) μx (by rw [ea]; exact gz), M_need_yes N hw hj (by decide) μm ew, ea]
    simp only [bnS, fd1]
    by_cases c2 : μm.1 16 j = 0
    · rw [if_pos c2, if_pos c2, Cr_changing_eq N hj8]
      simp only [bnS]
      rw [if_pos hj8, if_pos (show (0 : Int32) ≤ 0 by decide)]
      simp only [if_pos (ixb_t hj8 (show 8 < 2 ^ 31 by decide)), nI_clamp (show j < 2 ^ 31 by omega)]
      have e5 : (sI μx 11 4 1).1 (WK j) 8 = μm.1 17 j := by
        have := WK_lt hj8
        rw [sI1, if_neg (by omega), el]
      rw [e5]
      refine ⟨_, chW μx j 8 0, sI (sI μm 17 j 0) 20 j (-9), rfl, rfl, h.field hR hw hj ew (fun c hc => by rw [sI1, if_neg (by omega), sI1, if_neg (by omega)]) rfl (fun c _ _ i hne => (sI_ix hne).trans (sI_ix hne)) rfl rfl (fun q => ?_)⟩
      obtain ⟨a1, a2', a3, a4, a5, a6, a7, a8, a9, b1, b2, b3, b4, b5, b6, b7, b8, b9, c1, c2, c3⟩ := q
      have u17 : (sI (sI μm 17 j 0) 20 j (-9)).1 17 j = 0 := upd_eq (μm.1 17) j 0
      have u20 : (sI (sI μm 17 j 0) 20 j (-9)).1 20 j = -9 := upd_eq (μm.1 20) j (-9)
      unfold RW1
      rw [u17, u20]
      refine ⟨a1, a2', a3, a4, a5, a6, a7, upd_eq _ _ _, fun q => absurd rfl q, fun i hi => ?_, b2, b3, b4, b5, b6, b7, Or.inl rfl, fun _ => rfl, fun q => absurd rfl q, fun q => ⟨rfl, (c2 q).2⟩, c3⟩
      rw [show (0 : Int32).toInt = 0 from rfl] at hi
      omega
    · rw [if_neg c2, if_neg c2]
      exact ⟨_, _, _, rfl, rfl, h.found hR 1⟩
  · rw [if_neg c, M_need_no N hw 1 a1 μm ew (Or.inl c)]
    exact ⟨_, _, _, rfl, rfl, h.next hR⟩
theorem ix24' (r i : Nat) : 24 * nI r + nI i = nI (24 * r + i) := by
  rw [show (24 : Int32) = nI 24 from rfl, pk_mul, nI_add]
theorem M_post_eq (N : Nat) {j i : Nat} (hj : j < 8) (hi : i < 24) (μ : Mm) : f_M_post N (nI j) (nI i) μ = some (μ.1 18 (24 * j + i), μ) := by
  unfold f_M_post
  simp only [ix24']
  rw [if_pos (ixb_t (by omega) (by decide)), nI_clamp (by omega)]
theorem M_rest_eq (N : Nat) {j i : Nat} (hj : j < 8) (hi : i < 24) (μ : Mm) : f_M_rest N (nI j) (nI i) μ = some (μ.1 19 (24 * j + i), μ) := by
  unfold f_M_rest
  simp only [ix24']
  rw [if_pos (ixb_t (by omega) (by decide)), nI_clamp (by omega)]
theorem plan_nI {x : Int32} (h : x = 0 ∨ (2 ≤ x.toInt ∧ x.toInt ≤ 24)) : ∃ s : Nat, s ≤ 24 ∧ x = nI s := by
  rcases h with rfl | h
  · exact ⟨0, by omega, rfl⟩
  · obtain ⟨s, hs, e⟩ := row_of (x := x) 25 ⟨by omega, by omega⟩
    exact ⟨s, by omega, e⟩
theorem sm_planned {RC : Nat → Mm → Prop} (hR : RCok RC) (N : Nat) : Sm_planned (Rel RC) N := by
  intro k _ a1 a2 a3 _ μx μm h
  obtain ⟨h1, w, hw, ew, hall, _⟩ := id h.2.2.2.1
  unfold f_W_planned f_M_planned f_W_planned_B56
  rw [Cr_has_eq N hw a1 μx (h1.trans ew)]
  simp only [bnS, if01]
  by_cases c : 0 ≤ a1.toInt ∧ a1.toInt < w
  · obtain ⟨j, hj, rfl⟩ := row_of w c
    have hj8 : j < 8 := by omega
    have R1 : RW1 (μx.1 (WK j)) (μx.1 (WK j + 1)) (μx.1 (WK j + 2)) (μm.1 10) (μm.1 11) (μm.1 12) (μm.1 13) (μm.1 14) (μm.1 15) (μm.1 16) (μm.1 17) (μm.1 20) (μm.1 18) (μm.1 19) j := hall j hj
    have ea : μx.1 (WK j) 6 = μm.1 16 j := R1.2.2.2.2.2.2.1
    have el : μx.1 (WK j) 8 = μm.1 17 j := R1.2.2.2.2.2.2.2.1
    have gz : μm.1 16 j = 0 ∨ μm.1 16 j = 1 := R1.2.2.2.2.2.2.2.2.2.2.2.2.2.2.2.1
    have gp := R1.2.2.2.2.2.2.2.2.2.1
    obtain ⟨s, hs, es⟩ := plan_nI R1.2.2.2.2.2.2.2.2.2.2.2.2.2.2.2.2.1
    rw [if_pos c, Cr_lacks_eq N (by omega) μx (by rw [ea]; exact gz), M_need_yes N hw hj (by decide) μm ew, ea]
    simp only [bnS, fd1]
    by_cases c2 : μm.1 16 j = 0
    · rw [if_pos c2, if_pos c2, Cr_get_eq N hj8]
      simp only [bnS]
      rw [if_pos hj8, if_pos (show (0 : Int32) ≤ 0 by decide), if_pos (ixb_t hj8 (by decide)), nI_clamp (by omega), el, es, f_M_in_eq]
      simp only [bnS, if01, fd2, md2]
      have e9 : ((0 : Int32).toInt ≤ a2.toInt ∧ a2.toInt ≤ (nI s - 1).toInt) ↔ (0 ≤ a2.toInt ∧ a2.toInt < s) := by
        rw [show (1 : Int32) = nI 1 from rfl, pk_sub_toInt (by omega) (by decide), show (0 : Int32).toInt = 0 from rfl]
        omega
      by_cases c3 : 0 ≤ a2.toInt ∧ a2.toInt < s
      · obtain ⟨i, hi, rfl⟩ := row_of (x := a2) s c3
        obtain ⟨g1, g2, _⟩ := gp i (by rw [es, tI (by omega)]; omega)
        rw [if_neg (nI_pos (by omega)), if_pos (nI_lt hi (by omega)), if_pos (e9.mpr c3), M_post_eq N hj8 (by omega), M_rest_eq N hj8 (by omega)]
        simp only [bnS, if_pos (ixb_t (show i < 24 by omega) (show 24 < 2 ^ 31 by decide)), nI_clamp (show i < 2 ^ 31 by omega)]
        by_cases c4 : a3 = 0
        · rw [if_pos c4, if_pos c4]
          exact ⟨_, _, _, rfl, by rw [g1], h.next hR⟩
        · rw [if_neg c4, if_neg c4]
          exact ⟨_, _, _, rfl, by rw [g2], h.next hR⟩
      · rw [if_neg (fun q => c3 (e9.mp q))]
        have hF := h.found hR 2
        have h9 := tI (show s < 2 ^ 31 by omega)
        clear h hall R1 gp
        by_cases c4 : a2 < 0
        · rw [if_pos c4]
          exact ⟨_, _, _, rfl, rfl, hF⟩
        · rw [if_neg c4, if_neg (show ¬ a2 < nI s from fun q => c3 (by
            have q1 := lt_I.mp q
            have q2 : ¬ a2.toInt < 0 := fun z => c4 (lt_I.mpr z)
            omega))]
          exact ⟨_, _, _, rfl, rfl, hF⟩
    · rw [if_neg c2, if_neg c2]
      exact ⟨_, _, _, rfl, rfl, h.found hR 1⟩
  · rw [if_neg c, M_need_no N hw 1 a1 μm ew (Or.inl c)]
    exact ⟨_, _, _, rfl, rfl, h.next hR⟩
theorem sm_mark {RC : Nat → Mm → Prop} (hR : RCok RC) (N : Nat) : Sm_mark (Rel RC) N := by
  intro k _ a1 a2 μx μm h
  obtain ⟨h1, w, hw, ew, hall, _⟩ := id h.2.2.2.1
  unfold f_W_mark f_M_mark
  rw [Cr_has_eq N hw a1 μx (h1.trans ew), f_M_in_eq]
  simp only [bnS, if01]
  have hnx := h.next hR
  by_cases c : 0 ≤ a1.toInt ∧ a1.toInt < w
  · obtain ⟨j, hj, rfl⟩ := row_of w c
    have hj8 : j < 8 := by omega
    rw [if_pos c]
    by_cases cv : 0 ≤ a2.toInt ∧ a2.toInt ≤ 3
    · rw [if_neg (show ¬ a2 < 0 by rw [lt_I, show (0 : Int32).toInt = 0 from rfl]; omega), if_pos (show a2 ≤ 3 by rw [le_I, show (3 : Int32).toInt = 3 from rfl]; omega), if_pos (show (0 : Int32).toInt ≤ a2.toInt ∧ a2.toInt ≤ (3 : Int32).toInt from cv)]
      have R1 : RW1 (μx.1 (WK j)) (μx.1 (WK j + 1)) (μx.1 (WK j + 2)) (μm.1 10) (μm.1 11) (μm.1 12) (μm.1 13) (μm.1 14) (μm.1 15) (μm.1 16) (μm.1 17) (μm.1 20) (μm.1 18) (μm.1 19) j := hall j hj
      have ea : μx.1 (WK j) 6 = μm.1 16 j := R1.2.2.2.2.2.2.1
      have gz : μm.1 16 j = 0 ∨ μm.1 16 j = 1 := R1.2.2.2.2.2.2.2.2.2.2.2.2.2.2.2.1
      rw [Cr_lacks_eq N (by omega) μx (by rw [ea]; exact gz), M_need_yes N hw hj (by decide) μm ew, ea]
      simp only [bnS, fd1]
      by_cases c2 : μm.1 16 j = 0
      · rw [if_pos c2, if_pos c2, Cr_get_eq N hj8]
        simp only [bnS]
        rw [if_pos hj8, if_pos (show (0 : Int32) ≤ 0 by decide)]
        unfold f_Wk_isOf f_Wk_isOf_B25 f_Wk_markOf f_M_mark_B47 f_M_mark_B51 f_M_mark_B52
        obtain ⟨e0, e1, e2, e3, e4, e5, e6, e8, e7, b1, b2, b3, b4, b5, b6, b7, b8, b9, c1, c2', c3⟩ := R1
        simp only [bnS, fd3, md3, if_pos (ixb_t hj8 (show 8 < 2 ^ 31 by decide)), nI_clamp (show j < 2 ^ 31 by omega), e0, e1, e2, e8]
        have hF := h.found hR 3
        have est : (if μm.1 17 j ≤ 0 then (some (-9, μx) : Option (Int32 × Mm)) else some (μx.1 (WK j) 7, μx)) = some (μm.1 20 j, μx) := by
          rcases b8 with q | q
          · rw [q, if_pos (by decide), b9 q]
          · have n0 : ¬ μm.1 17 j ≤ 0 := by
              rw [le_I, show (0 : Int32).toInt = 0 from rfl]; omega
            rw [if_neg n0, e7 (fun z => n0 (by rw [z]; decide))]
        obtain ⟨z, hz, rfl⟩ := row_of (x := a2) 4 ⟨cv.1, by omega⟩
        rcases (show z = 0 ∨ z = 1 ∨ z = 2 ∨ z = 3 by omega) with rfl | rfl | rfl | rfl <;> rcases b2 with q | q | q | q <;> rw [q] <;> simp +decide only [show nI 0 = (0 : Int32) from rfl, show nI 1 = (1 : Int32) from rfl, show nI 2 = (2 : Int32) from rfl, show nI 3 = (3 : Int32) from rfl, if_true, if_false, reduceIte, bnS, e0, e1, e2, e8, est] <;> first | exact ⟨_, _, _, rfl, rfl, hF⟩ | exact ⟨_, _, _, rfl, rfl, hnx⟩ | (rw [e3 q]; exact ⟨_, _, _, rfl, rfl, hnx⟩)
      · rw [if_neg c2, if_neg c2]
        exact ⟨_, _, _, rfl, rfl, h.found hR 1⟩
    · rw [if_neg (show ¬ ((0 : Int32).toInt ≤ a2.toInt ∧ a2.toInt ≤ (3 : Int32).toInt) from cv), M_need_no N hw 0 (nI j) μm ew (Or.inr rfl)]
      clear h hall
      repeat' split
      all_goals first | exact ⟨_, _, _, rfl, rfl, hnx⟩ | (exfalso; simp only [lt_I, le_I, eq_I, Int32.reduceToInt] at *; omega)
  · rw [if_neg c, M_need_no N hw _ a1 μm ew (Or.inl c)]
    exact ⟨_, _, _, rfl, rfl, hnx⟩
