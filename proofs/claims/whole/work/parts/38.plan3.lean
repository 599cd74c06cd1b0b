/-! PURE 18: plan, whole -/
theorem plan_mid {RC : Nat → Mm → Prop} (hR : RCok RC) {N : Nat} (hN : 100 ≤ N) {k w j r : Nat} {qi a4 s0 : Int32} {μx μm : Mm} (h : Rel RC k μx μm) (ew : μm.1 0 15 = nI w) (hw : w ≤ 8) (hj : j < w) (hr : r < 8) (hg : (qi = -9 ∧ s0 = 0) ∨ (s0 = 1 ∧ ∃ q, qi = nI q ∧ q < 8)) : ∃ o μx' μm', f_W_plan_B43 N (nI j) (nI r) qi a4 s0 μx = some (o, μx') ∧ f_M_plan_B28 N (nI j) (nI r) qi a4 μm = some (o, μm') ∧ Rel RC (k + 1) μx' μm' := by
  obtain ⟨S1, S2, S3⟩ := id h.2.1
  obtain ⟨sz, s1, s40, sb⟩ := S1 r hr
  obtain ⟨h1, w2, hw2, ew2, hall, _⟩ := id h.2.2.2.1
  have hw22 : w2 = w := (nI_eq (by omega) (by omega)).mp (ew2.symm.trans ew)
  subst hw22
  have hj8 : j < 8 := by omega
  have R1 : RW1 (μx.1 (WK j)) (μx.1 (WK j + 1)) (μx.1 (WK j + 2)) (μm.1 10) (μm.1 11) (μm.1 12) (μm.1 13) (μm.1 14) (μm.1 15) (μm.1 16) (μm.1 17) (μm.1 20) (μm.1 18) (μm.1 19) j := hall j hj
  have ea : μx.1 (WK j) 6 = μm.1 16 j := R1.2.2.2.2.2.2.1
  have gz : μm.1 16 j = 0 ∨ μm.1 16 j = 1 := R1.2.2.2.2.2.2.2.2.2.2.2.2.2.2.2.1
  have hF : ∃ o μx' μm', f_W_plan_B96 N μx = some (o, μx') ∧ f_M_plan_B75 N μm = some (o, μm') ∧ Rel RC (k + 1) μx' μm' := by
    unfold f_W_plan_B96 f_M_plan_B75
    rw [fd1, md1]
    exact ⟨_, _, _, rfl, rfl, h.found hR 1⟩
  unfold f_W_plan_B43 f_M_plan_B28
  rw [f_M_in_eq]
  simp only [bnS, if01]
  by_cases c4 : 0 ≤ a4.toInt ∧ a4.toInt < 14400
  · rw [if_neg (show ¬ a4 < 0 by rw [lt_I, show (0 : Int32).toInt = 0 from rfl]; omega), if_pos (show a4 < 14400 by rw [lt_I, show (14400 : Int32).toInt = 14400 from rfl]; omega), if_pos (show (0 : Int32).toInt ≤ a4.toInt ∧ a4.toInt ≤ (14399 : Int32).toInt by rw [show (0 : Int32).toInt = 0 from rfl, show (14399 : Int32).toInt = 14399 from rfl]; omega)]
    rw [Cr_lacks_eq N hj8 μx (by rw [ea]; exact gz), ea]
    simp only [bnS, if_pos (ixb_t hj8 (show 8 < 2 ^ 31 by decide)), nI_clamp (show j < 2 ^ 31 by omega), if_pos (ixb_t hr (show 8 < 2 ^ 31 by decide)), nI_clamp (show r < 2 ^ 31 by omega), Sf_lacks_eq N hr, if01, sz]
    by_cases c5 : μm.1 16 j = 0
    · rw [if_pos c5, if_pos c5]
      by_cases c6 : μm.1 2 r = -1
      · rw [if_pos c6, if_pos (show μm.1 2 r < 0 by rw [c6]; decide)]
        exact hF
      · have hs0 : (0 : Int32) ≤ μm.1 2 r := Classical.byContradiction (fun z => c6 ((neg1 s1).mpr z))
        rw [if_neg c6, if_neg (show ¬ μm.1 2 r < 0 from fun z => by rw [lt_I] at z; rw [le_I] at hs0; omega)]
        rcases hg with ⟨g1, g2⟩ | ⟨g2, q, g1, hq⟩
        · rw [if_pos g2, if_pos g1]
          exact plan_core hR hN (q := 0) (gv := 0) h ew hw hj hr (Or.inl ⟨g1, rfl⟩) (by omega) (fun z => by
            rw [g1] at z
            exact absurd z (by decide)) c4 hs0
        · have n9 : qi ≠ -9 := fun z => by
            rw [g1] at z
            have := congrArg Int32.toInt z
            rw [tI (by omega), show (-9 : Int32).toInt = -9 from rfl] at this
            omega
          rw [if_neg (show ¬ s0 = 0 by rw [g2]; decide), if_neg n9]
          obtain ⟨tz, t1, t40, _⟩ := S1 q hq
          rw [g1]
          simp only [Sf_lacks_eq N hq, bnS, if01, if_pos (ixb_t hq (show 8 < 2 ^ 31 by decide)), nI_clamp (show q < 2 ^ 31 by omega), tz]
          by_cases c7 : μm.1 2 q = -1
          · rw [if_pos c7, if_neg (show ¬ (0 : Int32) ≤ μm.1 2 q by rw [c7]; decide)]
            exact hF
          · have ht0 : (0 : Int32) ≤ μm.1 2 q := Classical.byContradiction (fun z => c7 ((neg1 t1).mpr z))
            rw [if_neg c7, if_pos ht0]
            obtain ⟨gv, hgv, eg⟩ := size_nI ht0 t40
            exact plan_core hR hN (q := q) (gv := gv) h ew hw hj hr (Or.inr ⟨rfl, hq⟩) hgv (fun _ => eg) c4 hs0
    · rw [if_neg c5, if_neg c5]
      exact hF
  · have hnx := h.next hR
    rw [if_neg (show ¬ ((0 : Int32).toInt ≤ a4.toInt ∧ a4.toInt ≤ (14399 : Int32).toInt) by rw [show (0 : Int32).toInt = 0 from rfl, show (14399 : Int32).toInt = 14399 from rfl]; omega)]
    by_cases z : a4 < 0
    · rw [if_pos z]
      exact ⟨_, _, _, rfl, rfl, hnx⟩
    · rw [if_neg z, if_neg (show ¬ a4 < 14400 by
        rw [lt_I, show (0 : Int32).toInt = 0 from rfl] at z
        rw [lt_I, show (14400 : Int32).toInt = 14400 from rfl]
        omega)]
      exact ⟨_, _, _, rfl, rfl, hnx⟩
theorem sm_plan {RC : Nat → Mm → Prop} (hR : RCok RC) {N : Nat} (hN : 100 ≤ N) : Sm_plan (Rel RC) N := by
  intro k _ a1 a2 a3 a4 μx μm h
  obtain ⟨h1, w, hw, ew, hall, _⟩ := id h.2.2.2.1
  have hnx := h.next hR
  unfold f_W_plan f_M_plan f_W_plan_B11
  rw [Cr_has_eq N hw a1 μx (h1.trans ew), M_isWalker_eq N hw a1 μm ew]
  simp only [bnS, if01, f_W_isRow_eq, f_M_isRow_eq]
  by_cases c : 0 ≤ a1.toInt ∧ a1.toInt < w
  · obtain ⟨j, hj, rfl⟩ := row_of w c
    simp only [if_pos c]
    by_cases cr : 0 ≤ a2.toInt ∧ a2.toInt < 8
    · obtain ⟨r, hr, rfl⟩ := row_of 8 cr
      simp only [if_pos cr]
      by_cases c9 : a3 = -9
      · rw [if_pos c9, if_pos c9]
        simp only [if_pos trivial]
        exact plan_mid hR hN h ew hw hj hr (Or.inl ⟨c9, rfl⟩)
      · rw [if_neg c9, if_neg c9]
        simp only [if_neg (show ¬ (1 : Int32) = 0 by decide)]
        by_cases cq : 0 ≤ a3.toInt ∧ a3.toInt < 8
        · obtain ⟨q, hq, rfl⟩ := row_of 8 cq
          rw [if_pos cq, if_pos cq]
          exact plan_mid hR hN h ew hw hj hr (Or.inr ⟨rfl, q, rfl, hq⟩)
        · rw [if_neg cq, if_neg cq]
          exact ⟨_, _, _, rfl, rfl, hnx⟩
    · simp only [if_neg cr]
      split <;> exact ⟨_, _, _, rfl, rfl, hnx⟩
  · simp only [if_neg c]
    split <;> exact ⟨_, _, _, rfl, rfl, hnx⟩
