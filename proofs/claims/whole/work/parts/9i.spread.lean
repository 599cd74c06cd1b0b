/-! PURE 88: spread -/
theorem sm_spread {TK} (N : Nat) (hN : 61000 ≤ N) : Sm_spread (Rel (RCv TK)) N := by
  have hR := RCv_ok TK
  intro k hk a1 a2 μx μm h
  obtain ⟨D, I, X, M⟩ := h.data
  have w8 := I.w8
  have hnx := h.next hR
  have z0 : (0 : Int32) ≤ 0 := by decide
  have n1 : ¬ (0 : Int32) ≤ -1 := by decide
  have n4 : ¬ (0 : Int32) ≤ -4 := by decide
  have n3 : ¬ (0 : Int32) ≤ -3 := by decide
  have n6 : ¬ (0 : Int32) ≤ -6 := by decide
  unfold f_W_spread f_M_spread f_M_needOne
  rw [Cr_has_eq N w8 a1 μx X.w, f_M_in_eq]
  simp only [bnS, if01, show (0 : Int32).toInt = 0 from rfl, show (14399 : Int32).toInt = 14399 from rfl]
  by_cases c : 0 ≤ a1.toInt ∧ a1.toInt < D.w
  · obtain ⟨a, ha, rfl⟩ := row_of D.w c
    simp only [if_pos c]
    rw [W_isStart_eq]
    simp only [bnS, if01]
    by_cases cs : 0 ≤ a2.toInt ∧ a2.toInt ≤ 14399
    · obtain ⟨F, hF, rfl⟩ := row_of (x := a2) 14400 ⟨cs.1, by omega⟩
      simp only [if_pos cs]
      rw [Cr_lacks_eq N (show a < 8 by omega) μx (by rw [X.gn a ha]; exact b2_z _), M_need_yes N w8 ha (by decide) μm M.w, X.gn a ha, M.gn a ha]
      simp only [bnS, fd1]
      by_cases g1 : b2 (D.gn a) = 0
      · simp only [if_pos g1, bnS, if_pos z0, if_true]
        obtain ⟨μ', D', e, h', I', X', M', C'⟩ := h.fresh hk N (by omega)
        have ww : D.w = D'.w := (nI_eq (by omega) (by have := I'.w8; omega)).mp (M.w.symm.trans M'.w)
        have ha' : a < D'.w := ww ▸ ha
        have e0 := h'.2.2.2.2.2.1
        have hga := M_goes_eq N (by omega) I' (L := 0) (by decide) ha' μm M' e0
        rw [D'.goL0] at hga
        rw [e, bvS, Cr_goes_eq N I' ha' μ' C', hga]
        simp only [bnS]
        by_cases ga : D'.go a = true
        · simp only [if_neg (show ¬ b2 (D'.go a) = 0 by rw [ga]; decide)]
          rcases Cr_spent_eq N (by omega) I' μ' X' C' with ⟨q, sh⟩ | ⟨q, ns⟩
          · rcases M_areShort_eq N (by omega) I' μm M' e0 with ⟨p, _⟩ | ⟨p, ns⟩
            · rw [q, p, bnS, bnS, if_pos rfl, if_neg (show ¬ (1 : Int32) = 0 by decide), bnS, if_pos z0, i2lN (by omega), show (27720 : Int64) = lN 27720 from rfl, lN_mul]
              obtain ⟨Tc, Tm, s', μ3, μ4, p1, p2, p3, p4, p5, p6, p7, p8, p9, p10⟩ := word_run N hN I' sh (A := 0) (by decide) ha' ga hF μ' μm X' C' M' e0
              have hl := hvB_lt I' s'
              have w8' := I'.w8
              rw [show nI 0 = (0 : Int32) from rfl] at p1
              have M4 := p5.dm M'
              have lp := M_spread_loop N I' Tm μ4 M4.w p6 p8 N 0 (by omega) (by omega)
              have c0 : nI (cnt (fun w => decide (0 ≤ Tm w)) 0) = (0 : Int32) := rfl
              rw [c0, show nI 0 = (0 : Int32) from rfl] at lp
              rw [p1, p4, bnS, bvS, lp, bitCount_eq N (by omega), bnS, cnt_bs _ (by omega)]
              have ec : cnt s' D'.w = cnt (fun w => decide (0 ≤ Tm w)) D'.w := cnt_ext D'.w (fun i hi => by
                cases si : s' i
                · rcases p10 with r | r
                  · exact absurd (Nat.and_zero _) r
                  · have := r i hi si
                    exact (decide_eq_false (by omega)).symm
                · have := p7 i si
                  exact (decide_eq_true (by omega)).symm)
              rw [ec]
              exact ⟨_, _, _, rfl, rfl, ((h'.xfr hR p2).mfr p5).next hR⟩
            · exact absurd sh ns
          · rcases M_areShort_eq N (by omega) I' μm M' e0 with ⟨p, sh⟩ | ⟨p, _⟩
            · exact absurd sh ns
            · rw [q, p, bnS, bnS, if_neg (show ¬ (1 : Int32) = 0 by decide), if_pos rfl, bnS, if_neg n6]
              exact ⟨_, _, _, rfl, rfl, h'.next hR⟩
        · have gf : b2 (D'.go a) = 0 := by cases q : D'.go a; rfl; exact absurd q ga
          simp only [if_pos gf, bnS, if_neg n4]
          exact ⟨_, _, _, rfl, rfl, h'.next hR⟩
      · simp only [if_neg g1, bnS, if_neg n3]
        exact ⟨_, _, _, rfl, rfl, h.found hR 1⟩
    · simp only [if_neg cs]
      rw [M_need_no N w8 _ _ μm M.w (Or.inr rfl)]
      simp only [bnS, if_neg n1]
      exact ⟨_, _, _, rfl, rfl, hnx⟩
  · simp only [if_neg c]
    rw [M_need_no N w8 _ a1 μm M.w (Or.inl c)]
    simp only [bnS, if_neg n1]
    exact ⟨_, _, _, rfl, rfl, hnx⟩
