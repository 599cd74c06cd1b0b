/-! PURE 89: word -/
theorem frac_self (F : Nat) : F * 27720 / Nat.gcd (F * 27720) 27720 = F / Nat.gcd F 1 ∧ 27720 / Nat.gcd (F * 27720) 27720 = 1 / Nat.gcd F 1 := by
  have e : Nat.gcd (F * 27720) 27720 = 27720 := Nat.gcd_eq_right (Nat.dvd_mul_left 27720 F)
  rw [e, Nat.gcd_one_right, Nat.mul_div_cancel _ (by decide), Nat.div_one]
  exact ⟨rfl, rfl⟩
theorem sm_word {TK} (N : Nat) (hN : 61000 ≤ N) : Sm_word (Rel (RCv TK)) N := by
  have hR := RCv_ok TK
  intro k hk a1 a2 a3 μx μm h
  obtain ⟨D, I, X, M⟩ := h.data
  have w8 := I.w8
  have hnx := h.next hR
  have z0 : (0 : Int32) ≤ 0 := by decide
  have n1 : ¬ (0 : Int32) ≤ -1 := by decide
  have n4 : ¬ (0 : Int32) ≤ -4 := by decide
  have n3 : ¬ (0 : Int32) ≤ -3 := by decide
  have n6 : ¬ (0 : Int32) ≤ -6 := by decide
  have o1 : ¬ (1 : Int32) = 0 := by decide
  unfold f_W_word f_M_word f_W_word_B53
  rw [Cr_has_eq N w8 a1 μx X.w]
  simp only [bnS, if01]
  by_cases eq : a1 = a3
  · subst eq
    rw [if_pos rfl]
    unfold f_M_needOne
    rw [f_M_in_eq]
    simp only [bnS, if01, show (0 : Int32).toInt = 0 from rfl, show (14399 : Int32).toInt = 14399 from rfl]
    by_cases c : 0 ≤ a1.toInt ∧ a1.toInt < D.w
    · rw [if_pos c, Cr_has_eq N w8 a1 μx X.w]
      simp only [bnS, if01]
      rw [if_pos c]
      obtain ⟨a, ha, rfl⟩ := row_of D.w c
      rw [W_isStart_eq]
      simp only [bnS, if01]
      by_cases cs : 0 ≤ a2.toInt ∧ a2.toInt ≤ 14399
      · obtain ⟨F, hF, rfl⟩ := row_of (x := a2) 14400 ⟨cs.1, by omega⟩
        simp only [if_pos cs]
        rw [Cr_lacks_eq N (show a < 8 by omega) μx (by rw [X.gn a ha]; exact b2_z _), M_need_yes N w8 ha (by decide) μm M.w, X.gn a ha, M.gn a ha]
        simp only [bnS, fd1]
        by_cases g1 : b2 (D.gn a) = 0
        · simp only [if_pos g1, bnS, if_pos z0, if_true]
          rw [Cr_lacks_eq N (show a < 8 by omega) μx (by rw [X.gn a ha]; exact b2_z _), X.gn a ha]
          simp only [if_pos g1, bnS]
          obtain ⟨μ', D', e, h', I', X', M', C'⟩ := h.fresh hk N (by omega)
          have ww : D.w = D'.w := (nI_eq (by omega) (by have := I'.w8; omega)).mp (M.w.symm.trans M'.w)
          have ha' : a < D'.w := ww ▸ ha
          have e0 := h'.2.2.2.2.2.1
          have hga := M_goes_eq N (by omega) I' (L := 0) (by decide) ha' μm M' e0
          rw [D'.goL0] at hga
          rw [e, bvS, Cr_goes_eq N I' ha' μ' C', hga]
          simp only [bnS]
          by_cases ga : D'.go a = true
          · simp only [if_neg (show ¬ b2 (D'.go a) = 0 by rw [ga]; decide)]
            rw [Cr_goes_eq N I' ha' μ' C', bnS, if_neg (show ¬ b2 (D'.go a) = 0 by rw [ga]; decide)]
            rcases Cr_spent_eq N (by omega) I' μ' X' C' with ⟨q, sh⟩ | ⟨q, ns⟩
            · rcases M_areShort_eq N (by omega) I' μm M' e0 with ⟨p, _⟩ | ⟨p, ns⟩
              · obtain ⟨r, μ3, p1, p2, p3⟩ := word_self N hN I' sh ha' ga hF μ' X' C'
                have fs := frac_self F
                rw [q, p, bnS, bnS, if_pos rfl, if_neg o1, bnS, if_pos z0, i2lN (by omega), show (27720 : Int64) = lN 27720 from rfl, lN_mul, shl1 (by omega), p1, bnS]
                unfold f_Me_wordAt
                rw [if_pos (ixb_t (show a < 8 by omega) (show 8 < 2 ^ 31 by decide)), nI_clamp (show a < 2 ^ 31 by omega), p3, bnS, W_tellTime_yes N (by omega) (by omega), bnS, show (1 : Int64) = lN 1 from rfl, M_fraction_eq N (by omega) (by omega) (by decide) (by decide), bnS, fs.1, fs.2]
                exact ⟨_, _, _, rfl, rfl, ((h'.xfr hR p2).tells hR _ _).next hR⟩
              · exact absurd sh ns
            · rcases M_areShort_eq N (by omega) I' μm M' e0 with ⟨p, sh⟩ | ⟨p, _⟩
              · exact absurd sh ns
              · rw [q, p, bnS, bnS, if_neg o1, if_pos rfl, bnS, if_neg n6]
                exact ⟨_, _, _, rfl, rfl, h'.next hR⟩
          · have gf : b2 (D'.go a) = 0 := by cases q : D'.go a; rfl; exact absurd q ga
            simp only [if_pos gf, bnS, if_neg n4]
            exact ⟨_, _, _, rfl, rfl, h'.next hR⟩
        · simp only [if_neg g1, bnS, if_neg n3]
          exact ⟨_, _, _, rfl, rfl, h.found hR 1⟩
      · simp only [if_neg cs]
        rw [M_need_no N w8 _ _ μm M.w (Or.inr rfl)]
        simp only [bnS, if_neg n1]
        exact ⟨_, _, _, rfl, rfl, hnx⟩
    · simp only [if_neg c]
      rw [M_need_no N w8 _ a1 μm M.w (Or.inl c)]
      simp only [bnS, if_neg n1]
      exact ⟨_, _, _, rfl, rfl, hnx⟩
  · rw [if_neg eq]
    unfold f_M_needTwo f_M_needTwo_B52
    rw [M_isWalker_eq N w8 a1 μm M.w]
    simp only [bnS, if01]
    by_cases c : 0 ≤ a1.toInt ∧ a1.toInt < D.w
    · simp only [if_pos c]
      rw [Cr_has_eq N w8 a3 μx X.w, M_isWalker_eq N w8 a3 μm M.w]
      simp only [bnS, if01]
      obtain ⟨a, ha, rfl⟩ := row_of D.w c
      by_cases d : 0 ≤ a3.toInt ∧ a3.toInt < D.w
      · obtain ⟨b, hb, rfl⟩ := row_of D.w d
        simp only [if_pos d]
        rw [if_neg eq, W_isStart_eq, f_M_in_eq]
        simp only [bnS, if01, show (0 : Int32).toInt = 0 from rfl, show (14399 : Int32).toInt = 14399 from rfl]
        have ne : a ≠ b := fun q => eq (by rw [q])
        by_cases cs : 0 ≤ a2.toInt ∧ a2.toInt ≤ 14399
        · obtain ⟨F, hF, rfl⟩ := row_of (x := a2) 14400 ⟨cs.1, by omega⟩
          simp only [if_pos cs, if_pos (ixb_t (show a < 8 by omega) (show 8 < 2 ^ 31 by decide)), if_pos (ixb_t (show b < 8 by omega) (show 8 < 2 ^ 31 by decide)), nI_clamp (show a < 2 ^ 31 by omega), nI_clamp (show b < 2 ^ 31 by omega), M.gn a ha, M.gn b hb]
          rw [Cr_lacks_eq N (show a < 8 by omega) μx (by rw [X.gn a ha]; exact b2_z _), X.gn a ha]
          simp only [bnS, fd1, M_mt1]
          by_cases g1 : b2 (D.gn a) = 0
          · simp only [if_pos g1]
            rw [Cr_lacks_eq N (show b < 8 by omega) μx (by rw [X.gn b hb]; exact b2_z _), X.gn b hb]
            simp only [bnS]
            by_cases g2 : b2 (D.gn b) = 0
            · simp only [if_pos g2]
              obtain ⟨μ', D', e, h', I', X', M', C'⟩ := h.fresh hk N (by omega)
              have ww : D.w = D'.w := (nI_eq (by omega) (by have := I'.w8; omega)).mp (M.w.symm.trans M'.w)
              have ha' : a < D'.w := ww ▸ ha
              have hb' : b < D'.w := ww ▸ hb
              have e0 := h'.2.2.2.2.2.1
              have hga := M_goes_eq N (by omega) I' (L := 0) (by decide) ha' μm M' e0
              have hgb := M_goes_eq N (by omega) I' (L := 0) (by decide) hb' μm M' e0
              rw [D'.goL0] at hga hgb
              rw [e, bvS, Cr_goes_eq N I' ha' μ' C', hga]
              simp only [bnS]
              by_cases ga : D'.go a = true
              · simp only [if_neg (show ¬ b2 (D'.go a) = 0 by rw [ga]; decide)]
                rw [Cr_goes_eq N I' hb' μ' C', hgb]
                simp only [bnS]
                by_cases gb : D'.go b = true
                · simp only [if_neg (show ¬ b2 (D'.go b) = 0 by rw [gb]; decide)]
                  rw [if_neg o1]
                  rcases Cr_spent_eq N (by omega) I' μ' X' C' with ⟨q, sh⟩ | ⟨q, ns⟩
                  · rcases M_areShort_eq N (by omega) I' μm M' e0 with ⟨p, _⟩ | ⟨p, ns⟩
                    · have pb : 2 ^ b < 2 ^ 8 := Nat.pow_lt_pow_right (by decide) (by omega)
                      obtain ⟨Tc, Tm, s', μ3, μ4, p1, p2, p3, p4, p5, p6, p7, p8, p9, p10⟩ := word_run N hN I' sh (A := 2 ^ b) (by omega) ha' ga hF μ' μm X' C' M' e0
                      rw [q, p, bnS, bnS, if_pos rfl, if_neg o1, bnS, if_pos z0, i2lN (by omega), show (27720 : Int64) = lN 27720 from rfl, lN_mul, shl1 (by omega), p1, p4, bnS, bvS]
                      unfold f_Me_wordAt
                      have hh := (h'.xfr hR p2).mfr p5
                      have bm := p8 b
                      have bc := p9 b
                      rw [if_pos (ixb_t (show b < 8 by omega) (show 8 < 2 ^ 31 by decide)), nI_clamp (show b < 2 ^ 31 by omega), p3 b (by omega), bnS, p6 b hb']
                      cases sb : s' b
                      · have neg : Tm b < 0 ∧ Tc b < 0 := by
                          rcases p10 with r | r
                          · refine absurd (Nat.eq_of_testBit_eq (fun i => ?_)) r
                            rw [Nat.testBit_and, bsN_tb, Nat.testBit_two_pow, Nat.zero_testBit]
                            by_cases ib : i = b
                            · rw [ib, sb, Bool.and_false, Bool.false_and]
                            · rw [decide_eq_false (show ¬ b = i from fun q => ib q.symm), Bool.and_false]
                          · exact r b hb' sb
                        rw [show Tm b = -1 by omega, show Tc b = -1 by omega, show zL (-1) = (-1 : Int64) from rfl, W_tellTime_no, bnS, if_neg (by decide)]
                        exact ⟨_, _, _, rfl, rfl, hh.next hR⟩
                      · have eqT := p7 b sb
                        obtain ⟨t, ht⟩ : ∃ t : Nat, Tc b = (t : Int) := ⟨(Tc b).toNat, by omega⟩
                        rw [eqT.1, ht, show zL (t : Int) = lN t from rfl, W_tellTime_yes N (by omega) (by omega), bnS, if_pos ((cmp_ge64 _ _).mpr (by rw [pk_lT (by omega), show (0 : Int64).toInt = 0 from rfl]; omega)), M_fraction_eq N (by omega) (by omega) (by decide) (by decide), bnS]
                        exact ⟨_, _, _, rfl, rfl, (hh.tells hR _ _).next hR⟩
                    · exact absurd sh ns
                  · rcases M_areShort_eq N (by omega) I' μm M' e0 with ⟨p, sh⟩ | ⟨p, _⟩
                    · exact absurd sh ns
                    · rw [q, p, bnS, bnS, if_neg o1, if_pos rfl, bnS, if_neg n6]
                      exact ⟨_, _, _, rfl, rfl, h'.next hR⟩
                · have gf : b2 (D'.go b) = 0 := by cases q : D'.go b; rfl; exact absurd q gb
                  simp only [if_pos gf, bnS, if_neg n4]
                  exact ⟨_, _, _, rfl, rfl, h'.next hR⟩
              · have gf : b2 (D'.go a) = 0 := by cases q : D'.go a; rfl; exact absurd q ga
                simp only [if_pos gf, bnS, if_neg n4]
                exact ⟨_, _, _, rfl, rfl, h'.next hR⟩
            · simp only [if_neg g2, bnS, if_neg n3]
              exact ⟨_, _, _, rfl, rfl, h.found hR 1⟩
          · simp only [if_neg g1, bnS, if_neg n3]
            exact ⟨_, _, _, rfl, rfl, h.found hR 1⟩
        · simp only [if_neg cs, bnS, if_neg n1]
          exact ⟨_, _, _, rfl, rfl, hnx⟩
      · simp only [if_neg d, bnS, if_neg n1]
        exact ⟨_, _, _, rfl, rfl, hnx⟩
    · simp only [if_neg c, bnS, if_neg n1]
      exact ⟨_, _, _, rfl, rfl, hnx⟩
