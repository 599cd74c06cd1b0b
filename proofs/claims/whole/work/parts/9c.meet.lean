/-! PURE 82: meet -/
theorem W_isStart_eq (N : Nat) (a : Int32) (μ : Mm) : f_W_isStart N a μ = some (if 0 ≤ a.toInt ∧ a.toInt ≤ 14399 then 1 else 0, μ) := by
  unfold f_W_isStart
  by_cases h1 : a < 0
  · rw [if_pos h1, if_neg]
    have : a.toInt < 0 := lt_I.mp h1
    omega
  · have h1' : ¬ a.toInt < 0 := fun q => h1 (lt_I.mpr q)
    rw [if_neg h1]
    by_cases h2 : (14400 : Int32) ≤ a
    · rw [if_pos h2, if_neg]
      have : (14400 : Int) ≤ a.toInt := le_I.mp h2
      omega
    · have h2' : ¬ (14400 : Int) ≤ a.toInt := fun q => h2 (le_I.mpr q)
      rw [if_neg h2, if_pos (by omega)]
theorem W_tellTime_no (N : Nat) (μ : Mm) : f_W_tellTime N (-1) μ = some (-9, μ) := by
  unfold f_W_tellTime
  rw [if_pos ((lg_cmp_eq _ _).mpr rfl)]
theorem lN_m1 {x : Nat} (hx : x < 2 ^ 63) : ¬ lN x = (-1 : Int64) := fun q => by
  have := congrArg Int64.toInt q
  rw [pk_lT hx, show (-1 : Int64).toInt = -1 from rfl] at this
  omega
theorem W_tellTime_yes (N : Nat) (hN : 130 ≤ N) {x : Nat} (hx : x < 2 ^ 62) (μ : Mm) : f_W_tellTime N (lN x) μ = some (1, sL (sL μ 1 3 (lN (x / Nat.gcd x 27720))) 1 4 (lN (27720 / Nat.gcd x 27720))) := by
  unfold f_W_tellTime
  rw [if_neg (fun q => lN_m1 (by omega) ((lg_cmp_eq _ _).mp q)), show (27720 : Int64) = lN 27720 from rfl, Ta_tell_eq N hN hx (by decide) (by decide), bvS]
theorem M_mt1 (N : Nat) (μ : Mm) : f_M_meets N 1 μ = some (-3, mf μ 1) := f_M_meets_eq N (f := 1) (by decide) μ
theorem sm_meet {TK} (N : Nat) (hN : 61000 ≤ N) : Sm_meet (Rel (RCv TK)) N := by
  have hR := RCv_ok TK
  intro k hk a1 a2 a3 μx μm h
  obtain ⟨D, I, X, M⟩ := h.data
  have w8 := I.w8
  have hnx := h.next hR
  have n1 : ¬ (0 : Int32) ≤ -1 := by decide
  have n4 : ¬ (0 : Int32) ≤ -4 := by decide
  have n3 : ¬ (0 : Int32) ≤ -3 := by decide
  have n6 : ¬ (0 : Int32) ≤ -6 := by decide
  unfold f_W_meet f_M_meet f_M_needTwo f_W_meet_B58 f_M_needTwo_B52
  rw [Cr_has_eq N w8 a1 μx X.w, M_isWalker_eq N w8 a1 μm M.w]
  simp only [bnS, if01]
  by_cases c : 0 ≤ a1.toInt ∧ a1.toInt < D.w
  · obtain ⟨a, ha, rfl⟩ := row_of D.w c
    simp only [if_pos c]
    rw [Cr_has_eq N w8 a2 μx X.w, M_isWalker_eq N w8 a2 μm M.w]
    simp only [bnS, if01]
    by_cases d : 0 ≤ a2.toInt ∧ a2.toInt < D.w
    · obtain ⟨b, hb, rfl⟩ := row_of D.w d
      simp only [if_pos d]
      by_cases ne : a = b
      · subst ne
        rw [if_pos rfl, if_pos rfl, bnS, if_neg n1]
        exact ⟨_, _, _, rfl, rfl, hnx⟩
      · have ne' : ¬ nI a = nI b := fun q => ne ((nI_eq (by omega) (by omega)).mp q)
        rw [if_neg ne', if_neg ne', W_isStart_eq, f_M_in_eq]
        simp only [bnS, if01, show (0 : Int32).toInt = 0 from rfl, show (14399 : Int32).toInt = 14399 from rfl]
        by_cases cs : 0 ≤ a3.toInt ∧ a3.toInt ≤ 14399
        · obtain ⟨F, hF, rfl⟩ := row_of (x := a3) 14400 ⟨cs.1, by omega⟩
          simp only [if_pos cs, if_pos (ixb_t (show a < 8 by omega) (show 8 < 2 ^ 31 by decide)), if_pos (ixb_t (show b < 8 by omega) (show 8 < 2 ^ 31 by decide)), nI_clamp (show a < 2 ^ 31 by omega), nI_clamp (show b < 2 ^ 31 by omega), M.gn a ha, M.gn b hb]
          rw [Cr_lacks_eq N (show a < 8 by omega) μx (by rw [X.gn a ha]; exact b2_z _), X.gn a ha]
          simp only [bnS, fd1, M_mt1]
          by_cases g1 : b2 (D.gn a) = 0
          · simp only [if_pos g1]
            rw [Cr_lacks_eq N (show b < 8 by omega) μx (by rw [X.gn b hb]; exact b2_z _), X.gn b hb]
            simp only [bnS]
            by_cases g2 : b2 (D.gn b) = 0
            · simp only [if_pos g2]
              obtain ⟨μ', D', e, h', I', X', M', C'⟩ := h.fresh hk N (by omega)
              have ww : D.w = D'.w := (nI_eq (by omega) (by have := I'.w8; omega)).mp (M.w.symm.trans M'.w)
              have ha' : a < D'.w := ww ▸ ha
              have hb' : b < D'.w := ww ▸ hb
              have hga := M_goes_eq N (by omega) I' (L := 0) (by decide) ha' μm M' h'.2.2.2.2.2.1
              have hgb := M_goes_eq N (by omega) I' (L := 0) (by decide) hb' μm M' h'.2.2.2.2.2.1
              rw [D'.goL0] at hga hgb
              rw [e, bvS, Cr_goes_eq N I' ha' μ' C', hga]
              simp only [bnS]
              by_cases ga : D'.go a = true
              · simp only [if_neg (show ¬ b2 (D'.go a) = 0 by rw [ga]; decide)]
                rw [Cr_goes_eq N I' hb' μ' C', hgb]
                simp only [bnS]
                by_cases gb : D'.go b = true
                · simp only [if_neg (show ¬ b2 (D'.go b) = 0 by rw [gb]; decide)]
                  have j := I'.j2 ha' hb' ga gb
                  rw [Cr_pair N (by omega) I' ha' hb' ga gb ne μ' X' C', if_pos trivial, M_jointOf_eq N (by omega) I' ha' hb' ga gb μm M']
                  simp only [bnS]
                  by_cases s : 14400 < D'.j2 a b
                  · rw [if_pos s, if_neg (show ¬ (1 : Int32) ≤ -6 by decide), if_neg (fun q => by have := (cmp_le _ _).mp q; rw [pk_lT (by omega), show (14400 : Int64).toInt = 14400 from rfl] at this; omega), bnS, if_neg n6]
                    exact ⟨_, _, _, rfl, rfl, h'.next hR⟩
                  · rw [if_neg s, if_pos (show (1 : Int32) ≤ nI (D'.j2 a b) from (nIc (a := 1) (by decide) (by omega)).mpr j.1), if_pos ((cmp_le _ _).mpr (by rw [pk_lT (by omega), show (14400 : Int64).toInt = 14400 from rfl]; omega)), bnS, if_pos (show (0 : Int32) ≤ 0 by decide), i2lN (by omega), show (27720 : Int64) = lN 27720 from rfl, lN_mul]
                    obtain ⟨r, μ1, k1, k2, k3, k4⟩ := Me_firstOf_eq N (by omega) I' ha' hb' ga gb ne (by omega) (F := F * 27720) (by omega) μ' X' C'
                    obtain ⟨r', μ2, l1, l2, l3⟩ := M_meetFrom_eq N (by omega) I' ha' hb' ga gb (F := F * 27720) (by omega) (by omega) μm M'
                    have er : r = r' := CR_MR I' ha' hb' ga gb k4 l3 (Or.inl (by omega))
                    subst er
                    rw [k1, l1]
                    simp only [bnS]
                    have hh := (h'.xfr hR k2).mfr l2.mfr
                    rcases k4 with ⟨q, _⟩ | ⟨x, q, x1, x2, _⟩
                    · rw [q, W_tellTime_no, bnS, if_neg (by decide)]
                      exact ⟨_, _, _, rfl, rfl, hh.next hR⟩
                    · rw [q, W_tellTime_yes N (by omega) (by omega), bnS, if_pos ((cmp_ge64 _ _).mpr (by rw [pk_lT (by omega), show (0 : Int64).toInt = 0 from rfl]; omega)), M_fraction_eq N (by omega) (by omega) (by decide) (by decide), bnS]
                      exact ⟨_, _, _, rfl, rfl, (hh.tells hR _ _).next hR⟩
                · have gf : b2 (D'.go b) = 0 := by cases q : D'.go b; rfl; exact absurd q gb
                  simp only [if_pos gf, bnS, if_neg n4]
                  exact ⟨_, _, _, rfl, rfl, h'.next hR⟩
              · have gf : b2 (D'.go a) = 0 := by cases q : D'.go a; rfl; exact absurd q ga
                simp only [if_pos gf, bnS, if_neg n4]
                exact ⟨_, _, _, rfl, rfl, h'.next hR⟩
            · simp only [if_neg g2, bnS, if_neg n3]
              exact ⟨_, _, _, rfl, rfl, h.found hR 1⟩
          · simp only [if_neg g1, bnS, if_neg n3]
            exact ⟨_, _, _, rfl, rfl, h.found hR 1⟩
        · simp only [if_neg cs, bnS, if_neg n1]
          exact ⟨_, _, _, rfl, rfl, hnx⟩
    · simp only [if_neg d, bnS, if_neg n1]
      exact ⟨_, _, _, rfl, rfl, hnx⟩
  · simp only [if_neg c, bnS, if_neg n1]
    exact ⟨_, _, _, rfl, rfl, hnx⟩
