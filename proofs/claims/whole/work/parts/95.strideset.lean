/-! PURE 75: a stride is set -/
theorem StO_stand (N : Nat) {D : Da} (I : DI D) {q j : Nat} (hj : j < D.w) (g : D.go j = true) (hk : D.kd j = 3) (μ : Mm) (h0 : μ.1 q 0 = nI j) : ∃ μ', f_St_stand N q (nI (D.po j)) μ = some μ' ∧ SQr q μ μ' ∧ StO D q j (-2 ^ 40) (2 ^ 40) μ' := by
  unfold f_St_stand
  refine ⟨_, rfl, (((((SQr.i q 3 _ _).trans (SQr.i q 4 _ _)).trans (SQr.i q 5 _ _)).trans (SQr.l q 6 _ _)).trans (SQr.l q 7 _ _)).trans (SQr.l q 8 _ _), ?_, _, _, _, _, seg_guard I hj g hk, ⟨?_, ?_, ?_, ?_, ?_, ?_⟩, Or.inl ⟨hk, rfl, rfl⟩⟩
  · simp only [sL1]
    rw [sI_o _ _ _ _ (by decide), sI_o _ _ _ _ (by decide), sI_o _ _ _ _ (by decide)]; exact h0
  · simp only [sL1]
    rw [sI_o _ _ _ _ (by decide), sI_o _ _ _ _ (by decide), sI_e]
  · simp only [sL1]
    rw [sI_o _ _ _ _ (by decide), sI_e]
  · simp only [sL1]
    rw [sI_e]; rfl
  · rw [sL_o _ _ _ _ (by decide), sL_o _ _ _ _ (by decide), sL_e]; rfl
  · rw [sL_o _ _ _ _ (by decide), sL_e]; rfl
  · rw [sL_e]; rfl
theorem St_set_eq (N : Nat) (hN : 30 ≤ N) {D : Da} (I : DI D) {q j : Nat} (hq : q = 72 ∨ q = 73) (hj : j < D.w) (g : D.go j = true) {F : Nat} (hF : F < 2 ^ 45) (μ : Mm) (X : DX D μ) (K : CrewOk D μ) : ∃ μ' C E, f_St_set N q j (lN F) μ = some μ' ∧ SQr q μ μ' ∧ StO D q j C E μ' ∧ C * 27720 ≤ F ∧ (F : Int) < E * 27720 := by
  have w8 := I.w8
  have k3 := I.kd j hj
  have f1 : SQr q μ (sI μ q 0 (nI j)) := SQr.i q 0 _ _
  have X1 := (f1.x hq).dx w8 X
  have K1 := (f1.x hq).crew w8 K
  have h01 : (sI μ q 0 (nI j)).1 q 0 = nI j := sI_e _ _ _ _
  unfold f_St_set
  simp only []
  rw [X1.kd j hj]
  by_cases hk : D.kd j = 3
  · rw [if_pos (by rw [hk]; rfl), X1.po j hj hk]
    obtain ⟨μ', a1, a2, a3⟩ := StO_stand N I (q := q) hj g hk _ h01
    rw [a1, bvS]
    exact ⟨μ', _, _, rfl, f1.trans a2, a3, by omega, by omega⟩
  · have w0 := Da.why0 ((Da.go_ok g).2.2.2 hk)
    have p1 := I.per1 hj g
    have st := I.st j hj w0.1
    have per := D.per_cm (j := j) hk
    have s24 := I.sz24 hj
    rw [if_neg (show ¬ nI (D.kd j) = 3 from fun q => hk ((nI_eq (b := 3) (by omega) (by decide)).mp q)), X1.st j hj w0.1, (K1.2 j hj g).1, i2lN (by omega), i2lN (by omega), show (27720 : Int64) = zL 27720 from rfl, lN_z, lN_z, lN_z, zL_mul, zL_mul, zL_sub, Jfmod64 N (by omega) (by omega) (by omega) (by omega), bnS]
    obtain ⟨p, hp⟩ : ∃ p : Nat, (p : Int) = ((F : Int) - (D.st j : Int) * 27720) % ((D.per j : Int) * 27720) := ⟨_, Int.toNat_of_nonneg (Int.emod_nonneg _ (by omega))⟩
    have pl : (p : Int) < (D.per j : Int) * 27720 := by rw [hp]; exact Int.emod_lt_of_pos _ (by omega)
    obtain ⟨k, hk2⟩ : ∃ k : Int, (F : Int) - (D.st j : Int) * 27720 = p + (D.per j : Int) * 27720 * k := ⟨((F : Int) - (D.st j : Int) * 27720) / ((D.per j : Int) * 27720), by rw [hp]; exact (Int.emod_add_mul_ediv _ _).symm⟩
    rw [← hp]
    have e1 : (D.per j : Int) * 27720 * k = (D.per j : Int) * k * 27720 := Int.mul_right_comm _ _ _
    rw [e1] at hk2
    obtain ⟨R, hR⟩ : ∃ R : Int, R = (D.st j : Int) + (D.per j : Int) * k := ⟨_, rfl⟩
    have FR : (F : Int) = R * 27720 + p := by omega
    have dv : (D.per j : Int) ∣ R - D.st j := ⟨k, by omega⟩
    have x6 : zL (F : Int) - zL (p : Int) = zL (R * 27720) := by rw [zL_sub]; congr 1; omega
    have x7 : zL (R * 27720) / zL 27720 = zL R := by rw [zL_div (by omega) (by omega) (by decide) (by decide), Int.mul_tdiv_cancel _ (by decide)]
    have x8 : (zL (p : Int) / zL 27720).toInt32 = nI (p / 27720) := by
      rw [show zL (p : Int) = lN p from rfl, show zL 27720 = lN 27720 from rfl, pk_lDiv (by omega) (by decide) (by decide), lN_i]
    rw [if_neg (by decide), x6, x7, x8]
    have f2 : SQr q μ (sL (sI μ q 0 (nI j)) q 2 (zL R)) := f1.trans (SQr.l q 2 _ _)
    have X2 := (f2.x hq).dx w8 X
    have K2 := (f2.x hq).crew w8 K
    have px : p / 27720 < D.cm j (D.sz j) := by omega
    rw [if_neg (by decide), Wk_legAt_eq N hN I hj g hk px _ X2 K2, bnS]
    obtain ⟨l1, l2, l3⟩ := Da.lf_spec (D := D) (j := j) w0.1 px
    obtain ⟨i, hi⟩ : ∃ i, i = D.lf j (p / 27720) := ⟨_, rfl⟩
    rw [← hi] at l1 l2 l3 ⊢
    have f3 : SQr q μ (sI (sL (sI μ q 0 (nI j)) q 2 (zL R)) q 1 (nI i)) := f2.trans (SQr.i q 1 _ _)
    have X3 := (f3.x hq).dx w8 X
    rw [X3.sp j hj]
    have f4 : SQr q μ (sI (sI (sL (sI μ q 0 (nI j)) q 2 (zL R)) q 1 (nI i)) q 5 (nI (D.sp j))) := f3.trans (SQr.i q 5 _ _)
    have X4 := (f4.x hq).dx w8 X
    have K4 := (f4.x hq).crew w8 K
    have g0 : (sI (sI (sL (sI μ q 0 (nI j)) q 2 (zL R)) q 1 (nI i)) q 5 (nI (D.sp j))).1 q 0 = nI j := by
      rw [sI_o _ _ _ _ (by decide), sI_o _ _ _ _ (by decide), sL1, sI_e]
    have g1 : (sI (sI (sL (sI μ q 0 (nI j)) q 2 (zL R)) q 1 (nI i)) q 5 (nI (D.sp j))).1 q 1 = nI i := by
      rw [sI_o _ _ _ _ (by decide), sI_e]
    have g2 : (sI (sI (sL (sI μ q 0 (nI j)) q 2 (zL R)) q 1 (nI i)) q 5 (nI (D.sp j))).2 q 2 = zL R := by
      rw [sI2, sI2, sL_e]
    have g5 : (sI (sI (sL (sI μ q 0 (nI j)) q 2 (zL R)) q 1 (nI i)) q 5 (nI (D.sp j))).1 q 5 = nI (D.sp j) := sI_e _ _ _ _
    rw [St_read_eq N I hq hj g hk l1 (R := R) _ X4 K4 g0 g1 g2, bvS]
    obtain ⟨a1, a2⟩ := StR_ok I (q := q) hj g hk l1 dv (by omega) (by omega) _ g0 g1 g2 g5
    exact ⟨_, _, _, rfl, f4.trans a2, a1, by omega, by omega⟩
