/-! PURE 74: a stride goes on -/
theorem St_goOn_eq (N : Nat) {D : Da} (I : DI D) {q j : Nat} (hq : q = 72 ∨ q = 73) (hj : j < D.w) (g : D.go j = true) (hk : D.kd j ≠ 3) {C E : Int} (hE : E ≤ 2 ^ 39) (μ : Mm) (X : DX D μ) (K : CrewOk D μ) (S : StO D q j C E μ) : ∃ μ' E', f_St_goOn N q μ = some μ' ∧ SQr q μ μ' ∧ StO D q j E E' μ' ∧ E + 10 ≤ E' := by
  have w8 := I.w8
  have k3 := (I.kd j hj)
  obtain ⟨h0, h, n, s, L, sg, sv, w⟩ := S
  rcases w with w | ⟨_, w1, w2, R, i, w3, w4, w5, w6, w7, w9, w10⟩
  · exact absurd w.1 hk
  · have s24 := I.sz24 hj
    have nl : nx (D.sz j) i < D.sz j := by unfold nx; split <;> omega
    have cl : (nI j).toNatClampNeg = j := nI_clamp (by omega)
    have j8 : j < 8 := by omega
    have per := D.per_cm (j := j) hk
    unfold f_St_goOn f_St_goOn_B51
    simp only [h0, cl, if_pos j8, w6, X.kd j hj]
    rw [if_neg (show ¬ nI (D.kd j) = 3 from fun q => hk ((nI_eq (b := 3) (by omega) (by decide)).mp q)), Wk_legBehind_eq N I hj w3 _ X, bnS]
    simp only [sI_e]
    have f8 : SQr q μ (sI μ q 1 (nI (nx (D.sz j) i))) := SQr.i q 1 _ _
    have X8 := (f8.x hq).dx w8 X
    have K8 := (f8.x hq).crew w8 K
    have h08 : (sI μ q 1 (nI (nx (D.sz j) i))).1 q 0 = nI j := by rw [sI_o _ _ _ _ (by decide)]; exact h0
    have h58 : (sI μ q 1 (nI (nx (D.sz j) i))).1 q 5 = nI (D.sp j) := by rw [sI_o _ _ _ _ (by decide), sv.2.2.1, w2]
    have h18 : (sI μ q 1 (nI (nx (D.sz j) i))).1 q 1 = nI (nx (D.sz j) i) := sI_e _ _ _ _
    by_cases c : i + 1 < D.sz j
    · have en : nx (D.sz j) i = i + 1 := by unfold nx; rw [if_pos c]
      rw [en] at nl f8 X8 K8 h08 h58 h18 ⊢
      have lp := I.lt_pos hj g hk nl
      have cs : D.cm j (i + 1 + 1) = D.cm j (i + 1) + D.lt j (i + 1) := rfl
      rw [if_neg (nI_ne0 (by omega) (by omega)), St_read_eq N I hq hj g hk nl (R := R) _ X8 K8 h08 h18 w7, bvS]
      obtain ⟨a1, a2⟩ := StR_ok I (q := q) hj g hk nl w4 w5 (by omega) _ h08 h18 w7 h58
      rw [← w10] at a1
      exact ⟨_, _, rfl, f8.trans a2, a1, by omega⟩
    · have en : nx (D.sz j) i = 0 := by unfold nx; rw [if_neg c]
      have is : i + 1 = D.sz j := by omega
      rw [en] at nl f8 X8 K8 h08 h58 h18 ⊢
      have lp := I.lt_pos hj g hk nl
      have cs : D.cm j (0 + 1) = D.cm j 0 + D.lt j 0 := rfl
      have c0 : D.cm j 0 = 0 := rfl
      rw [is, ← per] at w10
      have p46 := I.per1 hj g
      rw [if_pos (show nI 0 = 0 from rfl)]
      simp only [h08, cl, if_pos j8, sI2, w7, (K8.2 j hj g).1]
      rw [i2lN (by omega), lN_z, zL_add]
      have f9 : SQr q μ (sL (sI μ q 1 (nI 0)) q 2 (zL (R + D.per j))) := f8.trans (SQr.l q 2 _ _)
      have X9 := (f9.x hq).dx w8 X
      have K9 := (f9.x hq).crew w8 K
      have h29 : (sL (sI μ q 1 (nI 0)) q 2 (zL (R + D.per j))).2 q 2 = zL (R + D.per j) := sL_e _ _ _ _
      have dv : (D.per j : Int) ∣ (R + D.per j) - D.st j := by
        have := Int.dvd_add w4 (Int.dvd_refl (D.per j : Int))
        rwa [show R - (D.st j : Int) + (D.per j : Int) = R + D.per j - D.st j by omega] at this
      rw [St_read_eq N I hq hj g hk nl (R := R + D.per j) _ X9 K9 h08 h18 h29, bvS]
      obtain ⟨a1, a2⟩ := StR_ok I (q := q) hj g hk nl dv (by omega) (by omega) (sL (sI μ q 1 (nI 0)) q 2 (zL (R + D.per j))) h08 h18 h29 h58
      rw [show R + (D.per j : Int) + (D.cm j 0 : Nat) = E by omega] at a1
      exact ⟨_, _, rfl, f9.trans a2, a1, by omega⟩
