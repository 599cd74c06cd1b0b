/-! PURE 73: a stride is set, and goes on -/
theorem Jfmod64 (N : Nat) {z p : Int} (h1 : -2 ^ 62 ≤ z) (h2 : z < 2 ^ 62) (hp : 0 < p) (hp2 : p < 2 ^ 62) (μ : Mm) : f_Jm_floorMod_f86c9 N (zL z) (zL p) μ = some (zL (z % p), μ) := by
  unfold f_Jm_floorMod_f86c9
  have e := tmod_emod (a := z) hp
  have t1 := Int.tmod_lt_of_pos z hp
  have t2 : -p < z.tmod p := by
    have := Int.tmod_lt_of_pos (-z) hp
    rw [Int.neg_tmod] at this
    omega
  have xm : zL z - zL z / zL p * zL p = zL (z.tmod p) := by
    rw [zL_div (by omega) (by omega) (by omega) (by omega), zL_mul, zL_sub, Int.tmod_def, Int.mul_comm p]
  have z0 : (0 : Int64).toInt = 0 := rfl
  have tm : (zL (z.tmod p)).toInt = z.tmod p := zL_toInt (by omega) (by omega)
  have pos : ¬ zL p < 0 := fun q => by
    have := Int64.lt_iff_toInt_lt.mp q
    rw [zL_toInt (by omega) (by omega), z0] at this
    omega
  have xr := xor64 (zL z) (zL p)
  have zn : zL z < 0 ↔ z < 0 := by rw [Int64.lt_iff_toInt_lt, zL_toInt (by omega) (by omega), z0]
  rw [if_neg (show ¬ zL p = 0 from fun q => absurd ((zL_eq (b := 0) (by omega) (by omega) (by omega) (by omega)).mp q) (by omega)), xm, e]
  simp only []
  by_cases c : z < 0
  · rw [if_neg (fun q => by
      have r := xr.mpr (fun r => pos (r.mp (zn.mpr c)))
      rw [Int64.lt_iff_toInt_lt] at r
      have := (cmp_ge64 _ _).mp q
      omega)]
    by_cases c2 : z.tmod p = 0
    · rw [if_pos ((lg_cmp_eq _ _).mpr (by rw [c2]; rfl)), if_neg (by omega)]
    · rw [if_neg (fun q => c2 (by rw [← tm, (lg_cmp_eq _ _).mp q]; rfl)), zL_add, if_pos]
      have : z.tmod p ≤ 0 := by
        have := Int.tmod_nonneg p (a := -z) (by omega)
        rw [Int.neg_tmod] at this
        omega
      omega
  · rw [if_pos (by
      have : ¬ (zL z ^^^ zL p < 0) := fun q => (xr.mp q) ⟨fun r => absurd (zn.mp r) c, fun r => absurd r pos⟩
      rw [Int64.lt_iff_toInt_lt] at this
      rw [cmp_ge64]; omega)]
    have := Int.tmod_nonneg p (a := z) (by omega)
    rw [if_neg (by omega)]
def SQr (q : Nat) (μ μ' : Mm) : Prop := ∀ c, c ≠ q → μ'.1 c = μ.1 c ∧ μ'.2 c = μ.2 c
theorem SQr.refl (q : Nat) (μ : Mm) : SQr q μ μ := fun _ _ => ⟨rfl, rfl⟩
theorem SQr.trans {q : Nat} {μ μ' μ'' : Mm} (a : SQr q μ μ') (b : SQr q μ' μ'') : SQr q μ μ'' := fun c h => ⟨(b c h).1.trans (a c h).1, (b c h).2.trans (a c h).2⟩
theorem SQr.i (q f : Nat) (μ : Mm) (v : Int32) : SQr q μ (sI μ q f v) := fun c h => ⟨sI_ne _ _ _ h, rfl⟩
theorem SQr.l (q f : Nat) (μ : Mm) (v : Int64) : SQr q μ (sL μ q f v) := fun c h => ⟨rfl, by rw [sL2, if_neg h]⟩
theorem SQr.x {q : Nat} (hq : q = 72 ∨ q = 73) {μ μ' : Mm} (a : SQr q μ μ') : XFr μ μ' := ⟨fun c h => (a c (by omega)).1, (a 1 (by omega)).2⟩
def StO (D : Da) (q j : Nat) (C E : Int) (μ : Mm) : Prop := μ.1 q 0 = nI j ∧ ∃ h n s L, Seg D j h n s C L E ∧ StV q h n s C L E μ ∧ ((D.kd j = 3 ∧ C = -2 ^ 40 ∧ E = 2 ^ 40) ∨ (D.kd j ≠ 3 ∧ C + 10 ≤ E ∧ s = D.sp j ∧ ∃ R i, i < D.sz j ∧ (D.per j : Int) ∣ R - D.st j ∧ -2 ^ 38 ≤ R ∧ μ.1 q 1 = nI i ∧ μ.2 q 2 = zL R ∧ C = R + D.cm j i ∧ E = R + D.cm j (i + 1)))
theorem StV.other {q h n s : Nat} {C L E : Int} {μ μ' : Mm} (v : StV q h n s C L E μ) (e1 : μ'.1 q = μ.1 q) (e2 : μ'.2 q = μ.2 q) : StV q h n s C L E μ' := by
  obtain ⟨a, b, c, d, e, f⟩ := v
  exact ⟨by rw [e1]; exact a, by rw [e1]; exact b, by rw [e1]; exact c, by rw [e2]; exact d, by rw [e2]; exact e, by rw [e2]; exact f⟩
theorem StO.other {D : Da} {q q' j : Nat} {C E : Int} {μ μ' : Mm} (h : StO D q j C E μ) (f : SQr q' μ μ') (hq : q ≠ q') : StO D q j C E μ' := by
  obtain ⟨e1, e2⟩ := f q hq
  obtain ⟨h0, h, n, s, L, sg, sv, w⟩ := h
  refine ⟨by rw [e1]; exact h0, h, n, s, L, sg, sv.other e1 e2, ?_⟩
  rcases w with w | ⟨w0, w1, w2, R, i, w3, w4, w5, w6, w7, w9, w10⟩
  · exact Or.inl w
  · exact Or.inr ⟨w0, w1, w2, R, i, w3, w4, w5, by rw [e1]; exact w6, by rw [e2]; exact w7, w9, w10⟩
theorem StR_ok {D : Da} (I : DI D) {q j i : Nat} (hj : j < D.w) (g : D.go j = true) (hk : D.kd j ≠ 3) (hi : i < D.sz j) {R : Int} (hR : (D.per j : Int) ∣ R - D.st j) (r1 : -2 ^ 38 ≤ R) (r2 : R ≤ 2 ^ 39) (μ : Mm) (h0 : μ.1 q 0 = nI j) (h1 : μ.1 q 1 = nI i) (h2 : μ.2 q 2 = zL R) (h5 : μ.1 q 5 = nI (D.sp j)) : StO D q j (R + D.cm j i) (R + D.cm j (i + 1)) (StR D q j i R μ) ∧ SQr q μ (StR D q j i R μ) := by
  have lp := I.lt_pos hj g hk hi
  have cs : D.cm j (i + 1) = D.cm j i + D.lt j i := rfl
  unfold StR
  refine ⟨⟨?_, _, _, _, _, seg_leg I hj g hk hi hR (by omega) r2, ⟨?_, ?_, ?_, ?_, ?_, ?_⟩, Or.inr ⟨hk, by omega, rfl, R, i, hi, hR, r1, ?_, ?_, rfl, rfl⟩⟩, ?_⟩
  · simp only [sL1]
    rw [sI_o _ _ _ _ (by decide), sI_o _ _ _ _ (by decide)]; exact h0
  · simp only [sL1]
    rw [sI_o _ _ _ _ (by decide), sI_e]
  · simp only [sL1]
    rw [sI_e]
  · simp only [sL1]
    rw [sI_o _ _ _ _ (by decide), sI_o _ _ _ _ (by decide)]; exact h5
  · rw [sL_o _ _ _ _ (by decide), sL_o _ _ _ _ (by decide), sL_e]
  · rw [sL_o _ _ _ _ (by decide), sL_e]
  · rw [sL_e]
  · simp only [sL1]
    rw [sI_o _ _ _ _ (by decide), sI_o _ _ _ _ (by decide)]; exact h1
  · rw [sL_o _ _ _ _ (by decide), sL_o _ _ _ _ (by decide), sL_o _ _ _ _ (by decide)]; exact h2
  · exact ((((SQr.i q 3 _ _).trans (SQr.i q 4 _ _)).trans (SQr.l q 6 _ _)).trans (SQr.l q 7 _ _)).trans (SQr.l q 8 _ _)
