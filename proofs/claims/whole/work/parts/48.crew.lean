/-! PURE 28: what follows of a walker: units, times, what is seen; the class's measures -/
def Da.un (D : Da) (j : Nat) : Nat := if D.kd j = 3 then 0 else 60 / D.sp j
/-- how long a leg takes, its rest with it -/
def Da.lt (D : Da) (j i : Nat) : Nat := D.pr j i + D.un j * D.ln j i
def Da.cm (D : Da) (j : Nat) : Nat → Nat
  | 0 => 0
  | i + 1 => D.cm j i + D.lt j i
def Da.per (D : Da) (j : Nat) : Nat := if D.kd j = 3 then 1 else D.cm j (D.sz j)
def Da.go (D : Da) (j : Nat) : Bool := !D.gn j && !D.lo j && (if D.kd j = 3 then decide (D.po j < D.n) else decide (D.why j = 0))
/-- the posts seen from a post -/
def Da.sn (D : Da) (p v : Nat) : Nat := bsN (fun q => decide (fw D.n D.len p q ≤ v)) D.n
def Da.sg (D : Da) (j i : Nat) : Nat := D.sn (D.pp j i) (D.vw j)
def Da.os (D : Da) (j : Nat) : Nat → Nat
  | 0 => 0
  | i + 1 => D.os j i ||| D.sg j i
def Da.ev (D : Da) (j : Nat) : Nat := if D.kd j = 3 then D.sn (D.po j) (D.vw j) else D.os j (D.sz j)
theorem Da.sn_lt {D : Da} (G : GI D.n D.len) (p v : Nat) : D.sn p v < 65536 := by
  have h := bsN_lt (fun q => decide (fw D.n D.len p q ≤ v)) D.n
  have h16 := G.n16
  exact Nat.lt_of_lt_of_le h (Nat.pow_le_pow_right (by decide) h16)
theorem Da.os_lt {D : Da} (G : GI D.n D.len) (j : Nat) : ∀ i, D.os j i < 65536
  | 0 => by unfold Da.os; decide
  | i + 1 => by
    unfold Da.os
    exact Nat.or_lt_two_pow (n := 16) (D.os_lt G j i) (D.sn_lt G _ _)
theorem Da.ev_lt {D : Da} (G : GI D.n D.len) (j : Nat) : D.ev j < 65536 := by
  unfold Da.ev
  split
  · exact D.sn_lt G _ _
  · exact D.os_lt G j _
theorem DI.un60 {D : Da} (I : DI D) {j : Nat} (hj : j < D.w) : D.un j ≤ 60 := by
  unfold Da.un
  split
  · omega
  · exact Nat.div_le_self _ _
theorem DI.un10 {D : Da} (I : DI D) {j : Nat} (hj : j < D.w) (h : D.kd j ≠ 3) : 10 ≤ D.un j := by
  have h1 := I.sp j hj
  unfold Da.un
  rw [if_neg h]
  exact (Nat.le_div_iff_mul_le (by omega)).mpr (by omega)
theorem DI.lt_le {D : Da} (I : DI D) {j i : Nat} (hj : j < D.w) (hi : i < D.sz j) : D.lt j i ≤ 1927 := by
  have h1 := I.un60 hj
  have h2 := I.ln30 hj hi
  have h3 := I.pr j i hj hi
  have : D.un j * D.ln j i ≤ 60 * 30 := Nat.mul_le_mul h1 h2
  unfold Da.lt
  omega
theorem DI.cm_le {D : Da} (I : DI D) {j : Nat} (hj : j < D.w) : ∀ i, i ≤ D.sz j → D.cm j i ≤ 1927 * i
  | 0, _ => Nat.le_refl _
  | i + 1, h => by
    have := I.cm_le hj i (by omega)
    have := I.lt_le hj (i := i) (by omega)
    unfold Da.cm
    omega
theorem DI.cm_46 {D : Da} (I : DI D) {j i : Nat} (hj : j < D.w) (h : i ≤ D.sz j) : D.cm j i ≤ 46248 := by
  have := I.cm_le hj i h
  have := I.sz24 hj
  omega
/-- one that goes: its plan is fit -/
theorem Da.go_ok {D : Da} {j : Nat} (h : D.go j = true) : D.gn j = false ∧ D.lo j = false ∧ (D.kd j = 3 → D.po j < D.n) ∧ (D.kd j ≠ 3 → D.why j = 0) := by
  unfold Da.go at h
  rw [Bool.and_eq_true, Bool.and_eq_true] at h
  refine ⟨by simpa using h.1.1, by simpa using h.1.2, fun q => ?_, fun q => ?_⟩
  · have := h.2
    rw [if_pos q] at this
    exact of_decide_eq_true this
  · have := h.2
    rw [if_neg q] at this
    exact of_decide_eq_true this
theorem Da.why0 {D : Da} {j : Nat} (h : D.why j = 0) : D.sz j ≠ 0 ∧ (∀ i, i < D.sz j → D.pp j i < D.n) ∧ ∀ i, i < D.sz j → 0 < D.lg j i := by
  unfold Da.why at h
  by_cases c1 : D.sz j = 0
  · rw [if_pos c1] at h; omega
  · rw [if_neg c1] at h
    by_cases c2 : D.ok2 j = false
    · rw [if_pos c2] at h; omega
    · rw [if_neg c2] at h
      by_cases c3 : D.ok3 j = false
      · rw [if_pos c3] at h; omega
      · rw [if_neg c3] at h
        by_cases c4 : D.ok4 j = false
        · rw [if_pos c4] at h; omega
        · exact ⟨c1, ok2_iff.mp (by simpa using c2), ok4_iff.mp (by simpa using c4)⟩
theorem Wk_unitParts_eq (N : Nat) {D : Da} (I : DI D) {j : Nat} (hj : j < D.w) (μ : Mm) (X : DX D μ) : f_Wk_unitParts N j μ = some (nI (D.un j), μ) := by
  have h1 := I.sp j hj
  have h2 := I.kd j hj
  unfold f_Wk_unitParts f_Wk_unitParts_B16 Da.un
  rw [X.kd j hj, X.sp j hj]
  by_cases c : D.kd j = 3
  · rw [if_pos (by rw [c]; rfl), if_pos c]; rfl
  · rw [if_neg (show ¬ nI (D.kd j) = 3 from fun q => c ((nI_eq (b := 3) (by omega) (by decide)).mp q)), if_neg c, if_pos (show (1 : Int32) ≤ nI (D.sp j) from (nIc (a := 1) (by decide) (by omega)).mpr h1.1)]
    simp only [if_neg (nI_ne0 (show 0 < D.sp j by omega) (show D.sp j < 2 ^ 31 by omega))]
    rw [show (60 : Int32) = nI 60 from rfl, pk_div (by decide) (by omega) (by omega)]
theorem M_unitOf_eq (N : Nat) {D : Da} (I : DI D) {j : Nat} (hj : j < D.w) (μ : Mm) (X : DM D μ) : f_M_unitOf N (nI j) μ = some (nI (D.un j), μ) := by
  have h1 := I.sp j hj
  have h2 := I.kd j hj
  have w8 := I.w8
  unfold f_M_unitOf Da.un
  simp only [if_pos (ixb_t (show j < 8 by omega) (show 8 < 2 ^ 31 by decide)), nI_clamp (show j < 2 ^ 31 by omega), X.kd j hj, X.sp j hj]
  by_cases c : D.kd j = 3
  · rw [if_pos (by rw [c]; rfl), if_pos c]; rfl
  · rw [if_neg (show ¬ nI (D.kd j) = 3 from fun q => c ((nI_eq (b := 3) (by omega) (by decide)).mp q)), if_neg c]
    simp only [if_neg (nI_ne0 (show 0 < D.sp j by omega) (show D.sp j < 2 ^ 31 by omega))]
    rw [show (60 : Int32) = nI 60 from rfl, pk_div (by decide) (by omega) (by omega)]
theorem M_period_loop (N : Nat) {D : Da} (I : DI D) {j : Nat} (hj : j < D.w) (μ : Mm) (X : DM D μ) : ∀ (m i : Nat), i ≤ D.sz j → D.sz j < m + i → f_M_periodOf_L16 N m (nI j) (nI (D.cm j i)) (nI i) μ = some (nI (D.cm j (D.sz j)), μ) := by
  have h24 := I.sz24 hj
  have w8 := I.w8
  intro m
  induction m with
  | zero => intro i h1 h2; omega
  | succ m ih =>
    intro i h1 h2
    rw [f_M_periodOf_L16, if_pos (ixb_t (show j < 8 by omega) (by decide)), nI_clamp (show j < 2 ^ 31 by omega), X.sz j hj]
    by_cases h : i = D.sz j
    · rw [if_pos (by rw [h]; exact nI_le (Nat.le_refl _) (by omega)), h]
    · have hi : i < D.sz j := by omega
      rw [if_neg (nI_ge (by omega) (by omega))]
      simp only [M_rest_eq N (show j < 8 by omega) (show i < 24 by omega), X.pr j i hj hi, bnS, M_pr_eq N I hj hi μ X, if_pos (ixb_t (D.pq_lt I hj hi) (show 256 < 2 ^ 31 by decide)), nI_clamp (show D.pq j i < 2 ^ 31 from by have := D.pq_lt I hj hi; omega), X.ln I hj hi, M_unitOf_eq N I hj μ X, nI_1, pk_mul, nI_add]
      have := ih (i + 1) (by omega) (by omega)
      rw [Da.cm, Da.lt, Nat.mul_comm] at this
      exact this
theorem M_periodOf_eq (N : Nat) (hN : 30 ≤ N) {D : Da} (I : DI D) {j : Nat} (hj : j < D.w) (μ : Mm) (X : DM D μ) : f_M_periodOf N (nI j) μ = some (nI (D.per j), μ) := by
  have h24 := I.sz24 hj
  have w8 := I.w8
  have h2 := I.kd j hj
  unfold f_M_periodOf Da.per
  simp only [if_pos (ixb_t (show j < 8 by omega) (show 8 < 2 ^ 31 by decide)), nI_clamp (show j < 2 ^ 31 by omega), X.kd j hj]
  by_cases c : D.kd j = 3
  · rw [if_pos (by rw [c]; rfl), if_pos c]; rfl
  · rw [if_neg (show ¬ nI (D.kd j) = 3 from fun q => c ((nI_eq (b := 3) (by omega) (by decide)).mp q)), if_neg c]
    exact M_period_loop N I hj μ X N 0 (by omega) (by omega)
/-- with a set L lost besides -/
def Da.goL (D : Da) (L j : Nat) : Bool := D.go j && !L.testBit j
theorem Da.goL0 (D : Da) (j : Nat) : D.goL 0 j = D.go j := by
  unfold Da.goL
  rw [Nat.zero_testBit]
  simp
theorem M_goes_eq (N : Nat) (hN : 30 ≤ N) {D : Da} (I : DI D) {j L : Nat} (hL : L < 256) (hj : j < D.w) (μ : Mm) (X : DM D μ) (e : μ.1 0 27 = nI L) : f_M_goes N (nI j) μ = some (b2 (D.goL L j), μ) := by
  have w8 := I.w8
  have h2 := I.kd j hj
  have n16 := I.g.n16
  unfold f_M_goes Da.goL Da.go
  simp only [if_pos (ixb_t (show j < 8 by omega) (show 8 < 2 ^ 31 by decide)), nI_clamp (show j < 2 ^ 31 by omega), X.gn j hj, X.lo j hj, X.kd j hj, e, bitN (show L < 2 ^ 31 by omega) (show j < 32 by omega), b2_0, b2_1]
  by_cases c1 : D.gn j = false
  · rw [if_pos c1, c1]
    by_cases c2 : D.lo j = false
    · rw [if_pos c2, c2]
      by_cases c3 : L.testBit j = true
      · rw [if_pos c3, c3]
        simp only [Bool.not_true, Bool.and_false]
        rfl
      · have c3' : L.testBit j = false := by simpa using c3
        rw [if_neg c3, c3']
        by_cases c4 : D.kd j = 3
        · have p15 := (I.gd j hj c4).2
          rw [if_pos (by rw [c4]; rfl), if_pos c4, X.po j hj c4, M_isPost_eq N n16 _ μ X.n]
          simp only [bnS, zb01, if_true]
          rw [tI (by omega)]
          by_cases c5 : D.po j < D.n
          · rw [if_pos (by omega), decide_eq_true c5]; rfl
          · rw [if_neg (by omega), decide_eq_false c5]; rfl
        · rw [if_neg (show ¬ nI (D.kd j) = 3 from fun q => c4 ((nI_eq (b := 3) (by omega) (by decide)).mp q)), if_neg c4, M_whyNot_eq N hN I hj μ X]
          simp only [bnS]
          have wl : D.why j < 7 := by
            unfold Da.why Da.rf
            repeat' split
            all_goals omega
          by_cases c5 : D.why j = 0
          · rw [if_pos (by rw [c5]; rfl), decide_eq_true c5]; rfl
          · rw [if_neg (nI_ne0 (by omega) (by omega)), decide_eq_false c5]; rfl
    · have c2' : D.lo j = true := by simpa using c2
      rw [if_neg c2, c2']
      simp only [Bool.not_true, Bool.and_false, Bool.false_and]
      rfl
  · have c1' : D.gn j = true := by simpa using c1
    rw [if_neg c1, c1']
    simp only [Bool.not_true, Bool.false_and]
    rfl
