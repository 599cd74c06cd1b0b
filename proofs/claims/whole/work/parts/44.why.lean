/-! PURE 24: why a plan is not fit: the class -/
def allB (p : Nat → Bool) : Nat → Bool
  | 0 => true
  | n + 1 => allB p n && p n
theorem allB_iff (p : Nat → Bool) : ∀ n, allB p n = true ↔ ∀ i, i < n → p i = true
  | 0 => ⟨fun _ i h => by omega, fun _ => rfl⟩
  | n + 1 => by
    show (allB p n && p n) = true ↔ _
    rw [Bool.and_eq_true, allB_iff p n]
    refine ⟨fun h i hi => ?_, fun h => ⟨fun i hi => h i (by omega), h n (by omega)⟩⟩
    by_cases e : i = n
    · rw [e]; exact h.2
    · exact h.1 i (by omega)
/-- a leg's wall, below 0 where it is broken -/
def Da.lg (D : Da) (j i : Nat) : Int := D.len (D.pp j i) (D.pp j (nx (D.sz j) i))
def Da.ln (D : Da) (j i : Nat) : Nat := (D.lg j i).natAbs
def Da.bs (D : Da) (j i : Nat) : Bool := D.bas (D.pp j i)
def Da.rd (D : Da) (j : Nat) : Int := mF (D.sz j) (D.bs j) (D.ln j) (D.sz j)
def Da.ok2 (D : Da) (j : Nat) : Bool := allB (fun i => decide (D.pp j i < D.n)) (D.sz j)
def Da.ok3 (D : Da) (j : Nat) : Bool := allB (fun i => decide (D.lg j i ≠ 0)) (D.sz j)
def Da.ok4 (D : Da) (j : Nat) : Bool := allB (fun i => decide (0 < D.lg j i)) (D.sz j)
def Da.rf (D : Da) (j : Nat) : Nat := if D.kd j = 2 then (if D.rd j = -9 then 5 else if (D.fu j : Int) < D.rd j then 6 else 0) else 0
def Da.why (D : Da) (j : Nat) : Nat := if D.sz j = 0 then 1 else if D.ok2 j = false then 2 else if D.ok3 j = false then 3 else if D.ok4 j = false then 4 else D.rf j
theorem ok2_iff {D : Da} {j : Nat} : D.ok2 j = true ↔ ∀ i, i < D.sz j → D.pp j i < D.n := by
  unfold Da.ok2
  rw [allB_iff]
  exact ⟨fun h i hi => of_decide_eq_true (h i hi), fun h i hi => decide_eq_true (h i hi)⟩
theorem ok3_iff {D : Da} {j : Nat} : D.ok3 j = true ↔ ∀ i, i < D.sz j → D.lg j i ≠ 0 := by
  unfold Da.ok3
  rw [allB_iff]
  exact ⟨fun h i hi => of_decide_eq_true (h i hi), fun h i hi => decide_eq_true (h i hi)⟩
theorem ok4_iff {D : Da} {j : Nat} : D.ok4 j = true ↔ ∀ i, i < D.sz j → 0 < D.lg j i := by
  unfold Da.ok4
  rw [allB_iff]
  exact ⟨fun h i hi => of_decide_eq_true (h i hi), fun h i hi => decide_eq_true (h i hi)⟩
theorem DI.sz24 {D : Da} (I : DI D) {j : Nat} (hj : j < D.w) : D.sz j ≤ 24 := by
  have := I.sz j hj
  omega
theorem DI.ln30 {D : Da} (I : DI D) {j i : Nat} (hj : j < D.w) (hi : i < D.sz j) : D.ln j i ≤ 30 := by
  have h1 := I.pp j i hj hi
  have h2 := I.pp j (nx (D.sz j) i) hj (nx_lt (by omega))
  have := I.g.lb (D.pp j i) (D.pp j (nx (D.sz j) i)) (by omega) (by omega)
  unfold Da.ln Da.lg
  omega
theorem Wk_legBehind_eq (N : Nat) {D : Da} (I : DI D) {j i : Nat} (hj : j < D.w) (hi : i < D.sz j) (μ : Mm) (X : DX D μ) : f_Wk_legBehind N j (nI i) μ = some (nI (nx (D.sz j) i), μ) := by
  have h24 := I.sz24 hj
  unfold f_Wk_legBehind nx
  rw [X.sz j hj, nI_1]
  by_cases c : i + 1 < D.sz j
  · rw [if_pos c, if_neg (nI_ge (by omega) (by omega))]
  · rw [if_neg c, if_pos (nI_le (by omega) (by omega))]
    rfl
/-- the length that a leg's two posts have -/
theorem Wk_len_eq (N : Nat) {D : Da} (I : DI D) {j i : Nat} (hj : j < D.w) (hi : i < D.sz j) (μ μ' : Mm) (X : DX D μ) (X' : DX D μ') : ∃ v : Int32, f_Gr_lengthOf N (μ.1 (WK j + 1) i) (μ.1 (WK j + 1) (nx (D.sz j) i)) μ' = some (v, μ') ∧ v.toInt = D.lg j i := by
  have hx := nx_lt (n := D.sz j) (i := i) (by omega)
  have h1 := I.pp j i hj hi
  have h2 := I.pp j _ hj hx
  rw [X.pp j i hj hi, X.pp j _ hj hx, Gr_lengthOf_at N (by omega) (by omega)]
  exact ⟨_, rfl, X'.g.len _ _ (by omega) (by omega)⟩
theorem Gr_isBase_eq (N : Nat) {D : Da} (I : DI D) {j i : Nat} (hj : j < D.w) (hi : i < D.sz j) (μ μ' : Mm) (X : DX D μ) (X' : DX D μ') : f_Gr_isBase N (μ.1 (WK j + 1) i) μ' = some (b2 (D.bs j i), μ') := by
  have h1 := I.pp j i hj hi
  unfold f_Gr_isBase
  rw [X.pp j i hj hi]
  simp only [if_pos (ixb_t (show D.pp j i < 16 by omega) (show 16 < 2 ^ 31 by decide)), nI_clamp (show D.pp j i < 2 ^ 31 by omega)]
  rw [X'.bas _ (by omega), if_pos (zb_of (b2_z _))]
  rfl
theorem Wk_L51 (N : Nat) {D : Da} (I : DI D) {j b : Nat} (hj : j < D.w) (hb : b < D.sz j) (hp : ∀ i, i < D.sz j → 0 < D.lg j i) (μ : Mm) (X : DX D μ) : ∀ (m t : Nat), t ≤ D.sz j → D.sz j < m + t → f_Wk_longestRide_L51 N j m (nI (rR (D.sz j) (D.bs j) (D.ln j) b t).1) (nI (rR (D.sz j) (D.bs j) (D.ln j) b t).2) (nI (nxi (D.sz j) b t)) (nI t) μ = some (nI (rR (D.sz j) (D.bs j) (D.ln j) b (D.sz j)).1, μ) := by
  have h24 := I.sz24 hj
  intro m
  induction m with
  | zero => intro t h1 h2; omega
  | succ m ih =>
    intro t h1 h2
    rw [f_Wk_longestRide_L51, X.sz j hj]
    by_cases h : t = D.sz j
    · rw [if_pos (by rw [h]; exact nI_le (Nat.le_refl _) (by omega)), h]
    · have ha := nxi_lt hb t
      have ha' := nxi_lt hb (t + 1)
      rw [if_neg (nI_ge (by omega) (by omega)), Wk_legBehind_eq N I hj ha μ X]
      have bl := rR_le (D.sz j) (D.bs j) (D.ln j) b hb (fun i hi => I.ln30 hj hi) t
      have l30 := I.ln30 hj ha
      obtain ⟨v, v1, v2⟩ := Wk_len_eq N I hj ha μ μ X X
      have lp := hp _ ha
      have ev : v = nI (D.ln j (nxi (D.sz j) b t)) := nI_tI (by omega) (by unfold Da.ln; omega)
      simp only [bnS, if_pos (ixb_t (show nxi (D.sz j) b t < 24 by omega) (show 24 < 2 ^ 31 by decide)), nI_clamp (show nxi (D.sz j) b t < 2 ^ 31 by omega), if_pos (ixb_t (show nx (D.sz j) (nxi (D.sz j) b t) < 24 from by have : nx (D.sz j) (nxi (D.sz j) b t) < D.sz j := ha'; omega) (show 24 < 2 ^ 31 by decide)), nI_clamp (show nx (D.sz j) (nxi (D.sz j) b t) < 2 ^ 31 from by have : nx (D.sz j) (nxi (D.sz j) b t) < D.sz j := ha'; omega), v1, ev, nI_add, Gr_isBase_eq N I hj (show nx (D.sz j) (nxi (D.sz j) b t) < D.sz j from ha') μ μ X X, b2_0]
      unfold f_Wk_longestRide_B115
      simp only [nI_1, Jmax, bnS]
      have ih2 := ih (t + 1) (by omega) (by omega)
      have eR : rR (D.sz j) (D.bs j) (D.ln j) b (t + 1) = if D.bs j (nxi (D.sz j) b (t + 1)) = true then (max (rR (D.sz j) (D.bs j) (D.ln j) b t).1 ((rR (D.sz j) (D.bs j) (D.ln j) b t).2 + D.ln j (nxi (D.sz j) b t)), 0) else ((rR (D.sz j) (D.bs j) (D.ln j) b t).1, (rR (D.sz j) (D.bs j) (D.ln j) b t).2 + D.ln j (nxi (D.sz j) b t)) := rfl
      by_cases c : D.bs j (nx (D.sz j) (nxi (D.sz j) b t)) = false
      · rw [if_pos c]
        rw [if_neg (show ¬ D.bs j (nxi (D.sz j) b (t + 1)) = true by
          show ¬ D.bs j (nx (D.sz j) (nxi (D.sz j) b t)) = true
          rw [c]; decide)] at eR
        rw [eR] at ih2
        exact ih2
      · rw [if_neg c]
        rw [if_pos (show D.bs j (nxi (D.sz j) b (t + 1)) = true from by
          have : ¬ D.bs j (nxi (D.sz j) b (t + 1)) = false := c
          simpa using this)] at eR
        rw [eR] at ih2
        have em : (if (nI ((rR (D.sz j) (D.bs j) (D.ln j) b t).2 + D.ln j (nxi (D.sz j) b t))).toInt ≤ (nI (rR (D.sz j) (D.bs j) (D.ln j) b t).1).toInt then nI (rR (D.sz j) (D.bs j) (D.ln j) b t).1 else nI ((rR (D.sz j) (D.bs j) (D.ln j) b t).2 + D.ln j (nxi (D.sz j) b t))) = nI (max (rR (D.sz j) (D.bs j) (D.ln j) b t).1 ((rR (D.sz j) (D.bs j) (D.ln j) b t).2 + D.ln j (nxi (D.sz j) b t))) := by
          rw [tI (by omega), tI (by omega)]
          split <;> (congr 1; omega)
        rw [em]
        exact ih2
theorem Wk_L2 (N : Nat) (hN : 30 ≤ N) {D : Da} (I : DI D) {j : Nat} (hj : j < D.w) (hp : ∀ i, i < D.sz j → 0 < D.lg j i) (μ : Mm) (X : DX D μ) : ∀ (m i : Nat), i ≤ D.sz j → D.sz j < m + i → (∀ x, x < i → D.bs j x = false) → ∃ v : Int32, f_Wk_longestRide_L2 N j m (nI i) μ = some (v, μ) ∧ v.toInt = D.rd j := by
  have h24 := I.sz24 hj
  intro m
  induction m with
  | zero => intro t h1 h2; omega
  | succ m ih =>
    intro i h1 h2 hz
    rw [f_Wk_longestRide_L2, X.sz j hj]
    unfold f_Wk_longestRide_B29
    rw [X.sz j hj]
    by_cases h : i = D.sz j
    · rw [if_pos (by rw [h]; exact nI_le (Nat.le_refl _) (by omega)), if_neg (by rw [nIl (by omega) (by omega)]; omega)]
      refine ⟨_, rfl, ?_⟩
      unfold Da.rd
      rcases mF_is (D.sz j) (D.bs j) (D.ln j) (D.sz j) with ⟨q, _⟩ | ⟨x, q1, q2, q3⟩
      · rw [q]; rfl
      · rw [hz x (by omega)] at q2
        exact absurd q2 (by decide)
    · have hi : i < D.sz j := by omega
      rw [if_neg (nI_ge (by omega) (by omega))]
      simp only [if_pos (ixb_t (show i < 24 by omega) (show 24 < 2 ^ 31 by decide)), nI_clamp (show i < 2 ^ 31 by omega), Gr_isBase_eq N I hj hi μ μ X X, bnS, b2_0, nI_1]
      by_cases c : D.bs j i = false
      · rw [if_pos c]
        refine ih (i + 1) (by omega) (by omega) (fun x hx => ?_)
        by_cases e : x = i
        · rw [e]; exact c
        · exact hz x (by omega)
      · rw [if_neg c, X.sz j hj, if_pos ((nIl (by omega) (by omega)).mpr hi)]
        have cb : D.bs j i = true := by simpa using c
        have := Wk_L51 N I hj hi hp μ X N 0 (by omega) (by omega)
        refine ⟨_, this, ?_⟩
        have bl := rR_le (D.sz j) (D.bs j) (D.ln j) i hi (fun x hx => I.ln30 hj hx) (D.sz j)
        rw [tI (by omega)]
        exact ride_eq hi cb (fun x hx => by have := hp x hx; unfold Da.ln; omega)
theorem Wk_longestRide_eq (N : Nat) (hN : 30 ≤ N) {D : Da} (I : DI D) {j : Nat} (hj : j < D.w) (hp : ∀ i, i < D.sz j → 0 < D.lg j i) (μ : Mm) (X : DX D μ) : ∃ v : Int32, f_Wk_longestRide N j μ = some (v, μ) ∧ v.toInt = D.rd j := by
  have h24 := I.sz24 hj
  exact Wk_L2 N hN I hj hp μ X N 0 (by omega) (by omega) (fun x h => by omega)
theorem Wk_L45 (N : Nat) (hN : 30 ≤ N) {D : Da} (I : DI D) {j : Nat} (hj : j < D.w) (μ : Mm) (X : DX D μ) : ∀ (m i : Nat), i ≤ D.sz j → D.sz j < m + i → (∀ x, x < i → D.lg j x ≠ 0) → f_Wk_faultOn_L45 N j m (if ∀ x, x < i → 0 < D.lg j x then 0 else 1) (nI i) μ = some (nI (if D.ok3 j = false then 3 else if D.ok4 j = false then 4 else D.rf j), μ) := by
  have h24 := I.sz24 hj
  intro m
  induction m with
  | zero => intro t h1 h2; omega
  | succ m ih =>
    intro i h1 h2 hz
    rw [f_Wk_faultOn_L45, X.sz j hj]
    by_cases h : i = D.sz j
    · rw [if_pos (by rw [h]; exact nI_le (Nat.le_refl _) (by omega))]
      rw [h] at hz ⊢
      rw [if_neg (show ¬ D.ok3 j = false by rw [ok3_iff.mpr hz]; decide)]
      unfold f_Wk_faultOn_B101
      by_cases c : ∀ x, x < D.sz j → 0 < D.lg j x
      · rw [if_pos c, if_pos rfl, if_neg (show ¬ D.ok4 j = false by rw [ok4_iff.mpr c]; decide), X.kd j hj]
        unfold Da.rf
        by_cases k2 : D.kd j = 2
        · rw [if_pos (by rw [k2]; rfl), if_pos k2]
          obtain ⟨v, v1, v2⟩ := Wk_longestRide_eq N hN I hj c μ X
          rw [v1]
          unfold f_Wk_rideFault
          simp only [bnS]
          rw [X.fu j hj]
          have f5 := I.fu j hj
          by_cases r9 : D.rd j = -9
          · rw [if_pos (eq_I.mpr (by rw [v2, r9]; rfl)), if_pos r9]; rfl
          · rw [if_neg (fun q => r9 (by rw [← v2, q]; rfl)), if_neg r9]
            by_cases r6 : (D.fu j : Int) < D.rd j
            · rw [if_pos r6, if_neg (by rw [le_I, v2, tI (by omega)]; omega)]; rfl
            · rw [if_neg r6, if_pos (by rw [le_I, v2, tI (by omega)]; omega)]; rfl
        · rw [if_neg (show ¬ nI (D.kd j) = 2 from fun q => k2 ((nI_eq (b := 2) (by have := I.kd j hj; omega) (by decide)).mp q)), if_neg k2]
          rfl
      · rw [if_neg c, if_neg (by decide), if_pos (show D.ok4 j = false from Bool.eq_false_iff.mpr (fun q => c (ok4_iff.mp q)))]
        rfl
    · have hi : i < D.sz j := by omega
      have hx := nx_lt (n := D.sz j) (i := i) (by omega)
      rw [if_neg (nI_ge (by omega) (by omega))]
      obtain ⟨v, v1, v2⟩ := Wk_len_eq N I hj hi μ μ X X
      unfold f_Wk_faultOn_B93
      simp only [if_pos (ixb_t (show i < 24 by omega) (show 24 < 2 ^ 31 by decide)), nI_clamp (show i < 2 ^ 31 by omega), Wk_legBehind_eq N I hj hi μ X, bnS, if_pos (ixb_t (show nx (D.sz j) i < 24 by omega) (show 24 < 2 ^ 31 by decide)), nI_clamp (show nx (D.sz j) i < 2 ^ 31 by omega), v1, nI_1]
      by_cases c0 : D.lg j i = 0
      · rw [if_pos (eq_I.mpr (by rw [v2, c0]; rfl)), if_pos (show D.ok3 j = false from Bool.eq_false_iff.mpr (fun q => ok3_iff.mp q i hi c0))]
        rfl
      · rw [if_neg (fun q => c0 (by rw [← v2, q]; rfl))]
        have ih2 := ih (i + 1) (by omega) (by omega) (fun x hx => by
          by_cases e : x = i
          · rw [e]; exact c0
          · exact hz x (by omega))
        rw [← ih2]
        have hf : (if ∀ x, x < i + 1 → 0 < D.lg j x then (0 : Int32) else 1) = if 0 < D.lg j i then (if ∀ x, x < i → 0 < D.lg j x then 0 else 1) else 1 := by
          by_cases a : 0 < D.lg j i
          · rw [if_pos a]
            by_cases b : ∀ x, x < i → 0 < D.lg j x
            · rw [if_pos b, if_pos (fun x hx => by
                by_cases e : x = i
                · rw [e]; exact a
                · exact b x (by omega))]
            · rw [if_neg b, if_neg (fun q => b (fun x hx => q x (by omega)))]
          · rw [if_neg a, if_neg (fun q => a (q i (by omega)))]
        rw [hf]
        by_cases c1 : 0 < D.lg j i
        · rw [if_pos c1, if_pos (by rw [le_I, v2]; show (0 : Int) ≤ _; omega)]
          congr 1
          split <;> decide
        · rw [if_neg c1, if_neg (by rw [le_I, v2]; show ¬ (0 : Int) ≤ _; omega)]
          congr 1
          split <;> decide
theorem Wk_L12 (N : Nat) (hN : 30 ≤ N) {D : Da} (I : DI D) {j : Nat} (hj : j < D.w) (μ : Mm) (X : DX D μ) (h0 : D.sz j ≠ 0) : ∀ (m i : Nat), i ≤ D.sz j → D.sz j < m + i → (∀ x, x < i → D.pp j x < D.n) → f_Wk_faultOn_L12 N j m (nI i) μ = some (nI (D.why j), μ) := by
  have h24 := I.sz24 hj
  have n16 := I.g.n16
  intro m
  induction m with
  | zero => intro t h1 h2; omega
  | succ m ih =>
    intro i h1 h2 hz
    rw [f_Wk_faultOn_L12, X.sz j hj]
    by_cases h : i = D.sz j
    · rw [if_pos (by rw [h]; exact nI_le (Nat.le_refl _) (by omega))]
      rw [h] at hz
      have := Wk_L45 N hN I hj μ X N 0 (by omega) (by omega) (fun x hx => by omega)
      rw [if_pos (fun x hx => by omega)] at this
      unfold f_Wk_faultOn_B41 Da.why
      rw [if_neg h0, if_neg (show ¬ D.ok2 j = false by rw [ok2_iff.mpr hz]; decide)]
      exact this
    · have hi : i < D.sz j := by omega
      have p15 := I.pp j i hj hi
      rw [if_neg (nI_ge (by omega) (by omega))]
      simp only [if_pos (ixb_t (show i < 24 by omega) (show 24 < 2 ^ 31 by decide)), nI_clamp (show i < 2 ^ 31 by omega), Gr_has_eq N n16 _ μ X.g.n, bnS, if01, nI_1]
      rw [X.pp j i hj hi, tI (by omega)]
      by_cases c : D.pp j i < D.n
      · rw [if_pos (by omega)]
        refine ih (i + 1) (by omega) (by omega) (fun x hx => ?_)
        by_cases e : x = i
        · rw [e]; exact c
        · exact hz x (by omega)
      · rw [if_neg (by omega)]
        unfold Da.why
        rw [if_neg h0, if_pos (show D.ok2 j = false from Bool.eq_false_iff.mpr (fun q => c (ok2_iff.mp q i hi)))]
        rfl
theorem Wk_faultOn_eq (N : Nat) (hN : 30 ≤ N) {D : Da} (I : DI D) {j : Nat} (hj : j < D.w) (μ : Mm) (X : DX D μ) : f_Wk_faultOn N j μ = some (nI (D.why j), μ) := by
  have h24 := I.sz24 hj
  unfold f_Wk_faultOn
  rw [X.sz j hj]
  by_cases h0 : D.sz j = 0
  · rw [if_neg (by rw [h0]; decide)]
    unfold Da.why
    rw [if_pos h0]
    rfl
  · rw [if_pos (show (1 : Int32) ≤ nI (D.sz j) from (nIc (a := 1) (by decide) (by omega)).mpr (by omega))]
    exact Wk_L12 N hN I hj μ X h0 N 0 (by omega) (by omega) (fun x hx => by omega)
