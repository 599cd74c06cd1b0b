/-! PURE 25: why a plan is not fit: the reference -/
theorem M_rem_nx {s i : Nat} (hi : i < s) (hs : s ≤ 24) : nI (i + 1) - nI (i + 1) / nI s * nI s = nI (nx s i) := by
  rw [pk_rem (by omega) (by omega) (by omega), nx_mod hi]
theorem M_pair_eq (N : Nat) {D : Da} (I : DI D) {j i : Nat} (hj : j < D.w) (hi : i < D.sz j) (μ : Mm) (X : DM D μ) : f_M_pair N (nI j) (nI i) μ = some (nI (16 * D.pp j i + D.pp j (nx (D.sz j) i)), μ) := by
  have h24 := I.sz24 hj
  have w8 := I.w8
  have hx := nx_lt (n := D.sz j) (i := i) (by omega)
  unfold f_M_pair
  rw [M_post_eq N (by omega) (by omega)]
  simp only [bnS, if_pos (ixb_t (show j < 8 by omega) (show 8 < 2 ^ 31 by decide)), nI_clamp (show j < 2 ^ 31 by omega), X.sz j hj, if_neg (nI_ne0 (show 0 < D.sz j by omega) (show D.sz j < 2 ^ 31 by omega)), nI_1, M_rem_nx hi h24, M_post_eq N (show j < 8 by omega) (show nx (D.sz j) i < 24 by omega), X.pp j i hj hi, X.pp j _ hj hx, ix16']
/-- where a leg's wall stands -/
def Da.pq (D : Da) (j i : Nat) : Nat := 16 * D.pp j i + D.pp j (nx (D.sz j) i)
theorem Da.pq_lt {D : Da} (I : DI D) {j i : Nat} (hj : j < D.w) (hi : i < D.sz j) : D.pq j i < 256 := by
  have h1 := I.pp j i hj hi
  have h2 := I.pp j (nx (D.sz j) i) hj (nx_lt (by omega))
  unfold Da.pq
  omega
theorem DM.ln {D : Da} {μ : Mm} (X : DM D μ) (I : DI D) {j i : Nat} (hj : j < D.w) (hi : i < D.sz j) : μ.1 5 (D.pq j i) = nI (D.ln j i) := by
  have h1 := I.pp j i hj hi
  have h2 := I.pp j (nx (D.sz j) i) hj (nx_lt (by omega))
  exact X.len _ _ (by omega) (by omega)
theorem DM.bk {D : Da} {μ : Mm} (X : DM D μ) (I : DI D) {j i : Nat} (hj : j < D.w) (hi : i < D.sz j) : μ.1 6 (D.pq j i) = b2 (decide (D.lg j i < 0)) := by
  have h1 := I.pp j i hj hi
  have h2 := I.pp j (nx (D.sz j) i) hj (nx_lt (by omega))
  exact X.brk _ _ (by omega) (by omega)
theorem M_pr_eq (N : Nat) {D : Da} (I : DI D) {j i : Nat} (hj : j < D.w) (hi : i < D.sz j) (μ : Mm) (X : DM D μ) : f_M_pair N (nI j) (nI i) μ = some (nI (D.pq j i), μ) := M_pair_eq N I hj hi μ X
theorem M_L56 (N : Nat) {D : Da} (I : DI D) {j : Nat} (hj : j < D.w) (k13 : Int32 → Int32 → Int32 → Int32 → Mm → Option (Int32 × Mm)) (v3 v4 : Int32) (μ : Mm) (X : DM D μ) : ∀ (d m f k acc : Nat), k < D.sz j → D.bs j (nxi (D.sz j) k d) = true → d < f → d < m → f_M_mostFuel_L56 N k13 m (nI j) (nI (D.sz j)) v3 v4 (nI acc) (nI k) μ = f_M_mostFuel_B99 N k13 (nI j) (nI (D.sz j)) v3 v4 (nI (acc + Gf (D.sz j) (D.bs j) (D.ln j) f k)) μ := by
  have h24 := I.sz24 hj
  have w8 := I.w8
  intro d
  induction d with
  | zero =>
    intro m f k acc hk hb hf hm
    obtain ⟨m, rfl⟩ : ∃ g, m = g + 1 := ⟨m - 1, by omega⟩
    obtain ⟨f, rfl⟩ : ∃ g, f = g + 1 := ⟨f - 1, by omega⟩
    have p15 := I.pp j k hj hk
    rw [f_M_mostFuel_L56, M_post_eq N (by omega) (by omega), bnS, X.pp j k hj hk, if_pos (ixb_t (by omega) (by decide)), nI_clamp (by omega), X.bas _ (by omega), Gf]
    have hb' : D.bas (D.pp j k) = true := hb
    rw [hb', if_neg (by decide), if_pos (show D.bs j k = true from hb), Nat.add_zero]
  | succ d ih =>
    intro m f k acc hk hb hf hm
    obtain ⟨m, rfl⟩ : ∃ g, m = g + 1 := ⟨m - 1, by omega⟩
    obtain ⟨f, rfl⟩ : ∃ g, f = g + 1 := ⟨f - 1, by omega⟩
    have p15 := I.pp j k hj hk
    rw [f_M_mostFuel_L56, M_post_eq N (by omega) (by omega), bnS, X.pp j k hj hk, if_pos (ixb_t (by omega) (by decide)), nI_clamp (by omega), X.bas _ (by omega), Gf]
    by_cases c : D.bs j k = true
    · have c' : D.bas (D.pp j k) = true := c
      rw [c', if_neg (by decide), if_pos c, Nat.add_zero]
    · have c' : D.bas (D.pp j k) = false := by
        have : ¬ D.bas (D.pp j k) = true := c
        simpa using this
      have l30 := I.ln30 hj hk
      rw [c', if_pos (by decide), if_neg c]
      simp only [M_pr_eq N I hj hk μ X, bnS, if_pos (ixb_t (D.pq_lt I hj hk) (show 256 < 2 ^ 31 by decide)), nI_clamp (show D.pq j k < 2 ^ 31 from by have := D.pq_lt I hj hk; omega), X.ln I hj hk, nI_1, nI_add, if_neg (nI_ne0 (show 0 < D.sz j by omega) (show D.sz j < 2 ^ 31 by omega)), M_rem_nx hk h24]
      rw [ih m f (nx (D.sz j) k) (acc + D.ln j k) (nx_lt (by omega)) (by rw [nxi_c]; exact hb) (by omega) (by omega), Nat.add_assoc]
theorem M_L13 (N : Nat) (hN : 30 ≤ N) {D : Da} (I : DI D) {j : Nat} (hj : j < D.w) (μ : Mm) (X : DM D μ) : ∀ (m i : Nat) (v : Int32), i ≤ D.sz j → D.sz j < m + i → v.toInt = mF (D.sz j) (D.bs j) (D.ln j) i → ∃ v' : Int32, f_M_mostFuel_L13 N m (nI j) (nI (D.sz j)) v (nI i) μ = some (v', μ) ∧ v'.toInt = D.rd j := by
  have h24 := I.sz24 hj
  have w8 := I.w8
  intro m
  induction m with
  | zero => intro i v h1 h2; omega
  | succ m ih =>
    intro i v h1 h2 hv
    rw [f_M_mostFuel_L13]
    by_cases h : i = D.sz j
    · rw [if_pos (by rw [h]; exact nI_le (Nat.le_refl _) (by omega))]
      rw [h] at hv
      exact ⟨v, rfl, hv⟩
    · have hi : i < D.sz j := by omega
      have p15 := I.pp j i hj hi
      rw [if_neg (nI_ge (by omega) (by omega)), M_post_eq N (by omega) (by omega), bnS, X.pp j i hj hi, if_pos (ixb_t (by omega) (by decide)), nI_clamp (by omega), X.bas _ (by omega)]
      have em : mF (D.sz j) (D.bs j) (D.ln j) (i + 1) = if D.bs j i = true then max (mF (D.sz j) (D.bs j) (D.ln j) i) (gapB (D.sz j) (D.bs j) (D.ln j) i) else mF (D.sz j) (D.bs j) (D.ln j) i := rfl
      by_cases c : D.bs j i = true
      · have c' : D.bas (D.pp j i) = true := c
        rw [if_pos c] at em
        rw [c', if_neg (by decide)]
        simp only [M_pr_eq N I hj hi μ X, bnS, if_pos (ixb_t (D.pq_lt I hj hi) (show 256 < 2 ^ 31 by decide)), nI_clamp (show D.pq j i < 2 ^ 31 from by have := D.pq_lt I hj hi; omega), X.ln I hj hi, nI_1, if_neg (nI_ne0 (show 0 < D.sz j by omega) (show D.sz j < 2 ^ 31 by omega)), M_rem_nx hi h24]
        have hx := nx_lt (n := D.sz j) (i := i) (by omega)
        obtain ⟨d, hd, ed⟩ := nxi_at hx hi
        rw [M_L56 N I hj (f_M_mostFuel_L13 N m) v (nI i) μ X d N (D.sz j) (nx (D.sz j) i) (D.ln j i) hx (by rw [ed]; exact c) hd (by omega)]
        unfold f_M_mostFuel_B99 f_M_mostFuel_B111 f_M_mostFuel_B112
        simp only [nI_1]
        have gl := Gf_le (D.sz j) (D.bs j) (D.ln j) (fun x hx => I.ln30 hj hx) (D.sz j) (nx (D.sz j) i) hx
        have l30 := I.ln30 hj hi
        have eg : (nI (D.ln j i + Gf (D.sz j) (D.bs j) (D.ln j) (D.sz j) (nx (D.sz j) i))).toInt = (gapB (D.sz j) (D.bs j) (D.ln j) i : Int) := tI (by omega)
        by_cases q : nI (D.ln j i + Gf (D.sz j) (D.bs j) (D.ln j) (D.sz j) (nx (D.sz j) i)) ≤ v
        · rw [if_pos q]
          rw [le_I, eg] at q
          exact ih (i + 1) v (by omega) (by omega) (by rw [em, hv]; omega)
        · rw [if_neg q]
          rw [le_I, eg] at q
          exact ih (i + 1) _ (by omega) (by omega) (by rw [em, eg]; omega)
      · have c' : D.bas (D.pp j i) = false := by
          have : ¬ D.bas (D.pp j i) = true := c
          simpa using this
        rw [if_neg c] at em
        rw [c', if_pos (by decide)]
        unfold f_M_mostFuel_B112
        simp only [nI_1]
        exact ih (i + 1) v (by omega) (by omega) (by rw [em]; exact hv)
theorem M_mostFuel_eq (N : Nat) (hN : 30 ≤ N) {D : Da} (I : DI D) {j : Nat} (hj : j < D.w) (μ : Mm) (X : DM D μ) : ∃ v : Int32, f_M_mostFuel N (nI j) μ = some (v, μ) ∧ v.toInt = D.rd j := by
  have h24 := I.sz24 hj
  have w8 := I.w8
  unfold f_M_mostFuel
  simp only [if_pos (ixb_t (show j < 8 by omega) (show 8 < 2 ^ 31 by decide)), nI_clamp (show j < 2 ^ 31 by omega), X.sz j hj]
  exact M_L13 N hN I hj μ X N 0 (-9) (by omega) (by omega) rfl
theorem M_L69 (N : Nat) (hN : 30 ≤ N) {D : Da} (I : DI D) {j : Nat} (hj : j < D.w) (μ : Mm) (X : DM D μ) : ∀ (m i : Nat), i ≤ D.sz j → D.sz j < m + i → f_M_whyNot_L69 N m (nI j) (nI (D.sz j)) (if ∀ x, x < i → D.lg j x ≠ 0 then 1 else 0) (if ∀ x, x < i → ¬ D.lg j x < 0 then 1 else 0) (nI i) μ = some (nI (if D.ok3 j = false then 3 else if D.ok4 j = false then 4 else D.rf j), μ) := by
  have h24 := I.sz24 hj
  have w8 := I.w8
  intro m
  induction m with
  | zero => intro t h1 h2; omega
  | succ m ih =>
    intro i h1 h2
    rw [f_M_whyNot_L69]
    by_cases h : i = D.sz j
    · rw [if_pos (by rw [h]; exact nI_le (Nat.le_refl _) (by omega)), h]
      unfold f_M_whyNot_B135 f_M_whyNot_B145
      by_cases c3 : ∀ x, x < D.sz j → D.lg j x ≠ 0
      · rw [if_pos c3, if_neg (show ¬ (1 : Int32) = 0 by decide), if_neg (show ¬ D.ok3 j = false by rw [ok3_iff.mpr c3]; decide)]
        by_cases c4 : ∀ x, x < D.sz j → ¬ D.lg j x < 0
        · rw [if_pos c4, if_neg (show ¬ (1 : Int32) = 0 by decide), if_neg (show ¬ D.ok4 j = false by rw [ok4_iff.mpr (fun x hx => by have := c3 x hx; have := c4 x hx; omega)]; decide), if_pos (ixb_t (by omega) (by decide)), nI_clamp (by omega), X.kd j hj]
          unfold Da.rf
          by_cases k2 : D.kd j = 2
          · rw [if_pos (by rw [k2]; rfl), if_pos k2]
            obtain ⟨v, v1, v2⟩ := M_mostFuel_eq N hN I hj μ X
            rw [v1]
            simp only [bnS, if_pos (ixb_t (show j < 8 by omega) (show 8 < 2 ^ 31 by decide)), nI_clamp (show j < 2 ^ 31 by omega)]
            rw [X.fu j hj]
            have f5 := I.fu j hj
            by_cases r9 : D.rd j = -9
            · rw [if_pos (eq_I.mpr (by rw [v2, r9]; rfl)), if_pos r9]; rfl
            · rw [if_neg (fun q => r9 (by rw [← v2, q]; rfl)), if_neg r9]
              by_cases r6 : (D.fu j : Int) < D.rd j
              · rw [if_pos r6, if_neg (by rw [le_I, v2, tI (by omega)]; omega)]; rfl
              · rw [if_neg r6, if_pos (by rw [le_I, v2, tI (by omega)]; omega)]; rfl
          · rw [if_neg (show ¬ nI (D.kd j) = 2 from fun q => k2 ((nI_eq (b := 2) (by have := I.kd j hj; omega) (by decide)).mp q)), if_neg k2]
            rfl
        · rw [if_neg c4, if_pos rfl, if_pos (show D.ok4 j = false from Bool.eq_false_iff.mpr (fun q => c4 (fun x hx => by have := ok4_iff.mp q x hx; omega)))]
          rfl
      · rw [if_neg c3, if_pos rfl, if_pos rfl, if_pos (show D.ok3 j = false from Bool.eq_false_iff.mpr (fun q => c3 (ok3_iff.mp q)))]
        rfl
    · have hi : i < D.sz j := by omega
      have l30 := I.ln30 hj hi
      rw [if_neg (nI_ge (by omega) (by omega))]
      unfold f_M_whyNot_B99 f_M_whyNot_B100 f_M_whyNot_B126 f_M_whyNot_B127
      simp only [M_pr_eq N I hj hi μ X, bnS, if_pos (ixb_t (D.pq_lt I hj hi) (show 256 < 2 ^ 31 by decide)), nI_clamp (show D.pq j i < 2 ^ 31 from by have := D.pq_lt I hj hi; omega), X.ln I hj hi, X.bk I hj hi, nI_1, b2_0]
      have ih2 := ih (i + 1) (by omega) (by omega)
      rw [← ih2]
      have f3 : (if ∀ x, x < i + 1 → D.lg j x ≠ 0 then (1 : Int32) else 0) = if (if ∀ x, x < i → D.lg j x ≠ 0 then (1 : Int32) else 0) = 0 then 0 else if D.ln j i = 0 then 0 else 1 := by
        by_cases b : ∀ x, x < i → D.lg j x ≠ 0
        · rw [if_pos b, if_neg (show ¬ (1 : Int32) = 0 by decide)]
          by_cases a : D.ln j i = 0
          · rw [if_pos a, if_neg (fun q => q i (by omega) (by unfold Da.ln at a; omega))]
          · rw [if_neg a, if_pos (fun x hx => by
              by_cases e : x = i
              · rw [e]; unfold Da.ln at a; omega
              · exact b x (by omega))]
        · rw [if_neg b, if_pos rfl, if_neg (fun q => b (fun x hx => q x (by omega)))]
      have f4 : (if ∀ x, x < i + 1 → ¬ D.lg j x < 0 then (1 : Int32) else 0) = if (if ∀ x, x < i → ¬ D.lg j x < 0 then (1 : Int32) else 0) = 0 then 0 else if decide (D.lg j i < 0) = false then 1 else 0 := by
        by_cases b : ∀ x, x < i → ¬ D.lg j x < 0
        · rw [if_pos b, if_neg (show ¬ (1 : Int32) = 0 by decide)]
          by_cases a : D.lg j i < 0
          · rw [if_neg (show ¬ ∀ x, x < i + 1 → ¬ D.lg j x < 0 from fun q => q i (by omega) a), if_neg (show ¬ decide (D.lg j i < 0) = false by rw [decide_eq_true a]; decide)]
          · rw [if_pos (decide_eq_false a), if_pos (fun x hx => by
              by_cases e : x = i
              · rw [e]; exact a
              · exact b x (by omega))]
        · rw [if_neg b, if_pos rfl, if_neg (fun q => b (fun x hx => q x (by omega)))]
      rw [f3, f4]
      have e0 : (nI (D.ln j i) ≤ (0 : Int32)) ↔ D.ln j i = 0 := by
        rw [show (0 : Int32) = nI 0 from rfl, nIc (by omega) (by decide)]; omega
      simp only [e0]
      repeat' split
      all_goals first | rfl | (exfalso; simp_all; done) | simp_all
theorem M_L18 (N : Nat) (hN : 30 ≤ N) {D : Da} (I : DI D) {j : Nat} (hj : j < D.w) (μ : Mm) (X : DM D μ) (h0 : D.sz j ≠ 0) : ∀ (m i : Nat), i ≤ D.sz j → D.sz j < m + i → f_M_whyNot_L18 N m (nI j) (nI (D.sz j)) (if ∀ x, x < i → D.pp j x < D.n then 1 else 0) (nI i) μ = some (nI (D.why j), μ) := by
  have h24 := I.sz24 hj
  have w8 := I.w8
  have n16 := I.g.n16
  intro m
  induction m with
  | zero => intro t h1 h2; omega
  | succ m ih =>
    intro i h1 h2
    rw [f_M_whyNot_L18]
    by_cases h : i = D.sz j
    · rw [if_pos (by rw [h]; exact nI_le (Nat.le_refl _) (by omega)), h]
      unfold f_M_whyNot_B54 Da.why
      rw [if_neg h0]
      by_cases c : ∀ x, x < D.sz j → D.pp j x < D.n
      · rw [if_pos c, if_neg (show ¬ (1 : Int32) = 0 by decide), if_neg (show ¬ D.ok2 j = false by rw [ok2_iff.mpr c]; decide)]
        have := M_L69 N hN I hj μ X N 0 (by omega) (by omega)
        rw [if_pos (fun x hx => by omega), if_pos (fun x hx => by omega)] at this
        exact this
      · rw [if_neg c, if_pos rfl, if_pos (show D.ok2 j = false from Bool.eq_false_iff.mpr (fun q => c (ok2_iff.mp q)))]
        rfl
    · have hi : i < D.sz j := by omega
      have p15 := I.pp j i hj hi
      rw [if_neg (nI_ge (by omega) (by omega))]
      unfold f_M_whyNot_B46 f_M_whyNot_B47
      simp only [M_post_eq N (show j < 8 by omega) (show i < 24 by omega), bnS, X.pp j i hj hi, M_isPost_eq N n16 _ μ X.n, if01, nI_1, tI (show D.pp j i < 2 ^ 31 by omega)]
      have ih2 := ih (i + 1) (by omega) (by omega)
      rw [← ih2]
      by_cases b : ∀ x, x < i → D.pp j x < D.n
      · rw [if_pos b]
        by_cases a : D.pp j i < D.n
        · rw [if_pos (by omega), if_pos (fun x hx => by
            by_cases e : x = i
            · rw [e]; exact a
            · exact b x (by omega))]
        · rw [if_neg (by omega), if_neg (fun q => a (q i (by omega)))]
      · rw [if_neg b, if_neg (fun q => b (fun x hx => q x (by omega)))]
theorem M_whyNot_eq (N : Nat) (hN : 30 ≤ N) {D : Da} (I : DI D) {j : Nat} (hj : j < D.w) (μ : Mm) (X : DM D μ) : f_M_whyNot N (nI j) μ = some (nI (D.why j), μ) := by
  have h24 := I.sz24 hj
  have w8 := I.w8
  unfold f_M_whyNot
  simp only [if_pos (ixb_t (show j < 8 by omega) (show 8 < 2 ^ 31 by decide)), nI_clamp (show j < 2 ^ 31 by omega), X.sz j hj]
  by_cases h0 : D.sz j = 0
  · rw [if_pos (by rw [h0]; rfl)]
    unfold Da.why
    rw [if_pos h0]
    rfl
  · rw [if_neg (nI_ne0 (by omega) (by omega))]
    have := M_L18 N hN I hj μ X h0 N 0 (by omega) (by omega)
    rw [if_pos (fun x hx => by omega)] at this
    exact this
