/-! PURE 37: the digest, both sides at once -/
theorem dg_row (N : Nat) {μx μm : Mm} {n a : Nat} (n16 : n ≤ 16) (ha : a < n) (ex : μx.1 6 1 = nI n) (em : μm.1 0 9 = nI n) (hl : ∀ a b, a < 16 → b < 16 → μx.1 7 (16 * a + b) = if μm.1 6 (16 * a + b) = 0 then μm.1 5 (16 * a + b) else -μm.1 5 (16 * a + b)) (k5 k33 : Int64 → Int32 → Mm → Option (Int64 × Mm)) : ∀ (m b : Nat), b ≤ n → n < m + b → ∀ h, ∃ h', f_Gr_mixInto_L20 N k5 m h (nI a) (nI b) μx = k5 h' (nI (a + 1)) μx ∧ f_M_digest_L46 N k33 m h (nI a) (nI b) μm = k33 h' (nI (a + 1)) μm := by
  intro m
  induction m with
  | zero => intro b h1 h2; omega
  | succ m ih =>
    intro b h1 h2 h
    rw [f_Gr_mixInto_L20, f_M_digest_L46, ex, em]
    by_cases e : b = n
    · rw [if_pos (by rw [e]; exact nI_le (Nat.le_refl _) (by omega)), if_pos (by rw [e]; exact nI_le (Nat.le_refl _) (by omega))]
      unfold f_Gr_mixInto_B51 f_M_digest_B106
      simp only [nI_1, nI_add]
      exact ⟨h, rfl, rfl⟩
    · have hb : b < n := by omega
      rw [if_neg (nI_ge (by omega) (by omega)), if_neg (nI_ge (by omega) (by omega)), Gr_lengthOf_at N (by omega) (by omega), bnS, hl a b (by omega) (by omega)]
      unfold f_M_digest_B97
      simp only [show (16 : Int32) = nI 16 from rfl, pk_mul, nI_add, if_pos (ixb_t (show 16 * a + b < 256 by omega) (by decide)), nI_clamp (show 16 * a + b < 2 ^ 31 by omega), nI_1]
      by_cases c : μm.1 6 (16 * a + b) = 0
      · rw [if_pos c, if_pos c]
        exact ih (b + 1) (by omega) (by omega) _
      · rw [if_neg c, if_neg c]
        exact ih (b + 1) (by omega) (by omega) _
theorem dg_rows (N : Nat) (hN : 30 ≤ N) {μx μm : Mm} {n : Nat} (n16 : n ≤ 16) (ex : μx.1 6 1 = nI n) (em : μm.1 0 9 = nI n) (hl : ∀ a b, a < 16 → b < 16 → μx.1 7 (16 * a + b) = if μm.1 6 (16 * a + b) = 0 then μm.1 5 (16 * a + b) else -μm.1 5 (16 * a + b)) : ∀ (m a : Nat), a ≤ n → n < m + a → ∀ h, ∃ h', f_Gr_mixInto_L5 N m h (nI a) μx = f_Gr_mixInto_B57 N h' μx ∧ f_M_digest_L33 N m h (nI a) μm = f_M_digest_B112 N h' μm := by
  intro m
  induction m with
  | zero => intro b h1 h2; omega
  | succ m ih =>
    intro a h1 h2 h
    rw [f_Gr_mixInto_L5, f_M_digest_L33, ex, em]
    by_cases e : a = n
    · rw [if_pos (by rw [e]; exact nI_le (Nat.le_refl _) (by omega)), if_pos (by rw [e]; exact nI_le (Nat.le_refl _) (by omega))]
      exact ⟨h, rfl, rfl⟩
    · have ha : a < n := by omega
      rw [if_neg (nI_ge (by omega) (by omega)), if_neg (nI_ge (by omega) (by omega))]
      simp only [nI_1, nI_add]
      obtain ⟨h1', r1, r2⟩ := dg_row N n16 ha ex em hl (f_Gr_mixInto_L5 N m) (f_M_digest_L33 N m) N (a + 1) (by omega) (by omega) h
      rw [r1, r2]
      exact ih (a + 1) (by omega) (by omega) h1'
theorem dg_worths (N : Nat) {μx μm : Mm} {n : Nat} (n16 : n ≤ 16) (ex : μx.1 6 1 = nI n) (em : μm.1 0 9 = nI n) (hw : ∀ p, p < n → μx.1 8 p = μm.1 7 p) (hb : ∀ p, p < 16 → μx.1 9 p = μm.1 8 p) : ∀ (m p : Nat), p ≤ n → n < m + p → ∀ h, ∃ h', f_Gr_mixInto_L60 N m h (nI p) μx = some (h', μx) ∧ f_M_digest_L114 N m h (nI p) μm = f_M_digest_B159 N h' μm := by
  intro m
  induction m with
  | zero => intro b h1 h2; omega
  | succ m ih =>
    intro p h1 h2 h
    rw [f_Gr_mixInto_L60, f_M_digest_L114, ex, em]
    by_cases e : p = n
    · rw [if_pos (by rw [e]; exact nI_le (Nat.le_refl _) (by omega)), if_pos (by rw [e]; exact nI_le (Nat.le_refl _) (by omega))]
      exact ⟨h, rfl, rfl⟩
    · have ha : p < n := by omega
      rw [if_neg (nI_ge (by omega) (by omega)), if_neg (nI_ge (by omega) (by omega))]
      unfold f_Gr_mixInto_B99 f_M_digest_B150
      simp only [nI_1, nI_add, if_pos (ixb_t (show p < 16 by omega) (by decide)), nI_clamp (show p < 2 ^ 31 by omega), hw p ha, hb p (by omega)]
      by_cases c : μm.1 8 p = 0
      · rw [if_pos c, if_pos c]
        exact ih (p + 1) (by omega) (by omega) _
      · rw [if_neg c, if_neg c]
        exact ih (p + 1) (by omega) (by omega) _
theorem dg_rests (N : Nat) {D : Da} (I : DI D) {j : Nat} (hj : j < D.w) {μx μm : Mm} (X : DX D μx) (M : DM D μm) (k : Int64 → Int32 → Mm → Option (Int64 × Mm)) : ∀ (m i : Nat), i ≤ D.sz j → D.sz j < m + i → ∀ h, ∃ h', f_Wk_mixPlanInto_L49 N j m h (nI i) μx = some (h', μx) ∧ f_M_digest_L272 N k m h (nI j) (nI i) μm = k h' (nI (j + 1)) μm := by
  have h24 := I.sz24 hj
  have w8 := I.w8
  intro m
  induction m with
  | zero => intro b h1 h2; omega
  | succ m ih =>
    intro i h1 h2 h
    rw [f_Wk_mixPlanInto_L49, f_M_digest_L272, X.sz j hj, if_pos (ixb_t (show j < 8 by omega) (show 8 < 2 ^ 31 by decide)), nI_clamp (show j < 2 ^ 31 by omega), M.sz j hj]
    by_cases e : i = D.sz j
    · rw [if_pos (by rw [e]; exact nI_le (Nat.le_refl _) (by omega)), if_pos (by rw [e]; exact nI_le (Nat.le_refl _) (by omega))]
      unfold f_M_digest_B304
      simp only [nI_1, nI_add]
      exact ⟨h, rfl, rfl⟩
    · have hi : i < D.sz j := by omega
      rw [if_neg (nI_ge (by omega) (by omega)), if_neg (nI_ge (by omega) (by omega)), M_rest_eq N (by omega) (by omega), bnS, M.pr j i hj hi]
      simp only [nI_1, nI_add, if_pos (ixb_t (show i < 24 by omega) (by decide)), nI_clamp (show i < 2 ^ 31 by omega), X.pr j i hj hi]
      exact ih (i + 1) (by omega) (by omega) _
theorem dg_posts (N : Nat) (hN : 30 ≤ N) {D : Da} (I : DI D) {j : Nat} (hj : j < D.w) {μx μm : Mm} (X : DX D μx) (M : DM D μm) (k : Int64 → Int32 → Mm → Option (Int64 × Mm)) : ∀ (m i : Nat), i ≤ D.sz j → D.sz j < m + i → ∀ h, ∃ h', f_Wk_mixPlanInto_L16 N j m h (nI i) μx = some (h', μx) ∧ f_M_digest_L237 N k m h (nI j) (nI i) μm = k h' (nI (j + 1)) μm := by
  have h24 := I.sz24 hj
  have w8 := I.w8
  intro m
  induction m with
  | zero => intro b h1 h2; omega
  | succ m ih =>
    intro i h1 h2 h
    rw [f_Wk_mixPlanInto_L16, f_M_digest_L237, X.sz j hj, if_pos (ixb_t (show j < 8 by omega) (show 8 < 2 ^ 31 by decide)), nI_clamp (show j < 2 ^ 31 by omega), M.sz j hj]
    by_cases e : i = D.sz j
    · rw [if_pos (by rw [e]; exact nI_le (Nat.le_refl _) (by omega)), if_pos (by rw [e]; exact nI_le (Nat.le_refl _) (by omega))]
      unfold f_Wk_mixPlanInto_B46 f_M_digest_B269
      exact dg_rests N I hj X M k N 0 (by omega) (by omega) h
    · have hi : i < D.sz j := by omega
      rw [if_neg (nI_ge (by omega) (by omega)), if_neg (nI_ge (by omega) (by omega)), M_post_eq N (by omega) (by omega), bnS, M.pp j i hj hi]
      simp only [nI_1, nI_add, if_pos (ixb_t (show i < 24 by omega) (by decide)), nI_clamp (show i < 2 ^ 31 by omega), X.pp j i hj hi]
      exact ih (i + 1) (by omega) (by omega) _
theorem dg_plan (N : Nat) (hN : 30 ≤ N) {D : Da} (I : DI D) {j : Nat} (hj : j < D.w) {μx μm : Mm} (X : DX D μx) (M : DM D μm) (k : Int64 → Int32 → Mm → Option (Int64 × Mm)) (h : Int64) : ∃ h', f_Wk_mixPlanInto N j h μx = some (h', μx) ∧ f_M_digest_B220 N k h (nI j) μm = k h' (nI (j + 1)) μm := by
  have h24 := I.sz24 hj
  have w8 := I.w8
  unfold f_Wk_mixPlanInto f_M_digest_B220 f_Wk_markOf
  rw [if_pos (ixb_t (show j < 8 by omega) (show 8 < 2 ^ 31 by decide)), nI_clamp (show j < 2 ^ 31 by omega), X.sz j hj, if_neg (by decide), if_neg (by decide), if_neg (by decide)]
  by_cases c : D.sz j = 0
  · rw [if_pos (by rw [c]; decide), bnS, M.s9 j hj c]
    exact dg_posts N hN I hj X M k N 0 (by omega) (by omega) _
  · rw [if_neg (show ¬ nI (D.sz j) ≤ (0 : Int32) from nI_ge (a := 0) (by omega) (by omega)), bnS, M.st j hj c, X.st j hj c]
    exact dg_posts N hN I hj X M k N 0 (by omega) (by omega) _
theorem dg_tells (N : Nat) (hN : 30 ≤ N) {D : Da} (I : DI D) {j : Nat} (hj : j < D.w) {μx μm : Mm} (X : DX D μx) (M : DM D μm) (C : CrewOk D μx) (h0 : μm.1 0 27 = 0) (k5 k : Int64 → Int32 → Mm → Option (Int64 × Mm)) : ∀ (m z : Nat), z ≤ 7 → 7 < m + z → ∀ h, ∃ h', f_Cr_mixInto_L37 N k5 m h (nI j) (nI z) μx = k5 h' (nI (j + 1)) μx ∧ f_M_digest_L192 N k m h (nI j) (nI z) μm = k h' (nI (j + 1)) μm := by
  have w8 := I.w8
  intro m
  induction m with
  | zero => intro b h1 h2; omega
  | succ m ih =>
    intro z h1 h2 h
    rw [f_Cr_mixInto_L37, f_M_digest_L192]
    by_cases e : z = 7
    · subst e
      rw [if_pos (by decide), if_pos (by decide)]
      obtain ⟨h', r1, r2⟩ := dg_plan N hN I hj X M k h
      unfold f_Cr_mixInto_B66 f_Cr_mixInto_B78
      simp only [if_pos (ixb_t (show j < 8 by omega) (show 8 < 2 ^ 31 by decide)), nI_clamp (show j < 2 ^ 31 by omega), r1, bnS, nI_1, nI_add]
      exact ⟨h', rfl, r2⟩
    · obtain ⟨v, e1, e2⟩ := told_eq N hN I hj (z := z) (by omega) μx μm X M C h0
      rw [if_neg (show ¬ (6 : Int32) < nI z from fun q => absurd ((nIl (a := 6) (by decide) (by omega)).mp q) (by omega)), if_neg (show ¬ (7 : Int32) ≤ nI z from nI_ge (b := 7) (by omega) (by decide)), e1, e2]
      simp only [bnS, nI_1, nI_add]
      exact ih (z + 1) (by omega) (by omega) _
theorem dg_crew (N : Nat) (hN : 30 ≤ N) {D : Da} (I : DI D) {μx μm : Mm} (X : DX D μx) (M : DM D μm) (C : CrewOk D μx) (h0 : μm.1 0 27 = 0) : ∀ (m j : Nat), j ≤ D.w → D.w < m + j → ∀ h, ∃ h', f_Cr_mixInto_L5 N m h (nI j) μx = some (h', μx) ∧ f_M_digest_L161 N m h (nI j) μm = f_M_digest_B310 N h' μm := by
  have w8 := I.w8
  intro m
  induction m with
  | zero => intro b h1 h2; omega
  | succ m ih =>
    intro j h1 h2 h
    rw [f_Cr_mixInto_L5, f_M_digest_L161, X.w, M.w]
    by_cases e : j = D.w
    · rw [if_pos (by rw [e]; exact nI_le (Nat.le_refl _) (by omega)), if_pos (by rw [e]; exact nI_le (Nat.le_refl _) (by omega))]
      exact ⟨h, rfl, rfl⟩
    · have hj : j < D.w := by omega
      rw [if_neg (nI_ge (by omega) (by omega)), if_neg (nI_ge (by omega) (by omega)), Cr_lacks_eq N (by omega) μx (by rw [X.gn j hj]; exact b2_z _), bnS, if_pos (ixb_t (show j < 8 by omega) (show 8 < 2 ^ 31 by decide)), nI_clamp (show j < 2 ^ 31 by omega), X.gn j hj, M.gn j hj]
      by_cases c : b2 (D.gn j) = 0
      · rw [if_pos c, if_pos c]
        obtain ⟨h', r1, r2⟩ := dg_tells N hN I hj X M C h0 (f_Cr_mixInto_L5 N m) (f_M_digest_L161 N m) N 0 (by omega) (by omega) h
        rw [show (0 : Int32) = nI 0 from rfl, r1, r2]
        exact ih (j + 1) (by omega) (by omega) h'
      · rw [if_neg c, if_neg c]
        unfold f_Cr_mixInto_B78 f_M_digest_B304
        simp only [nI_1, nI_add]
        exact ih (j + 1) (by omega) (by omega) _
theorem dg_bytes (N : Nat) {μx μm : Mm} {r : Nat} (hr : r < 8) (hs : RSx μx μm) (k5 k : Int64 → Int32 → Mm → Option (Int64 × Mm)) : ∀ (m i : Nat), i ≤ 41 → 41 < m + i → ∀ h, ∃ h', f_Sf_mixInto_L30 N k5 m h (nI r) (nI i) μx = k5 h' (nI (r + 1)) μx ∧ f_M_digest_L335 N k m h (nI r) (nI i) μm = k h' (nI (r + 1)) μm := by
  obtain ⟨s1, _, _⟩ := hs
  obtain ⟨e1, e2, e3, e4⟩ := s1 r hr
  intro m
  induction m with
  | zero => intro b h1 h2; omega
  | succ m ih =>
    intro i h1 h2 h
    rw [f_Sf_mixInto_L30, f_M_digest_L335, if_pos (ixb_t hr (show 8 < 2 ^ 31 by decide)), if_pos (ixb_t hr (show 8 < 2 ^ 31 by decide)), nI_clamp (show r < 2 ^ 31 by omega), e1]
    by_cases c : μm.1 2 r ≤ nI i
    · rw [if_pos c, if_pos c]
      unfold f_Sf_mixInto_B64 f_M_digest_B367
      simp only [nI_1, nI_add]
      exact ⟨h, rfl, rfl⟩
    · have hi : (i : Int) < (μm.1 2 r).toInt := by
        have : ¬ (μm.1 2 r).toInt ≤ (nI i).toInt := fun q => c (le_I.mpr q)
        rw [tI (by omega)] at this
        omega
      rw [if_neg c, if_neg c]
      unfold f_Sf_byteAt f_M_at
      simp only [show (40 : Int32) = nI 40 from rfl, pk_mul, nI_add, show r * 40 + i = 40 * r + i by omega, if_pos (ixb_t (show 40 * r + i < 320 by omega) (by decide)), nI_clamp (show 40 * r + i < 2 ^ 31 by omega), bnS, nI_1, e4 i hi]
      exact ih (i + 1) (by omega) (by omega) _
theorem dg_shelf (N : Nat) (hN : 50 ≤ N) {μx μm : Mm} (hs : RSx μx μm) : ∀ (m r : Nat), r ≤ 8 → 8 < m + r → ∀ h, ∃ h', f_Sf_mixInto_L5 N m h (nI r) μx = some (h', μx) ∧ f_M_digest_L312 N m h (nI r) μm = some (h', μm) := by
  intro m
  induction m with
  | zero => intro b h1 h2; omega
  | succ m ih =>
    intro r h1 h2 h
    rw [f_Sf_mixInto_L5, f_M_digest_L312]
    by_cases e : r = 8
    · subst e
      rw [if_pos (by decide), if_pos (by decide)]
      exact ⟨h, rfl, rfl⟩
    · have hr : r < 8 := by omega
      rw [if_neg (show ¬ (8 : Int32) ≤ nI r from nI_ge (b := 8) (by omega) (by decide)), if_neg (show ¬ (8 : Int32) ≤ nI r from nI_ge (b := 8) (by omega) (by decide)), if_pos (ixb_t hr (show 8 < 2 ^ 31 by decide)), if_pos (ixb_t hr (show 8 < 2 ^ 31 by decide)), nI_clamp (show r < 2 ^ 31 by omega), (hs.1 r hr).1]
      simp only []
      obtain ⟨h', r1, r2⟩ := dg_bytes N hr hs (f_Sf_mixInto_L5 N m) (f_M_digest_L312 N m) N 0 (by omega) (by omega) (31 * h + (μm.1 2 r).toInt64)
      rw [show (0 : Int32) = nI 0 from rfl, r1, r2]
      exact ih (r + 1) (by omega) (by omega) h'
theorem sm_digest {TK} (N : Nat) (hN : 50 ≤ N) : Sm_digest (Rel (RCv TK)) N := by
  have hR := RCv_ok TK
  intro k hk μx μm h
  unfold f_W_digest f_M_digest
  obtain ⟨M, rfl⟩ : ∃ M, N = M + 8 := ⟨N - 8, by omega⟩
  generalize hK : M + 8 = K at hN ⊢
  have st : ∀ (z m : Nat) (hz : z < 7) (h5 : z ≠ 5) (g : Int64) (μ : Mm), Rel (RCv TK) k μ μm → ∃ g', f_W_digest_L6 K (m + 1) g (nI z) μ = f_W_digest_L6 K m g' (nI (z + 1)) μ ∧ f_M_digest_L6 K (m + 1) g (nI z) μm = f_M_digest_L6 K m g' (nI (z + 1)) μm := by
    intro z m hz h5 g μ hr
    obtain ⟨v, e1, e2⟩ := countO hr K (by omega) hz h5
    rw [f_W_digest_L6, f_M_digest_L6, if_neg (show ¬ (6 : Int32) < nI z from fun q => absurd ((nIl (a := 6) (by decide) (by omega)).mp q) (by omega)), if_neg (show ¬ (7 : Int32) ≤ nI z from nI_ge (b := 7) (by omega) (by decide)), e1, e2]
    simp only [bnS, nI_1, nI_add]
    exact ⟨_, rfl, rfl⟩
  rw [← hK]
  obtain ⟨g0, a0, b0⟩ := st 0 (M + 7) (by decide) (by decide) 17 μx h
  obtain ⟨g1, a1, b1⟩ := st 1 (M + 6) (by decide) (by decide) g0 μx h
  obtain ⟨g2, a2, b2'⟩ := st 2 (M + 5) (by decide) (by decide) g1 μx h
  obtain ⟨g3, a3, b3⟩ := st 3 (M + 4) (by decide) (by decide) g2 μx h
  obtain ⟨g4, a4, b4⟩ := st 4 (M + 3) (by decide) (by decide) g3 μx h
  obtain ⟨v, μ', D, e1, e2, h', I, X, MM, C⟩ := count5 hk h K (by omega)
  obtain ⟨g6, a6, b6⟩ := st 6 (M + 1) (by decide) (by decide) (31 * g4 + v.toInt64) μ' h'
  have x5 : f_W_digest_L6 K (M + 3) g4 (nI 5) μx = f_W_digest_L6 K (M + 2) (31 * g4 + v.toInt64) (nI 6) μ' := by
    rw [f_W_digest_L6, if_neg (by decide), e1]; rfl
  have y5 : f_M_digest_L6 K (M + 3) g4 (nI 5) μm = f_M_digest_L6 K (M + 2) (31 * g4 + v.toInt64) (nI 6) μm := by
    rw [f_M_digest_L6, if_neg (by decide), e2]; rfl
  have x7 : f_W_digest_L6 K (M + 1) g6 (nI 7) μ' = f_W_digest_B31 K g6 μ' := by
    rw [f_W_digest_L6, if_pos (by decide)]
  have y7 : f_M_digest_L6 K (M + 1) g6 (nI 7) μm = f_M_digest_B31 K g6 μm := by
    rw [f_M_digest_L6, if_pos (by decide)]
  have xx : f_W_digest_L6 K (M + 8) 17 (nI 0) μx = f_W_digest_B31 K g6 μ' := by
    rw [a0, a1, a2, a3, a4, x5, a6, x7]
  have yy : f_M_digest_L6 K (M + 8) 17 (nI 0) μm = f_M_digest_B31 K g6 μm := by
    rw [b0, b1, b2', b3, b4, y5, b6, y7]
  rw [hK] at xx yy ⊢
  rw [show (0 : Int32) = nI 0 from rfl, xx, yy]
  obtain ⟨_, _, gG, _, _, gz, _⟩ := id h'
  have gS : RSx μ' μm := h'.2.1
  obtain ⟨_, _, gp, n, n1, n16, en, gL, gw, gb, _⟩ := gG
  have ex : μ'.1 6 1 = nI n := gp.trans en
  obtain ⟨q1, r1, s1⟩ := dg_rows K (by omega) n16 ex en (fun a b ha hb => (gL a b ha hb).2.2.2.2.2.2.2) K 0 (by omega) (by omega) g6
  obtain ⟨q2, r2, s2⟩ := dg_worths K n16 ex en (fun p hp => (gw p hp).1) (fun p hp => (gb p hp).1) K 0 (by omega) (by omega) q1
  obtain ⟨q3, r3, s3⟩ := dg_crew K (by omega) I X MM C gz K 0 (by omega) (by have := I.w8; omega) q2
  obtain ⟨q4, r4, s4⟩ := dg_shelf K hN gS K 0 (by omega) (by omega) q3
  have w1 : f_Gr_mixInto K g6 μ' = some (q2, μ') := by
    unfold f_Gr_mixInto
    rw [show (0 : Int32) = nI 0 from rfl, r1]
    unfold f_Gr_mixInto_B57
    exact r2
  have w2 : f_Cr_mixInto K q2 μ' = some (q3, μ') := r3
  have w3 : f_Sf_mixInto K q3 μ' = some (q4, μ') := r4
  have m1 : f_M_digest_B31 K g6 μm = some (q4, μm) := by
    unfold f_M_digest_B31
    rw [show (0 : Int32) = nI 0 from rfl, s1]
    unfold f_M_digest_B112
    rw [show (0 : Int32) = nI 0 from rfl, s2]
    unfold f_M_digest_B159
    rw [show (0 : Int32) = nI 0 from rfl, s3]
    exact s4
  unfold f_W_digest_B31
  rw [w1, bnS, w2, bnS, w3, bnS, m1]
  exact ⟨_, _, _, rfl, rfl, h'.next hR⟩
