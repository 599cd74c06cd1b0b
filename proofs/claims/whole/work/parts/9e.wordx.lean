/-! PURE 84: the class tells the word on -/
theorem zL_m1 {t : Int} (h1 : -2 ^ 63 ≤ t) (h2 : t < 2 ^ 63) : zL t = (-1 : Int64) ↔ t = -1 := by
  constructor
  · intro q
    have := congrArg Int64.toInt q
    rw [zL_toInt h1 h2, show (-1 : Int64).toInt = -1 from rfl] at this
    exact this
  · intro q; rw [q]; rfl
theorem upT_id (T : Nat → Int) (i : Nat) : upT T i (T i) = T := by
  funext w
  unfold upT
  by_cases c : w = i
  · rw [if_pos c, c]
  · rw [if_neg c]
def XW (T : Nat → Int) (μ : Mm) : Prop := ∀ w, w < 8 → μ.2 74 w = zL (T w)
theorem XW.set {T : Nat → Int} {μ : Mm} (h : XW T μ) (i : Nat) (v : Int) : XW (upT T i v) (sL μ 74 i (zL v)) := fun w hw => by
  rw [sL2, if_pos rfl, updL_at]
  unfold upT
  by_cases c : w = i
  · rw [if_pos c, if_pos c]
  · rw [if_neg c, if_neg c]; exact h w hw
def wtB (D : Da) (s : Nat → Bool) : Nat := bsN (fun w => D.go w && !s w) D.w
theorem wtB_lt {D : Da} (I : DI D) (s : Nat → Bool) : wtB D s < 256 := by
  have h1 := bsN_lt (fun w => D.go w && !s w) D.w
  have h2 : 2 ^ D.w ≤ 2 ^ 8 := Nat.pow_le_pow_right (by decide) I.w8
  unfold wtB
  omega
theorem wtB_tb (D : Da) (s : Nat → Bool) (i : Nat) : (wtB D s).testBit i = (decide (i < D.w) && (D.go i && !s i)) := bsN_tb _ i D.w
theorem wtB_yes {D : Da} {s : Nat → Bool} {i : Nat} (h : i < D.w ∧ D.go i = true ∧ s i = false) : (wtB D s).testBit i = true := by
  rw [wtB_tb, decide_eq_true h.1, h.2.1, h.2.2]; rfl
theorem wtB_no {D : Da} {s : Nat → Bool} {i : Nat} (h : ¬ (i < D.w ∧ D.go i = true ∧ s i = false)) : (wtB D s).testBit i = false := by
  cases q : (wtB D s).testBit i
  · rfl
  · rw [wtB_tb, Bool.and_eq_true, Bool.and_eq_true, decide_eq_true_eq, Bool.not_eq_true'] at q
    exact absurd q h
theorem X_tell_loop (N : Nat) (hN : 61000 ≤ N) {D : Da} (I : DI D) (sh : D.short) {x : Nat} (hx : x < D.w) (gx : D.go x = true) {F : Nat} (hF : F < 2 ^ 40) (s : Nat → Bool) (sx : s x = true) : ∀ (m i : Nat) (T : Nat → Int) (μ : Mm), DX D μ → CrewOk D μ → XW T μ → T x = F → (∀ w, -1 ≤ T w ∧ T w < 2 ^ 41) → i ≤ 8 → 8 < m + i → ∃ T' μ', f_Me_tellOthers_L2 N m (nI x) (nI (wtB D s)) (nI i) μ = some μ' ∧ XFr μ μ' ∧ XW T' μ' ∧ StW D F T s i T' (fun w r => D.CR x w F (D.j2 x w) r) := by
  have w8 := I.w8
  have wl := wtB_lt I s
  intro m
  induction m with
  | zero => intro i T μ _ _ _ _ _ h1 h2; omega
  | succ m ih =>
    intro i T μ X C W tx tb h1 h2
    rw [f_Me_tellOthers_L2]
    unfold f_Me_tellOthers_B75
    simp only [← nI_succ]
    by_cases z : i = 8
    · rw [if_pos (show (8 : Int32) ≤ nI i by rw [z]; exact nI_le (Nat.le_refl 8) (by decide))]
      exact ⟨T, μ, rfl, XFr.refl _, W, fun w _ => rfl, fun w w1 w2 => by omega⟩
    · rw [if_neg (show ¬ (8 : Int32) ≤ nI i from nI_ge (b := 8) (by omega) (by decide)), bitN (by omega) (by omega)]
      by_cases n : i < D.w ∧ D.go i = true ∧ s i = false
      · obtain ⟨hi, g, si⟩ := n
        have nxi : x ≠ i := fun q => by rw [q, si] at sx; cases sx
        have j := short2 I sh hx hi gx g nxi
        rw [wtB_yes ⟨hi, g, si⟩, if_neg (show ¬ b2 true = 0 by decide), if_pos (ixb_t (show x < 8 by omega) (show 8 < 2 ^ 31 by decide)), nI_clamp (show x < 2 ^ 31 by omega), W x (by omega), tx]
        obtain ⟨r, μ1, l1, l2, l4, l3⟩ := Me_firstOf_eq N (by omega) I hx hi gx g nxi j (F := F) (by omega) μ X C
        rw [show zL (F : Int) = lN F from rfl, l1, bnS]
        have W1 : XW T μ1 := fun w hw => by rw [l4]; exact W w hw
        have fin : ∀ (z : Int) (μ2 : Mm), r = zL z → -1 ≤ z → z < F + 2 ^ 29 → XFr μ1 μ2 → XW (upT T i (nwT z (T i))) μ2 → ∃ T' μ', f_Me_tellOthers_L2 N m (nI x) (nI (wtB D s)) (nI (i + 1)) μ2 = some μ' ∧ XFr μ μ' ∧ XW T' μ' ∧ StW D F T s i T' (fun w r => D.CR x w F (D.j2 x w) r) := by
          intro z μ2 ez z1 z2 f2 W2
          have fr2 := l2.trans f2
          have nb := nwT_b (B := 2 ^ 41) z1 (by omega) (tb i).1 (tb i).2
          obtain ⟨T', μ', k1, k2, k3, k4⟩ := ih (i + 1) (upT T i (nwT z (T i))) μ2 (fr2.dx w8 X) (fr2.crew w8 C) W2 (by rw [upT_ne _ _ nxi]; exact tx) (fun w => by
            unfold upT
            by_cases c : w = i
            · rw [if_pos c]; exact nb
            · rw [if_neg c]; exact tb w) (by omega) (by omega)
          exact ⟨T', μ', k1, fr2.trans k2, k3, StW.one (z := z) k4 (by rw [← ez]; exact l3) z1 z2 ⟨hi, g, si⟩⟩
        unfold f_Me_tellOthers_B67 f_Me_tellOthers_B75
        have ti := tb i
        simp only [if_pos (ixb_t (show i < 8 by omega) (show 8 < 2 ^ 31 by decide)), nI_clamp (show i < 2 ^ 31 by omega), W1 i (by omega), ← nI_succ, cmp_ge64, lg_cmp_eq, zL_toInt (show -2 ^ 63 ≤ T i by omega) (show T i < 2 ^ 63 by omega), zL_m1 (show -2 ^ 63 ≤ T i by omega) (show T i < 2 ^ 63 by omega)]
        rcases l3 with ⟨q, _⟩ | ⟨y, q, y1, y2, _⟩
        · have e1 : nwT (-1) (T i) = T i := by unfold nwT; rw [if_pos (by decide)]
          rw [if_pos q]
          exact fin (-1) μ1 (by rw [q]; rfl) (by omega) (by omega) (XFr.refl _) (by rw [e1, upT_id]; exact W1)
        · rw [q, if_neg (lN_m1 (by omega)), pk_lT (by omega)]
          have f0 := fin y (sL μ1 74 i (zL (nwT y (T i)))) (by rw [q]; rfl) (by omega) (by omega) (XFr.lfld (by decide) _ _) (W1.set i _)
          by_cases c1 : T i = -1
          · have e1 : nwT y (T i) = y := by unfold nwT; rw [if_neg (by omega), if_pos (by omega)]
            rw [e1] at f0
            rw [if_pos c1]
            exact f0
          · rw [if_neg c1]
            by_cases c2 : T i ≤ y
            · have e1 : nwT y (T i) = T i := by unfold nwT; rw [if_neg (by omega), if_neg (by omega), if_neg (by omega)]
              rw [if_pos c2]
              exact fin y μ1 (by rw [q]; rfl) (by omega) (by omega) (XFr.refl _) (by rw [e1, upT_id]; exact W1)
            · have e1 : nwT y (T i) = y := by unfold nwT; rw [if_neg (by omega), if_neg (by omega), if_pos (by omega)]
              rw [e1] at f0
              rw [if_neg c2]
              exact f0
      · rw [wtB_no n, if_pos (show b2 false = 0 from rfl)]
        obtain ⟨T', μ', k1, k2, k3, k4⟩ := ih (i + 1) T μ X C W tx tb (by omega) (by omega)
        exact ⟨T', μ', k1, k2, k3, k4.skip n⟩
theorem X_er_loop (N : Nat) {D : Da} (I : DI D) (T : Nat → Int) (s : Nat → Bool) (μ : Mm) (W : XW T μ) (tb : ∀ w, -1 ≤ T w ∧ T w < 2 ^ 41) (tg : ∀ w, 0 ≤ T w → w < D.w ∧ D.go w = true) : ∀ (m i : Nat), i ≤ 8 → 8 < m + i → f_Me_earliest_L5 N m (nI (wtB D s)) (zI (ErT T s (min i D.w))) (nI i) μ = some (zI (ErT T s D.w), μ) := by
  have w8 := I.w8
  have wl := wtB_lt I s
  intro m
  induction m with
  | zero => intro i h1 h2; omega
  | succ m ih =>
    intro i h1 h2
    rw [f_Me_earliest_L5]
    unfold f_Me_earliest_B54 f_Me_earliest_B52 f_Me_earliest_B54
    simp only [← nI_succ]
    by_cases z : i = 8
    · rw [if_pos (show (8 : Int32) ≤ nI i by rw [z]; exact nI_le (Nat.le_refl 8) (by decide)), z, show min 8 D.w = D.w by omega]
    · rw [if_neg (show ¬ (8 : Int32) ≤ nI i from nI_ge (b := 8) (by omega) (by decide)), bitN (by omega) (by omega)]
      have nx := ih (i + 1) (by omega) (by omega)
      by_cases hi : i < D.w
      · rw [show min i D.w = i by omega]
        rw [show min (i + 1) D.w = i + 1 by omega] at nx
        have ti := tb i
        have er : ErT T s (i + 1) = if s i = false ∧ 0 ≤ T i ∧ (ErT T s i < 0 ∨ T i < T (ErT T s i).toNat) then (i : Int) else ErT T s i := rfl
        by_cases n : i < D.w ∧ D.go i = true ∧ s i = false
        · rw [wtB_yes n, if_neg (show ¬ b2 true = 0 by decide)]
          simp only [if_pos (ixb_t (show i < 8 by omega) (show 8 < 2 ^ 31 by decide)), nI_clamp (show i < 2 ^ 31 by omega), W i (by omega), cmp_ge64, lg_cmp_eq, zL_toInt (show -2 ^ 63 ≤ T i by omega) (show T i < 2 ^ 63 by omega), zL_m1 (show -2 ^ 63 ≤ T i by omega) (show T i < 2 ^ 63 by omega)]
          by_cases t0 : T i = -1
          · rw [if_pos t0, ← nx, er, if_neg (by omega)]
          · rw [if_neg t0]
            rcases ErT_spec T s i with ⟨e, _⟩ | ⟨x, x1, e, x2, x3⟩
            · rw [if_pos (show zI (ErT T s i) < (0 : Int32) by rw [e]; decide), ← nx, er, if_pos ⟨n.2.2, by omega, Or.inl (by rw [e]; decide)⟩, zI_n i]
            · rw [e] at er ⊢
              have tx := tb x
              rw [Int.toNat_natCast] at er
              rw [← zI_n x, if_neg (show ¬ nI x < (0 : Int32) from fun q => by rw [lt_I, tI (by omega), show (0 : Int32).toInt = 0 from rfl] at q; omega), if_pos (ixb_t (show x < 8 by omega) (show 8 < 2 ^ 31 by decide)), nI_clamp (show x < 2 ^ 31 by omega), W x (by omega), zL_toInt (by omega) (by omega)]
              by_cases c : T x ≤ T i
              · rw [if_pos c, ← nx, er, if_neg (by omega), zI_n x]
              · rw [if_neg c, ← nx, er, if_pos ⟨n.2.2, by omega, Or.inr (by omega)⟩, zI_n i]
        · rw [wtB_no n, if_pos (show b2 false = 0 from rfl), ← nx, er, if_neg (fun q => n ⟨hi, (tg i q.2.1).2, q.1⟩)]
      · rw [wtB_no (fun q => hi q.1), if_pos (show b2 false = 0 from rfl), ← nx, show min (i + 1) D.w = min i D.w by omega]
theorem X_er_eq (N : Nat) (hN : 10 ≤ N) {D : Da} (I : DI D) (T : Nat → Int) (s : Nat → Bool) (μ : Mm) (W : XW T μ) (tb : ∀ w, -1 ≤ T w ∧ T w < 2 ^ 41) (tg : ∀ w, 0 ≤ T w → w < D.w ∧ D.go w = true) : f_Me_earliest N (nI (wtB D s)) μ = some (zI (ErT T s D.w), μ) := by
  have := X_er_loop N I T s μ W tb tg N 0 (by omega) (by omega)
  rw [Nat.zero_min] at this
  exact this
