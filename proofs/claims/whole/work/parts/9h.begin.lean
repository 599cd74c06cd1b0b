/-! PURE 87: the word begins; spread, word -/
theorem X_init_w (N : Nat) (v1 v4 : Int32) (v2 : Int64) : ∀ (m i : Nat) (μ : Mm), i ≤ 8 → 8 < m + i → (∀ w, w < i → μ.2 74 w = zL (-1)) → ∃ μ', f_Me_pass_L3 N m v1 v2 v4 (nI i) μ = f_Me_pass_B26 N v1 v2 v4 μ' ∧ XFr μ μ' ∧ XW (fun _ => -1) μ' := by
  intro m
  induction m with
  | zero => intro i μ h1 h2; omega
  | succ m ih =>
    intro i μ h1 h2 h3
    rw [f_Me_pass_L3]
    by_cases z : i = 8
    · rw [if_pos (show (8 : Int32) ≤ nI i by rw [z]; exact nI_le (Nat.le_refl 8) (by decide))]
      exact ⟨μ, rfl, XFr.refl _, fun w hw => h3 w (by omega)⟩
    · rw [if_neg (show ¬ (8 : Int32) ≤ nI i from nI_ge (b := 8) (by omega) (by decide)), if_pos (ixb_t (show i < 8 by omega) (show 8 < 2 ^ 31 by decide)), nI_clamp (show i < 2 ^ 31 by omega)]
      simp only [← nI_succ]
      obtain ⟨μ', k1, k2, k3⟩ := ih (i + 1) (sL μ 74 i (-1)) (by omega) (by omega) (fun w hw => by
        rw [sL2, if_pos rfl, updL_at]
        by_cases c : w = i
        · rw [if_pos c]; rfl
        · rw [if_neg c]; exact h3 w (by omega))
      exact ⟨μ', k1, (XFr.lfld (by decide) _ _).trans k2, k3⟩
theorem M_init_w (N : Nat) {D : Da} (I : DI D) (v1 v2 : Int32) : ∀ (m i : Nat) (μ : Mm), DM D μ → i ≤ D.w → D.w < m + i → (∀ w, w < i → μ.2 22 w = zL (-1) ∧ μ.1 23 w = b2 false) → ∃ μ', f_M_layWord_L2 N m v1 v2 (nI i) μ = f_M_layWord_B32 N v1 v2 μ' ∧ MFr μ μ' ∧ MW D (fun _ => -1) (fun _ => false) μ' := by
  have w8 := I.w8
  intro m
  induction m with
  | zero => intro i μ _ h1 h2; omega
  | succ m ih =>
    intro i μ M h1 h2 h3
    rw [f_M_layWord_L2, M.w]
    by_cases z : i = D.w
    · rw [if_pos (by rw [z]; exact nI_le (Nat.le_refl _) (by omega))]
      exact ⟨μ, rfl, MFr.refl _, fun w hw => h3 w (by omega)⟩
    · rw [if_neg (nI_ge (by omega) (by omega)), if_pos (ixb_t (show i < 8 by omega) (show 8 < 2 ^ 31 by decide)), nI_clamp (show i < 2 ^ 31 by omega), if_pos (ixb_t (show i < 8 by omega) (show 8 < 2 ^ 31 by decide)), show vp_nar .boolean (0 : Int32) = 0 from rfl]
      simp only [← nI_succ]
      have fr : MFr μ (sI (sL μ 22 i (-1)) 23 i 0) := (MFr.l22 μ i _).trans (MFr.i23 _ i 0)
      obtain ⟨μ', k1, k2, k3⟩ := ih (i + 1) (sI (sL μ 22 i (-1)) 23 i 0) (fr.dm M) (by omega) (by omega) (fun w hw => by
        rw [sI2, sL2, if_pos rfl, updL_at, sI_at]
        by_cases c : w = i
        · rw [if_pos c, c, upd_eq]; exact ⟨rfl, rfl⟩
        · rw [if_neg c, upd_ne _ _ c]; exact h3 w (by omega))
      exact ⟨μ', k1, fr.trans k2, k3⟩
def T0w (a F : Nat) : Nat → Int := upT (fun _ => -1) a ((F * 27720 : Nat) : Int)
theorem T0w_a {a F w : Nat} (h : 0 ≤ T0w a F w) : w = a := by
  by_cases c : w = a
  · exact c
  · unfold T0w at h
    rw [upT_ne _ _ c] at h
    exact absurd h (by decide)
theorem T0w_eq (a F : Nat) : T0w a F a = ((F * 27720 : Nat) : Int) := upT_eq _ _ _
theorem T0w_er {D : Da} {a F : Nat} (ha : a < D.w) : ErT (T0w a F) (fun _ => false) D.w = (a : Int) := by
  rcases ErT_spec (T0w a F) (fun _ => false) D.w with ⟨_, q⟩ | ⟨x, _, e, _, x3⟩
  · have := q a ha rfl
    rw [T0w_eq] at this
    omega
  · rw [e, T0w_a x3]
theorem T0w_b {D : Da} {a F : Nat} (ha : a < D.w) (ga : D.go a = true) (hF : F < 14400) : WBd D (T0w a F) (fun _ => false) 0 := by
  refine ⟨fun w => ?_, fun w h => ?_, fun w h => ?_, cnt_none _ (fun _ _ => rfl)⟩
  · by_cases c : w = a
    · rw [c, T0w_eq]; omega
    · unfold T0w
      rw [upT_ne _ _ c]; omega
  · rw [T0w_a h]; exact ⟨ha, ga⟩
  · cases h
theorem T0w_v {D : Da} (a F : Nat) : WIv D (T0w a F) (fun _ => false) := by
  intro x y _ _ _ _ _ _ tx tm _
  rw [T0w_a tx, T0w_eq] at tm
  exact absurd (by omega) tm
theorem X_begin (N : Nat) (hN : 61000 ≤ N) {D : Da} (I : DI D) {A a F : Nat} (ha : a < D.w) (μ : Mm) (C : CrewOk D μ) : ∃ μ', f_Me_pass N (nI a) (lN (F * 27720)) (nI A) μ = f_Me_pass_L48 N N (nI A) (nI (wtB D (fun _ => false))) (nI (bsN (fun _ => false) D.w)) (nI 0) μ' ∧ XFr μ μ' ∧ XW (T0w a F) μ' := by
  have w8 := I.w8
  obtain ⟨μ1, k1, k2, k3⟩ := X_init_w N (nI a) (nI A) (lN (F * 27720)) N 0 μ (by omega) (by omega) (fun w h => by omega)
  have k1' : f_Me_pass N (nI a) (lN (F * 27720)) (nI A) μ = f_Me_pass_B26 N (nI a) (lN (F * 27720)) (nI A) μ1 := k1
  have f2 : XFr μ (sL μ1 74 a (lN (F * 27720))) := k2.trans (XFr.lfld (by decide) _ _)
  have C2 := f2.crew w8 C
  rw [k1']
  unfold f_Me_pass_B26
  rw [if_pos (ixb_t (show a < 8 by omega) (show 8 < 2 ^ 31 by decide)), nI_clamp (show a < 2 ^ 31 by omega)]
  simp only []
  rw [C2.1]
  have e1 : bsN D.go D.w = wtB D (fun _ => false) := bsN_ext (fun i _ => by cases D.go i <;> rfl)
  have e2 : bsN (fun _ => false) D.w = 0 := by
    refine Nat.eq_of_testBit_eq (fun i => ?_)
    rw [bsN_tb, Bool.and_false, Nat.zero_testBit]
  rw [e1, e2]
  exact ⟨_, rfl, f2, k3.set a _⟩
theorem M_begin (N : Nat) (hN : 61000 ≤ N) {D : Da} (I : DI D) {a F : Nat} (ha : a < D.w) (hF : F < 14400) (μ : Mm) (M : DM D μ) : ∃ μ', f_M_layWord N (nI F) (nI a) μ = f_M_layWord_L46 N N (zI (ErT (T0w a F) (fun _ => false) D.w)) μ' ∧ MFr μ μ' ∧ MW D (T0w a F) (fun _ => false) μ' := by
  have w8 := I.w8
  obtain ⟨μ1, k1, k2, k3⟩ := M_init_w N I (nI F) (nI a) N 0 μ M (by omega) (by omega) (fun w h => by omega)
  have k1' : f_M_layWord N (nI F) (nI a) μ = f_M_layWord_B32 N (nI F) (nI a) μ1 := k1
  rw [k1']
  unfold f_M_layWord_B32
  rw [i2lN (by omega), show (27720 : Int64) = lN 27720 from rfl, lN_mul, if_pos (ixb_t (show a < 8 by omega) (show 8 < 2 ^ 31 by decide)), nI_clamp (show a < 2 ^ 31 by omega), T0w_er ha]
  exact ⟨_, rfl, k2.trans (MFr.l22 μ1 a _), k3.set a _⟩
theorem word_run (N : Nat) (hN : 61000 ≤ N) {D : Da} (I : DI D) (sh : D.short) {A a F : Nat} (hA : A < 256) (ha : a < D.w) (ga : D.go a = true) (hF : F < 14400) (μx μm : Mm) (X : DX D μx) (C : CrewOk D μx) (M : DM D μm) (e0 : μm.1 0 27 = nI 0) : ∃ (Tc Tm : Nat → Int) (s' : Nat → Bool) (μx' μm' : Mm), f_Me_pass N (nI a) (lN (F * 27720)) (nI A) μx = some (nI (bsN s' D.w), μx') ∧ XFr μx μx' ∧ XW Tc μx' ∧ f_M_layWord N (nI F) (nI a) μm = some μm' ∧ MFr μm μm' ∧ (∀ w, w < D.w → μm'.2 22 w = zL (Tm w)) ∧ (∀ w, s' w = true → Tm w = Tc w ∧ 0 ≤ Tc w) ∧ (∀ w, -1 ≤ Tm w ∧ Tm w < 2 ^ 40) ∧ (∀ w, -1 ≤ Tc w ∧ Tc w < 2 ^ 40) ∧ (bsN s' D.w &&& A ≠ 0 ∨ ∀ w, w < D.w → s' w = false → Tm w < 0 ∧ Tc w < 0) := by
  have w8 := I.w8
  obtain ⟨μ1, k1, k2, k3⟩ := X_begin N hN I (A := A) (F := F) ha μx C
  obtain ⟨μ2, l1, l2, l3⟩ := M_begin N hN I ha hF μm M
  obtain ⟨Tc, Tm, s', μ3, μ4, p1, p2, p3, p4, p5, p6⟩ := word_loop N hN I sh hA N N 0 (T0w a F) (fun _ => false) μ1 μ2 (k2.dx w8 X) (k2.crew w8 C) (l2.dm M) ((l2.1 27 (by decide)).trans e0) k3 l3 (T0w_b ha ga hF) (T0w_v a F) (by omega) (by omega)
  exact ⟨Tc, Tm, s', μ3, μ4, k1.trans p1, k2.trans p2, p3, l1.trans p4, l2.trans p5, p6⟩
theorem word_self (N : Nat) (hN : 61000 ≤ N) {D : Da} (I : DI D) (sh : D.short) {a F : Nat} (ha : a < D.w) (ga : D.go a = true) (hF : F < 14400) (μ : Mm) (X : DX D μ) (C : CrewOk D μ) : ∃ r μ', f_Me_pass N (nI a) (lN (F * 27720)) (nI (2 ^ a)) μ = some (r, μ') ∧ XFr μ μ' ∧ μ'.2 74 a = lN (F * 27720) := by
  have w8 := I.w8
  have pa : 2 ^ a < 2 ^ 8 := Nat.pow_lt_pow_right (by decide) (by omega)
  obtain ⟨μ1, k1, k2, k3⟩ := X_begin N hN I (A := 2 ^ a) (F := F) ha μ C
  obtain ⟨n, rfl⟩ : ∃ n, N = n + 1 + 1 := ⟨N - 2, by omega⟩
  have e2 : bsN (fun _ => false) D.w = 0 := by
    refine Nat.eq_of_testBit_eq (fun i => ?_)
    rw [bsN_tb, Bool.and_false, Nat.zero_testBit]
  obtain ⟨T', μ2, l1, l2, l3, l4⟩ := X_step (n + 1 + 1) hN I sh (A := 2 ^ a) (by omega) μ1 (k2.dx w8 X) (k2.crew w8 C) k3 (T0w_b ha ga hF) (T0w_er ha) ha rfl (by rw [T0w_eq]; omega) (by rw [e2, Nat.zero_and]) (n + 1)
  have hl := hvB_lt I (stS (fun _ => false) a)
  have tb : (bsN (stS (fun _ => false) a) D.w &&& 2 ^ a).testBit a = true := by
    rw [Nat.testBit_and, bsN_tb, stS_eq, decide_eq_true ha, Nat.testBit_two_pow, decide_eq_true (show a = a from rfl)]; rfl
  have ne : bsN (stS (fun _ => false) a) D.w &&& 2 ^ a ≠ 0 := fun q => by
    rw [q, Nat.zero_testBit] at tb
    cases tb
  have al : bsN (stS (fun _ => false) a) D.w &&& 2 ^ a < 256 := Nat.lt_of_le_of_lt Nat.and_le_left hl
  rw [k1, l1, f_Me_pass_L48, if_neg (show ¬ (8 : Int32) ≤ nI (0 + 1) from nI_ge (b := 8) (by decide) (by decide)), andN (by omega) (by omega), if_neg (nI_ne0 (by omega) (by omega))]
  refine ⟨_, _, rfl, k2.trans l2, ?_⟩
  rw [l3 a (by omega), l4.1 a (fun q => by rw [stS_eq] at q; exact absurd q.2.2.2 (by decide)), T0w_eq]
  rfl
theorem M_spread_loop (N : Nat) {D : Da} (I : DI D) (T : Nat → Int) (μ : Mm) (e : μ.1 0 15 = nI D.w) (W : ∀ w, w < D.w → μ.2 22 w = zL (T w)) (tb : ∀ w, -1 ≤ T w ∧ T w < 2 ^ 40) : ∀ (m i : Nat), i ≤ D.w → D.w < m + i → f_M_spread_L25 N m (nI (cnt (fun w => decide (0 ≤ T w)) i)) (nI i) μ = some (nI (cnt (fun w => decide (0 ≤ T w)) D.w), μ) := by
  have w8 := I.w8
  intro m
  induction m with
  | zero => intro i h1 h2; omega
  | succ m ih =>
    intro i h1 h2
    rw [f_M_spread_L25, e]
    unfold f_M_spread_B53
    simp only [← nI_succ]
    by_cases z : i = D.w
    · rw [if_pos (by rw [z]; exact nI_le (Nat.le_refl _) (by omega)), z]
    · have hi : i < D.w := by omega
      have ti := tb i
      have nx := ih (i + 1) (by omega) (by omega)
      have cs : cnt (fun w => decide (0 ≤ T w)) (i + 1) = cnt (fun w => decide (0 ≤ T w)) i + (if decide (0 ≤ T i) = true then 1 else 0) := rfl
      rw [if_neg (nI_ge (by omega) (by omega)), if_pos (ixb_t (show i < 8 by omega) (show 8 < 2 ^ 31 by decide)), nI_clamp (show i < 2 ^ 31 by omega), W i hi]
      simp only [cmp_lt64, zL_toInt (show -2 ^ 63 ≤ T i by omega) (show T i < 2 ^ 63 by omega), show (0 : Int64).toInt = 0 from rfl]
      by_cases c : T i < 0
      · rw [if_pos c, show (0 : Int32) = nI 0 from rfl, nI_add, ← nx, cs, decide_eq_false (by omega), if_neg (by decide)]
      · rw [if_neg c, ← nx, cs, decide_eq_true (by omega), if_pos rfl]
