/-! PURE 39: what is seen comes round; seen -/
theorem lcm_eq (a p : Nat) : a / Nat.gcd a p * p = Nat.lcm a p := by
  rw [Nat.lcm, Nat.div_mul_right_comm (Nat.gcd_dvd_left a p)]
theorem Da.jn_all (D : Da) (S : Nat → Bool) {i w : Nat} (h : i ≤ w) (hw : D.jn S w ≤ 14400) : D.jn S i ≤ 14400 := by
  rcases Nat.lt_or_ge 14400 (D.jn S i) with c | c
  · have := D.jn_stop S c (w - i)
    rw [show i + (w - i) = w by omega] at this
    omega
  · exact c
theorem Da.jn_dvd (D : Da) (S : Nat → Bool) {w : Nat} (hw : D.jn S w ≤ 14400) : ∀ i, i ≤ w → ∀ x, x < i → S x = true → D.per x ∣ D.jn S i
  | 0, _, x, hx, _ => by omega
  | i + 1, hi, x, hx, hs => by
    have h1 := D.jn_all S (show i ≤ w by omega) hw
    unfold Da.jn
    by_cases c : S i = true
    · rw [if_pos ⟨h1, c⟩, lcm_eq]
      by_cases e : x = i
      · subst e
        exact Nat.dvd_lcm_right _ _
      · exact Nat.dvd_trans (D.jn_dvd S hw i (by omega) x (by omega) hs) (Nat.dvd_lcm_left _ _)
    · rw [if_neg (fun q => c q.2)]
      by_cases e : x = i
      · subst e
        exact absurd hs c
      · exact D.jn_dvd S hw i (by omega) x (by omega) hs
theorem Da.ph_round (D : Da) {j : Nat} {t u : Int} (h : (D.per j : Int) ∣ t - u) : D.ph j t = D.ph j u := by
  unfold Da.ph
  congr 1
  have : t - D.st j = (u - D.st j) + (t - u) := by omega
  rw [this, Int.add_emod, Int.emod_eq_zero_of_dvd h, Int.add_zero, Int.emod_emod_of_dvd _ (Int.dvd_refl _)]
theorem Da.vis_round (D : Da) {j : Nat} {t u : Int} (h : (D.per j : Int) ∣ t - u) : D.vis j t = D.vis j u := by
  unfold Da.vis Da.hr Da.hl
  rw [D.ph_round h]
theorem Da.sa_round (D : Da) (S : Nat → Bool) {t u : Int} : ∀ i, (∀ x, x < i → S x = true → (D.per x : Int) ∣ t - u) → D.sa S t i = D.sa S u i
  | 0, _ => rfl
  | i + 1, h => by
    unfold Da.sa
    rw [D.sa_round S i (fun x hx => h x (by omega))]
    by_cases c : S i = true
    · rw [if_pos c, if_pos c, D.vis_round (h i (by omega) c)]
    · rw [if_neg c, if_neg c]
theorem Da.sa_mod (D : Da) (S : Nat → Bool) (hw : D.jn S D.w ≤ 14400) (t : Nat) : D.sa S ((t % D.jn S D.w : Nat) : Int) D.w = D.sa S (t : Int) D.w := by
  refine D.sa_round S D.w (fun x hx hs => ?_)
  have h1 := D.jn_dvd S hw D.w (Nat.le_refl _) x hx hs
  have h2 : (D.jn S D.w : Int) ∣ ((t % D.jn S D.w : Nat) : Int) - t := by
    have := Nat.div_add_mod t (D.jn S D.w)
    refine ⟨-((t / D.jn S D.w : Nat) : Int), ?_⟩
    have e : (t : Int) = (D.jn S D.w : Int) * ((t / D.jn S D.w : Nat) : Int) + ((t % D.jn S D.w : Nat) : Int) := by exact_mod_cast this.symm
    rw [Int.mul_neg]
    omega
  exact Int.dvd_trans (Int.ofNat_dvd.mpr h1) h2
theorem Da.vis_ltn (D : Da) (j : Nat) (t : Int) : D.vis j t < 2 ^ D.n := by
  unfold Da.vis Da.sg
  split
  · exact bsN_lt _ _
  · split
    · exact bsN_lt _ _
    · exact Nat.two_pow_pos _
theorem Da.sa_ltn (D : Da) (S : Nat → Bool) (t : Int) : ∀ i, D.sa S t i < 2 ^ D.n
  | 0 => Nat.two_pow_pos _
  | i + 1 => by
    unfold Da.sa
    refine Nat.or_lt_two_pow (D.sa_ltn S t i) ?_
    split
    · exact D.vis_ltn _ _
    · exact Nat.two_pow_pos _
theorem Wk_seenAt_eq (N : Nat) (hN : 30 ≤ N) {D : Da} (I : DI D) {j : Nat} (hj : j < D.w) (g : D.go j = true) {t : Int} (h1 : -2 ^ 30 ≤ t) (h2 : t < 2 ^ 30) (μ : Mm) (X : DX D μ) (C : CrewOk D μ) : f_Wk_seenAt N j (zI t) μ = some (nI (D.vis j t), μ) := by
  have h24 := I.sz24 hj
  have k3 := I.kd j hj
  unfold f_Wk_seenAt Da.vis
  rw [X.kd j hj]
  by_cases c : D.kd j = 3
  · rw [if_pos (by rw [c]; rfl), if_pos c, (C.2 j hj g).2.1]
    unfold Da.ev
    rw [if_pos c]
  · have hp := I.ph_lt hj g t
    have pe : D.per j = D.cm j (D.sz j) := by unfold Da.per; rw [if_neg c]
    obtain ⟨a, b, d⟩ := I.hl_spec hj g c t
    have cl := I.cm_46 hj (show D.hl j t ≤ D.sz j by omega)
    have c46 := I.cm_46 hj (Nat.le_refl (D.sz j))
    have pl := I.pr j _ hj a
    rw [if_neg (show ¬ nI (D.kd j) = 3 from fun q => c ((nI_eq (b := 3) (by omega) (by decide)).mp q)), if_neg c, Wk_phaseAt_eq N I hj g c h1 h2 μ X C, bnS, Wk_legAt_eq N hN I hj g c (by omega) μ X C, bnS, show D.lf j (D.ph j t) = D.hl j t from rfl, if_pos (ixb_t (show D.hl j t < 24 by omega) (by decide)), nI_clamp (show D.hl j t < 2 ^ 31 by omega), (((C.2 j hj g).2.2 c).2 _ a).1, (((C.2 j hj g).2.2 c).2 _ a).2]
    by_cases r : D.ph j t ≤ D.cm j (D.hl j t) + D.pr j (D.hl j t)
    · have hr : D.hr j t = true := by unfold Da.hr; rw [decide_eq_true r, Bool.or_true]
      rw [if_neg (nI_nlt r (by omega)), if_pos hr, if_pos (ixb_t (show D.hl j t < 24 by omega) (by decide))]
    · have hr : ¬ D.hr j t = true := by unfold Da.hr; rw [decide_eq_false r, decide_eq_false c]; decide
      rw [if_pos (nI_lt (by omega) (by omega)), if_neg hr]; rfl
theorem Cr_seenAt_loop (N : Nat) (hN : 30 ≤ N) {D : Da} (I : DI D) {t : Int} (h1 : -2 ^ 30 ≤ t) (h2 : t < 2 ^ 30) (μ : Mm) (X : DX D μ) (C : CrewOk D μ) : ∀ (m i : Nat), i ≤ D.w → D.w < m + i → f_Cr_seenAt_L4 N m (zI t) (nI (D.sa D.go t i)) (nI i) μ = some (nI (D.sa D.go t D.w), μ) := by
  have w8 := I.w8
  intro m
  induction m with
  | zero => intro i h1 h2; omega
  | succ m ih =>
    intro i h3 h4
    rw [f_Cr_seenAt_L4, X.w]
    by_cases h : i = D.w
    · rw [if_pos (by rw [h]; exact nI_le (Nat.le_refl _) (by omega)), h]
    · have hi : i < D.w := by omega
      have s1 := D.sa_lt I.g D.go t i
      have v1 := D.vis_lt I.g i t
      rw [if_neg (nI_ge (by omega) (by omega)), Cr_goes_eq N I hi μ C, bnS]
      have := ih (i + 1) (by omega) (by omega)
      unfold f_Cr_seenAt_B35
      simp only [nI_1, nI_add]
      rw [← this]
      show _ = f_Cr_seenAt_L4 N m _ (nI (D.sa D.go t i ||| _)) _ _
      by_cases g : D.go i = true
      · rw [if_neg (by rw [g]; decide), if_pos (ixb_t (show i < 8 by omega) (show 8 < 2 ^ 31 by decide)), nI_clamp (show i < 2 ^ 31 by omega), Wk_seenAt_eq N hN I hi g h1 h2 μ X C, bnS, if_pos g, orN (by omega) (by omega)]
      · have g' : D.go i = false := by simpa using g
        rw [if_pos (by rw [g']; decide), if_neg g, show (0 : Int32) = nI 0 from rfl, orN (by omega) (by decide)]
theorem Cr_seenAt_eq (N : Nat) (hN : 30 ≤ N) {D : Da} (I : DI D) {t : Int} (h1 : -2 ^ 30 ≤ t) (h2 : t < 2 ^ 30) (μ : Mm) (X : DX D μ) (C : CrewOk D μ) : f_Cr_seenAt N (zI t) μ = some (nI (D.sa D.go t D.w), μ) :=
  Cr_seenAt_loop N hN I h1 h2 μ X C N 0 (by omega) (by have := I.w8; omega)
theorem M_bits_loop (N : Nat) {n B : Nat} (hn : n ≤ 16) (hB : B < 65536) (μ : Mm) (e : μ.1 0 9 = nI n) : ∀ (m i : Nat), i ≤ n → n < m + i → f_M_seen_L39 N m (nI B) (nI (cnt (fun q => B.testBit q) i)) (nI i) μ = f_M_seen_B63 N (nI B) (nI (cnt (fun q => B.testBit q) n)) μ := by
  intro m
  induction m with
  | zero => intro i h1 h2; omega
  | succ m ih =>
    intro i h1 h2
    rw [f_M_seen_L39, e]
    by_cases h : i = n
    · rw [if_pos (by rw [h]; exact nI_le (Nat.le_refl _) (by omega)), h]
    · rw [if_neg (nI_ge (by omega) (by omega)), bitN (by omega) (by omega)]
      simp only [nI_1, nI_add]
      rw [← ih (i + 1) (by omega) (by omega)]
      show _ = f_M_seen_L39 N m _ (nI (cnt _ i + _)) _ _
      by_cases c : B.testBit i = true
      · rw [c, show b2 true = nI 1 from rfl, nI_add, if_pos c]
      · have c' : B.testBit i = false := by simpa using c
        rw [c', show b2 false = nI 0 from rfl, nI_add, if_neg c]
theorem cnt_16 {B n : Nat} (hn : n ≤ 16) (h : B < 2 ^ n) : cnt (fun q => B.testBit q) 16 = cnt (fun q => B.testBit q) n := by
  have := cnt_pad (p := fun q => B.testBit q) (n := n) (16 - n) (fun i hi => Nat.testBit_lt_two_pow (Nat.lt_of_lt_of_le h (Nat.pow_le_pow_right (by decide) hi)))
  rw [show n + (16 - n) = 16 by omega] at this
  exact this
theorem sm_seen {TK} (N : Nat) (hN : 61000 ≤ N) : Sm_seen (Rel (RCv TK)) N := by
  have hR := RCv_ok TK
  intro k hk a1 μx μm h
  have hnx := h.next hR
  unfold f_W_seen f_M_seen
  rw [W_isTime_eq, f_M_in_eq]
  simp only [bnS, if01, show (0 : Int32).toInt = 0 from rfl, show (100000 : Int32).toInt = 100000 from rfl]
  by_cases c : 0 ≤ a1.toInt ∧ a1.toInt ≤ 100000
  · rw [if_pos c, if_pos c]
    obtain ⟨μ', D, e, h', I, X, M, C⟩ := h.fresh hk N (by omega)
    have n16 := I.g.n16
    have j1 := Da.jn_pos I D.w (S := D.go) (Nat.le_refl _) (fun x _ q => q)
    have ej : ∀ x, D.jn (D.goL 0) x = D.jn D.go x := fun x => D.jn_ext x (fun y _ => D.goL0 y)
    have es : ∀ t : Int, D.sa (D.goL 0) t D.w = D.sa D.go t D.w := fun t => D.sa_ext t D.w (fun y _ => D.goL0 y)
    unfold f_W_joint
    rw [e]
    simp only [bvS]
    rw [Cr_joint_all N (by omega) I μ' X C]
    simp only [bnS]
    obtain ⟨t, ht, rfl⟩ := row_of (x := a1) 100001 ⟨c.1, by omega⟩
    rcases M_laySeen_eq N hN I (L := 0) (by decide) μm M h'.2.2.2.2.2.1 with ⟨q1, μ2, r1, r2⟩ | ⟨q1, μ2, r1, r2, r3, _, r4⟩
    · rw [ej] at q1
      rw [if_pos (show 14400 < D.jg from q1), if_neg (by decide), r1, bnS, if_pos rfl]
      exact ⟨_, _, _, rfl, rfl, (h'.mfr r2).next hR⟩
    · rw [ej] at q1 r3 r4
      have ml : t % D.jn D.go D.w < D.jn D.go D.w := Nat.mod_lt _ (by omega)
      have s16 := D.sa_lt I.g D.go t D.w
      rw [if_neg (show ¬ 14400 < D.jg from by unfold Da.jg; omega), if_pos (show (1 : Int32) ≤ nI D.jg from (nIc (a := 1) (by decide) (by unfold Da.jg; omega)).mpr (by unfold Da.jg; omega)), r1, bnS, if_neg (by decide), r3, zI_n t, Cr_seenAt_eq N (by omega) I (by omega) (by omega) μ' X C]
      simp only [bnS]
      rw [if_neg (nI_ne0 (by omega) (by omega)), ← zI_n t, pk_rem (by omega) (by omega) (by omega), if_pos (ixb_t (show t % D.jn D.go D.w < 14400 by omega) (by decide)), nI_clamp (show t % D.jn D.go D.w < 2 ^ 31 by omega), r4 _ ml, es, Da.sa_mod D D.go q1 t, sI_at, upd_eq, bitCount_eq N s16, bnS]
      have := M_bits_loop N n16 s16 μ2 (by rw [r2.1 9 (by omega)]; exact M.n) N 0 (by omega) (by omega)
      rw [show nI (cnt (fun q => (D.sa D.go t D.w).testBit q) 0) = 0 from rfl, show nI 0 = (0 : Int32) from rfl] at this
      rw [this]
      unfold f_M_seen_B63 f_M_tells
      simp only [bnS]
      rw [cnt_16 n16 (D.sa_ltn D.go t D.w)]
      exact ⟨_, _, _, rfl, rfl, ((h'.mfr r2).asks hR _).next hR⟩
  · rw [if_neg c, if_neg c]
    exact ⟨_, _, _, rfl, rfl, hnx⟩
