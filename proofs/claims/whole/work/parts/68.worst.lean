/-! PURE 48: least bits; the worst post, both sides -/
theorem least_form {V k : Nat} (hk : V.testBit k = true) (h0 : ∀ t, t < k → V.testBit t = false) : V = 2 ^ (k + 1) * (V / 2 ^ (k + 1)) + 2 ^ k := by
  have e : V % 2 ^ (k + 1) = 2 ^ k := by
    apply Nat.eq_of_testBit_eq
    intro i
    rw [Nat.testBit_mod_two_pow, Nat.testBit_two_pow]
    rcases Nat.lt_trichotomy i k with c | c | c
    · rw [h0 i c, Bool.and_false, decide_eq_false (by omega)]
    · subst c
      rw [hk, decide_eq_true (by omega), decide_eq_true rfl]; rfl
    · rw [decide_eq_false (by omega), decide_eq_false (by omega)]; rfl
  have := Nat.div_add_mod V (2 ^ (k + 1))
  omega
theorem least_low {V k : Nat} (hk : V.testBit k = true) (h0 : ∀ t, t < k → V.testBit t = false) : anN (V - 1) V = 2 ^ k - 1 := by
  have f := least_form hk h0
  have p1 : 1 ≤ 2 ^ k := Nat.two_pow_pos k
  have pp : 2 ^ (k + 1) = 2 ^ k * 2 := Nat.pow_succ 2 k
  have f1 : V - 1 = 2 ^ (k + 1) * (V / 2 ^ (k + 1)) + (2 ^ k - 1) := by omega
  apply Nat.eq_of_testBit_eq
  intro i
  rw [anN_tb, Nat.testBit_two_pow_sub_one, f1, Nat.testBit_two_pow_mul_add _ (by omega), Nat.testBit_two_pow_sub_one]
  rcases Nat.lt_trichotomy i k with c | c | c
  · rw [if_pos (by omega), h0 i c, decide_eq_true c]; rfl
  · subst c
    rw [if_pos (by omega), hk, decide_eq_false (by omega)]; rfl
  · have hv : V.testBit i = (V / 2 ^ (k + 1)).testBit (i - (k + 1)) := by
      have g := Nat.testBit_two_pow_mul_add (V / 2 ^ (k + 1)) (show 2 ^ k < 2 ^ (k + 1) by omega) i
      rw [← f, if_neg (by omega)] at g
      exact g
    rw [if_neg (by omega), hv, decide_eq_false (by omega)]
    cases (V / 2 ^ (k + 1)).testBit (i - (k + 1)) <;> rfl
theorem ntz_eq (N : Nat) {V k : Nat} (hV : V < 65536) (hk : V.testBit k = true) (h0 : ∀ t, t < k → V.testBit t = false) (μ : Mm) : f_Ji_numberOfTrailingZeros_0f7a4 N (nI V) μ = some (nI k, μ) := by
  have k16 : k < 16 := by
    rcases Nat.lt_or_ge k 16 with c | c
    · exact c
    · rw [Nat.testBit_lt_two_pow (Nat.lt_of_lt_of_le hV (Nat.pow_le_pow_right (n := 2) (by decide) c))] at hk
      cases hk
  have v1 : 1 ≤ V := by
    rcases Nat.eq_zero_or_pos V with c | c
    · rw [c, Nat.zero_testBit] at hk; cases hk
    · exact c
  unfold f_Ji_numberOfTrailingZeros_0f7a4
  have e : (nI V ^^^ -1) &&& (nI V - 1) = nI (2 ^ k - 1) := by
    rw [show nI V - 1 = nI (V - 1) from pk_sub (b := 1) v1, Int32.and_comm, notN (by omega) (by omega), least_low hk h0]
  rw [e]
  clear e hk h0
  rcases (show k = 0 ∨ k = 1 ∨ k = 2 ∨ k = 3 ∨ k = 4 ∨ k = 5 ∨ k = 6 ∨ k = 7 ∨ k = 8 ∨ k = 9 ∨ k = 10 ∨ k = 11 ∨ k = 12 ∨ k = 13 ∨ k = 14 ∨ k = 15 by omega) with h | h | h | h | h | h | h | h | h | h | h | h | h | h | h | h <;> subst h <;> rfl
/-- the worst post and its load, post by post -/
def wsF (wor : Nat → Nat) (lv : Nat → Int) : Nat → Int × Int
  | 0 => (-9, 0)
  | p + 1 => if wor p = 0 ∨ (wsF wor lv p).2 = -9 then wsF wor lv p else if lv p = -9 then ((p : Nat), -9) else if (wsF wor lv p).1 = -9 ∨ (wsF wor lv p).2 < (wor p : Int) * lv p then ((p : Nat), (wor p : Int) * lv p) else wsF wor lv p
theorem wsF_b {wor : Nat → Nat} {lv : Nat → Int} {n : Nat} (hn : n ≤ 16) (hw : ∀ p, p < n → wor p ≤ 9) (hl : ∀ p, p < n → -9 ≤ lv p ∧ lv p ≤ 14400) : ∀ p, p ≤ n → -9 ≤ (wsF wor lv p).1 ∧ (wsF wor lv p).1 < p ∧ -9 * 9 ≤ (wsF wor lv p).2 ∧ (wsF wor lv p).2 ≤ 129600 ∨ (wsF wor lv p) = (-9, 0)
  | 0, _ => Or.inr rfl
  | p + 1, hp => by
    have ih := wsF_b hn hw hl p (by omega)
    have h1 := hw p (by omega)
    have h2 := hl p (by omega)
    have m1 : (wor p : Int) * lv p ≤ 129600 := by
      rcases Int.le_total 0 (lv p) with c | c
      · have := Int.mul_le_mul (show (wor p : Int) ≤ 9 by omega) h2.2 c (by omega)
        omega
      · have := Int.mul_nonneg (show (0 : Int) ≤ wor p by omega) (show 0 ≤ -(lv p) by omega)
        rw [Int.mul_neg] at this
        omega
    have m2 : -9 * 9 ≤ (wor p : Int) * lv p := by
      rcases Int.le_total 0 (lv p) with c | c
      · have := Int.mul_nonneg (show (0 : Int) ≤ wor p by omega) c
        omega
      · have := Int.mul_le_mul (show (wor p : Int) ≤ 9 by omega) (show -(lv p) ≤ 9 by omega) (by omega) (by omega)
        rw [Int.mul_neg] at this
        omega
    unfold wsF
    split
    · rcases ih with ih | ih
      · left; omega
      · right; exact ih
    · split
      · left; exact ⟨by simp only []; omega, by simp only []; omega, by simp only []; omega, by simp only []; omega⟩
      · split
        · left; exact ⟨by simp only []; omega, by simp only []; omega, by simp only []; omega, by simp only []; omega⟩
        · rcases ih with ih | ih
          · left; omega
          · right; exact ih
/-- only fields 33 to 37 of the reference change -/
def HFr (μ μ' : Mm) : Prop := (∀ c, c ≠ 0 → μ'.1 c = μ.1 c) ∧ (∀ f, f < 33 ∨ 37 < f → μ'.1 0 f = μ.1 0 f) ∧ μ'.2 = μ.2
theorem HFr.refl (μ : Mm) : HFr μ μ := ⟨fun _ _ => rfl, fun _ _ => rfl, rfl⟩
theorem HFr.trans {μ μ' μ'' : Mm} (a : HFr μ μ') (b : HFr μ' μ'') : HFr μ μ'' := ⟨fun c h => (b.1 c h).trans (a.1 c h), fun f h => (b.2.1 f h).trans (a.2.1 f h), b.2.2.trans a.2.2⟩
theorem HFr.fld {f : Nat} (h : 33 ≤ f) (h' : f ≤ 37) (μ : Mm) (v : Int32) : HFr μ (sI μ 0 f v) := ⟨fun c hc => sI_ne _ _ _ hc, fun g hg => by rw [sI_at, upd_ne _ _ (by omega)], rfl⟩
theorem HFr.mfr {μ μ' : Mm} (a : HFr μ μ') : MFr μ μ' := ⟨fun f h => a.2.1 f (by omega), fun c h => a.1 c (by omega), fun f _ => by rw [a.2.2]⟩
theorem GFr.hfr {μ μ' : Mm} (a : GFr μ μ') : HFr μ μ' := ⟨a.1, fun f h => a.2.1 f (by omega), a.2.2⟩
theorem rL_b (sq : Nat → Bool) {J : Nat} (hJ : 1 ≤ J) (hJ2 : J ≤ 14400) : -9 ≤ rL sq J ∧ rL sq J ≤ 14400 ∧ (rL sq J = -9 ∨ 0 ≤ rL sq J) := by
  unfold rL
  split
  · omega
  · have := scn_b sq (need := 1) (fsN sq J) hJ (by omega) J
    omega
theorem zI_eq {a b : Int} (a1 : -2 ^ 31 ≤ a) (a2 : a < 2 ^ 31) (b1 : -2 ^ 31 ≤ b) (b2 : b < 2 ^ 31) : zI a = zI b ↔ a = b := by
  rw [eq_I, zI_toInt a1 a2, zI_toInt b1 b2]
theorem M_worst_loop (N : Nat) (hN : 61000 ≤ N) {D : Da} (I : DI D) {J : Nat} (sv : Nat → Nat) (sq : Nat → Nat → Bool) (hJ : 1 ≤ J) (hJ2 : J ≤ 14400) (hs : ∀ p t, sq p t = (sv (t % J)).testBit p) : ∀ (m p : Nat) (μ : Mm), DM D μ → μ.1 0 31 = nI J → (∀ x, x < J → μ.1 21 x = nI (sv x) ∧ sv x < 65536) → p ≤ D.n → D.n < m + p → μ.1 0 36 = zI (wsF D.wor (fun p => rL (sq p) J) p).1 → μ.1 0 37 = zI (wsF D.wor (fun p => rL (sq p) J) p).2 → ∃ μ', f_M_layWorst_L13 N m (nI p) μ = some μ' ∧ HFr μ μ' ∧ μ'.1 0 36 = zI (wsF D.wor (fun p => rL (sq p) J) D.n).1 ∧ μ'.1 0 37 = zI (wsF D.wor (fun p => rL (sq p) J) D.n).2 := by
  have n16 := I.g.n16
  have lb : ∀ p, -9 ≤ rL (sq p) J ∧ rL (sq p) J ≤ 14400 ∧ (rL (sq p) J = -9 ∨ 0 ≤ rL (sq p) J) := fun p => rL_b (sq p) hJ hJ2
  intro m
  induction m with
  | zero => intro p μ _ _ _ h1 h2; omega
  | succ m ih =>
    intro p μ M e31 tab h1 h2 e36 e37
    rw [f_M_layWorst_L13, M.n]
    by_cases c : p = D.n
    · rw [if_pos (nI_le (by omega) (by omega))]
      subst c
      exact ⟨μ, rfl, HFr.refl μ, e36, e37⟩
    · have hp : p < D.n := by omega
      have w9 := I.wor p hp
      have wb := wsF_b (wor := D.wor) (lv := fun p => rL (sq p) J) n16 (fun p hp => I.wor p hp) (fun p _ => ⟨(lb p).1, (lb p).2.1⟩) p (by omega)
      have wb1 : -9 ≤ (wsF D.wor (fun p => rL (sq p) J) p).1 ∧ (wsF D.wor (fun p => rL (sq p) J) p).1 < 16 ∧ -81 ≤ (wsF D.wor (fun p => rL (sq p) J) p).2 ∧ (wsF D.wor (fun p => rL (sq p) J) p).2 ≤ 129600 := by
        rcases wb with wb | wb
        · omega
        · rw [wb]; decide
      have st : wsF D.wor (fun p => rL (sq p) J) (p + 1) = if D.wor p = 0 ∨ (wsF D.wor (fun p => rL (sq p) J) p).2 = -9 then wsF D.wor (fun p => rL (sq p) J) p else if rL (sq p) J = -9 then ((p : Nat), -9) else if (wsF D.wor (fun p => rL (sq p) J) p).1 = -9 ∨ (wsF D.wor (fun p => rL (sq p) J) p).2 < (D.wor p : Int) * rL (sq p) J then ((p : Nat), (D.wor p : Int) * rL (sq p) J) else wsF D.wor (fun p => rL (sq p) J) p := rfl
      generalize wsF D.wor (fun p => rL (sq p) J) p = w at *
      rw [if_neg (nI_ge (by omega) (by omega)), if_pos (ixb_t (show p < 16 by omega) (by decide)), nI_clamp (show p < 2 ^ 31 by omega), M.wor p hp]
      unfold f_M_layWorst_B115
      simp only [nI_1, nI_add]
      by_cases c1 : D.wor p = 0
      · rw [if_pos (show nI (D.wor p) ≤ (0 : Int32) by rw [c1]; decide)]
        rw [if_pos (Or.inl c1)] at st
        exact ih (p + 1) μ M e31 tab (by omega) (by omega) (by rw [st]; exact e36) (by rw [st]; exact e37)
      · rw [if_neg (show ¬ nI (D.wor p) ≤ (0 : Int32) from nI_ge (a := 0) (by omega) (by omega)), e37]
        by_cases c2 : w.2 = -9
        · rw [if_pos (show zI w.2 = (-9 : Int32) by rw [c2]; rfl)]
          rw [if_pos (Or.inr c2)] at st
          exact ih (p + 1) μ M e31 tab (by omega) (by omega) (by rw [st]; exact e36) (by rw [st]; exact e37)
        · rw [if_neg (show ¬ zI w.2 = (-9 : Int32) from fun q => c2 ((zI_eq (b := -9) (by omega) (by omega) (by decide) (by decide)).mp q))]
          rw [if_neg (by omega)] at st
          obtain ⟨μ1, r1, r2, r3, r4, r5⟩ := M_layRows_eq N hN (need := 1) sv (sq p) hJ hJ2 (show p < 16 by omega) (by decide) (by decide) (hs p) μ e31 tab
          rw [show nI 1 = (1 : Int32) from rfl] at r1
          rw [r1, bvS]
          have M1 := r2.mfr.dm M
          have e31' : μ1.1 0 31 = nI J := by rw [r2.2.1 31 (by omega)]; exact e31
          have tab' : ∀ x, x < J → μ1.1 21 x = nI (sv x) ∧ sv x < 65536 := fun x hx => by rw [r2.1 21 (by decide)]; exact tab x hx
          have e36' : μ1.1 0 36 = zI w.1 := by rw [r2.2.1 36 (by omega)]; exact e36
          have e37' : μ1.1 0 37 = zI w.2 := by rw [r2.2.1 37 (by omega)]; exact e37
          have l := lb p
          rw [r3, e36', e37', M1.wor p hp]
          have put : ∀ v : Int, ∃ μ', f_M_layWorst_L13 N m (nI (p + 1)) (sI (sI μ1 0 36 (nI p)) 0 37 (zI v)) = f_M_layWorst_L13 N m (nI (p + 1)) μ' ∧ HFr μ μ' ∧ μ'.1 0 36 = zI ((p : Nat) : Int) ∧ μ'.1 0 37 = zI v := fun v => ⟨_, rfl, (r2.hfr.trans (HFr.fld (by decide) (by decide) μ1 _)).trans (HFr.fld (by decide) (by decide) _ _), by rw [sI_at, upd_ne _ _ (by decide), sI_at, upd_eq]; rfl, by rw [sI_at, upd_eq]⟩
          have go : ∀ (v : Int), wsF D.wor (fun p => rL (sq p) J) (p + 1) = (((p : Nat) : Int), v) → ∃ μ', f_M_layWorst_L13 N m (nI (p + 1)) (sI (sI μ1 0 36 (nI p)) 0 37 (zI v)) = some μ' ∧ HFr μ μ' ∧ μ'.1 0 36 = zI (wsF D.wor (fun p => rL (sq p) J) D.n).1 ∧ μ'.1 0 37 = zI (wsF D.wor (fun p => rL (sq p) J) D.n).2 := fun v hv => by
            obtain ⟨μ2, p1, p2, p3, p4⟩ := put v
            rw [p1]
            obtain ⟨μ', q1, q2, q3, q4⟩ := ih (p + 1) μ2 (p2.mfr.dm M) (by rw [p2.2.1 31 (by omega)]; exact e31) (fun x hx => by rw [p2.1 21 (by decide)]; exact tab x hx) (by omega) (by omega) (by rw [hv]; exact p3) (by rw [hv]; exact p4)
            exact ⟨μ', q1, p2.trans q2, q3, q4⟩
          by_cases c3 : rL (sq p) J = -9
          · rw [if_pos (show zI (rL (sq p) J) = (-9 : Int32) by rw [c3]; rfl)]
            rw [if_pos c3] at st
            exact go (-9) st
          · rw [if_neg (show ¬ zI (rL (sq p) J) = (-9 : Int32) from fun q => c3 ((zI_eq (b := -9) (by omega) (by omega) (by decide) (by decide)).mp q))]
            rw [if_neg c3] at st
            have pr : 0 ≤ (D.wor p : Int) * rL (sq p) J ∧ (D.wor p : Int) * rL (sq p) J ≤ 129600 := by
              have l0 : 0 ≤ rL (sq p) J := by omega
              exact ⟨Int.mul_nonneg (by omega) l0, by
                have := Int.mul_le_mul (show (D.wor p : Int) ≤ 9 by omega) l.2.1 l0 (by omega)
                omega⟩
            have b95 : ∃ μ', f_M_layWorst_B95 N (f_M_layWorst_L13 N m) (nI p) μ1 = f_M_layWorst_L13 N m (nI (p + 1)) (sI (sI μ1 0 36 (nI p)) 0 37 (zI ((D.wor p : Int) * rL (sq p) J))) ∧ μ' = μ1 := by
              unfold f_M_layWorst_B95 f_M_layWorst_B115
              have x7 : (sI μ1 0 36 (nI p)).1 7 p = nI (D.wor p) := by rw [sI_ne _ _ _ (by decide)]; exact M1.wor p hp
              have x33 : (sI μ1 0 36 (nI p)).1 0 33 = zI (rL (sq p) J) := by rw [sI_at, upd_ne _ _ (by decide)]; exact r3
              simp only [if_pos (ixb_t (show p < 16 by omega) (show 16 < 2 ^ 31 by decide)), nI_clamp (show p < 2 ^ 31 by omega), x7, x33, nI_1, nI_add]
              rw [zI_n (D.wor p), zI_mul]
              exact ⟨μ1, rfl, rfl⟩
            obtain ⟨_, b95, _⟩ := b95
            by_cases c4 : w.1 = -9
            · rw [if_pos (show zI w.1 = (-9 : Int32) by rw [c4]; rfl), b95]
              rw [if_pos (Or.inl c4)] at st
              exact go _ st
            · rw [if_neg (show ¬ zI w.1 = (-9 : Int32) from fun q => c4 ((zI_eq (b := -9) (by omega) (by omega) (by decide) (by decide)).mp q)), if_pos (ixb_t (show p < 16 by omega) (show 16 < 2 ^ 31 by decide)), zI_n (D.wor p), zI_mul]
              have le : zI ((D.wor p : Int) * rL (sq p) J) ≤ zI w.2 ↔ ¬ w.2 < (D.wor p : Int) * rL (sq p) J := by
                rw [le_I, zI_toInt (by omega) (by omega), zI_toInt (by omega) (by omega)]
                omega
              by_cases c5 : w.2 < (D.wor p : Int) * rL (sq p) J
              · rw [if_pos (Or.inr c5)] at st
                rw [if_neg (fun q => (le.mp q) c5), b95]
                exact go _ st
              · rw [if_neg (by omega)] at st
                rw [if_pos (le.mpr c5)]
                obtain ⟨μ', q1, q2, q3, q4⟩ := ih (p + 1) μ1 M1 e31' tab' (by omega) (by omega) (by rw [st]; exact e36') (by rw [st]; exact e37')
                exact ⟨μ', q1, r2.hfr.trans q2, q3, q4⟩
theorem M_layWorst_eq (N : Nat) (hN : 61000 ≤ N) {D : Da} (I : DI D) {J : Nat} (sv : Nat → Nat) (sq : Nat → Nat → Bool) (hJ : 1 ≤ J) (hJ2 : J ≤ 14400) (hs : ∀ p t, sq p t = (sv (t % J)).testBit p) (μ : Mm) (M : DM D μ) (e31 : μ.1 0 31 = nI J) (tab : ∀ x, x < J → μ.1 21 x = nI (sv x) ∧ sv x < 65536) : ∃ μ', f_M_layWorst N μ = some μ' ∧ HFr μ μ' ∧ μ'.1 0 36 = zI (wsF D.wor (fun p => rL (sq p) J) D.n).1 ∧ μ'.1 0 37 = zI (wsF D.wor (fun p => rL (sq p) J) D.n).2 := by
  have n16 := I.g.n16
  unfold f_M_layWorst
  have f0 : HFr μ (sI (sI μ 0 36 (-9)) 0 37 0) := (HFr.fld (by decide) (by decide) μ _).trans (HFr.fld (by decide) (by decide) _ _)
  obtain ⟨μ', r1, r2, r3, r4⟩ := M_worst_loop N hN I sv sq hJ hJ2 hs N 0 (sI (sI μ 0 36 (-9)) 0 37 0) (f0.mfr.dm M) (by rw [f0.2.1 31 (by omega)]; exact e31) (fun x hx => by rw [f0.1 21 (by decide)]; exact tab x hx) (by omega) (by omega) (by rw [sI_at, upd_ne _ _ (by decide), sI_at, upd_eq]; rfl) (by rw [sI_at, upd_eq]; rfl)
  exact ⟨μ', r1, f0.trans r2, r3, r4⟩
