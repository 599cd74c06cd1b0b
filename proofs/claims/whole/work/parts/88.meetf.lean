/-! PURE 68: the reference's first meeting -/
def Da.j2 (D : Da) (a b : Nat) : Nat := D.per a / Nat.gcd (D.per a) (D.per b) * D.per b
theorem DI.j2 {D : Da} (I : DI D) {a b : Nat} (ha : a < D.w) (hb : b < D.w) (ga : D.go a = true) (gb : D.go b = true) : 1 ≤ D.j2 a b ∧ D.j2 a b < 2 ^ 32 ∧ D.per a ∣ D.j2 a b ∧ D.per b ∣ D.j2 a b := by
  have pa := I.per1 ha ga
  have pb := I.per1 hb gb
  refine ⟨(lcm_pos pa.1 pb.1).1, ?_, ?_, Nat.dvd_mul_left _ _⟩
  · have h1 : D.per a / Nat.gcd (D.per a) (D.per b) ≤ D.per a := Nat.div_le_self _ _
    have h2 : D.per a / Nat.gcd (D.per a) (D.per b) * D.per b ≤ 46248 * 46248 := Nat.mul_le_mul (by omega) (by omega)
    unfold Da.j2
    omega
  · obtain ⟨q, hq⟩ := Nat.gcd_dvd_right (D.per a) (D.per b)
    obtain ⟨p, hp⟩ := Nat.gcd_dvd_left (D.per a) (D.per b)
    have g0 := Nat.gcd_pos_of_pos_left (D.per b) pa.1
    refine ⟨q, ?_⟩
    unfold Da.j2
    generalize Nat.gcd (D.per a) (D.per b) = g at *
    rw [hp, Nat.mul_div_cancel_left _ g0, hq]
    rw [Nat.mul_comm g p, Nat.mul_assoc]
theorem M_jointOf_eq (N : Nat) (hN : 130 ≤ N) {D : Da} (I : DI D) {a b : Nat} (ha : a < D.w) (hb : b < D.w) (ga : D.go a = true) (gb : D.go b = true) (μ : Mm) (M : DM D μ) : f_M_jointOf N (nI a) (nI b) μ = some (lN (D.j2 a b), μ) := by
  have pa := I.per1 ha ga
  have pb := I.per1 hb gb
  have g0 := Nat.gcd_pos_of_pos_left (D.per b) pa.1
  have g1 := Nat.gcd_le_left (D.per b) pa.1
  unfold f_M_jointOf Da.j2
  rw [M_periodOf_eq N (by omega) I ha μ M, bnS, M_periodOf_eq N (by omega) I hb μ M, bnS]
  rw [i2lN (by omega), i2lN (by omega)]
  simp only []
  rw [M_gcd_eq N hN (by omega) (by omega), bnS, if_neg (show ¬ lN (Nat.gcd (D.per a) (D.per b)) = (0 : Int64) from fun q => absurd ((pk_lEQ (b := 0) (by omega) (by decide)).mp q) (by omega)), pk_lDiv (by omega) g0 (by omega), lN_mul]
def Da.MR (D : Da) (a b F T : Nat) (r : Int64) : Prop := (r = -1 ∧ ∀ y, F ≤ y → y < T → ¬ D.Em a b y) ∨ ∃ x, r = lN x ∧ F ≤ x ∧ x < T ∧ D.Em a b x ∧ ∀ y, F ≤ y → y < x → ¬ D.Em a b y
theorem meet_loop (N : Nat) (hN : 30 ≤ N) {D : Da} (I : DI D) {a b : Nat} (ha : a < D.w) (hb : b < D.w) (ga : D.go a = true) (gb : D.go b = true) {F J t0 : Nat} (hF : F < 2 ^ 45) (h0 : t0 < 2 ^ 28) (hJ : J < 2 ^ 28) : ∀ (m t : Nat) (μ : Mm), DM D μ → t0 ≤ t → t ≤ t0 + J + 1 → t0 + J + 1 < m + t → (∀ y, F ≤ y → y < t * 27720 → ¬ D.Em a b y) → ∃ r μ', f_M_meetFrom_L20 N m (nI a) (nI b) (lN F) (lN J) (nI t0) (nI t) μ = some (r, μ') ∧ KFr μ μ' ∧ D.MR a b F ((t0 + J + 1) * 27720) r := by
  intro m
  induction m with
  | zero => intro t μ _ h1 h2 h3; omega
  | succ m ih =>
    intro t μ M h1 h2 h3 hy
    rw [f_M_meetFrom_L20, i2lN (show t < 2 ^ 31 by omega), i2lN (show t0 < 2 ^ 31 by omega), lN_add, show (27720 : Int64) = lN 27720 from rfl, lN_mul]
    by_cases c : t0 + J < t
    · rw [if_pos ((cmp_gt _ _).mpr (by rw [pk_lT (by omega), pk_lT (by omega)]; omega))]
      unfold f_M_meetFrom_B224
      refine ⟨-1, μ, rfl, KFr.refl _, Or.inl ⟨rfl, ?_⟩⟩
      obtain rfl : t = t0 + J + 1 := by omega
      exact hy
    · rw [if_neg (fun q => by have := (cmp_gt _ _).mp q; rw [pk_lT (by omega), pk_lT (by omega)] at this; omega)]
      have stp : ∀ μa : Mm, DM D μa → KFr μ μa → (F ≤ t * 27720 → ¬ D.pz a ((t : Int) * 27720) = D.pz b ((t : Int) * 27720)) → ∃ r μ', f_M_meetFrom_B64 N (f_M_meetFrom_L20 N m) (nI a) (nI b) (lN F) (lN J) (nI t0) (nI t) μa = some (r, μ') ∧ KFr μ μ' ∧ D.MR a b F ((t0 + J + 1) * 27720) r := by
        intro μa Ma fa no
        obtain ⟨μ', k1, k2, k3⟩ := meet_64 N hN I ha hb ga gb (t := t) (by omega) hF (lN J) (nI t0) (f_M_meetFrom_L20 N m) μa Ma
        have pt : ∀ y, F ≤ y → y < t * 27720 + 27720 → D.Em a b y → D.cr a b t ∧ y = t * 27720 + D.fs a b t := by
          intro y y1 y2 e
          by_cases q : y < t * 27720
          · exact absurd e (hy y y1 q)
          · obtain ⟨f, rfl⟩ : ∃ f, y = t * 27720 + f := ⟨y - t * 27720, by omega⟩
            rcases (Em_at I ha hb ga gb (by omega)).mp e with z | z
            · rw [z.1, Nat.add_zero] at y1
              exact absurd z.2 (no y1)
            · exact ⟨z.2.1, by rw [z.2.2]⟩
        by_cases x : D.cr a b t ∧ F ≤ t * 27720 + D.fs a b t
        · obtain ⟨f1, f2, _⟩ := cr_at I ha hb x.1
          refine ⟨_, μ', k2 x, fa.trans k1, Or.inr ⟨_, rfl, x.2, by omega, (Em_at I ha hb ga gb f2).mpr (Or.inr ⟨f1, x.1, rfl⟩), ?_⟩⟩
          intro y y1 y2 e
          have := (pt y y1 (by omega) e).2
          omega
        · rw [k3 x]
          obtain ⟨r, μ'', l1, l2, l3⟩ := ih (t + 1) μ' (k1.mfr.dm Ma) (by omega) (by omega) (by omega) (by
            intro y y1 y2 e
            have := pt y y1 (by omega) e
            exact x ⟨this.1, by omega⟩)
          exact ⟨r, μ'', l1, (fa.trans k1).trans l2, l3⟩
      by_cases d : t * 27720 < F
      · rw [if_pos ((cmp_lt64 _ _).mpr (by rw [pk_lT (by omega), pk_lT (by omega)]; omega))]
        exact stp μ M (KFr.refl _) (fun q => by omega)
      · rw [if_neg (fun q => by have := (cmp_lt64 _ _).mp q; rw [pk_lT (by omega), pk_lT (by omega)] at this; omega)]
        obtain ⟨μ1, r1, r2⟩ := M_together_eq N hN I ha hb ga gb (t := t) (by omega) μ M
        rw [r1, bnS]
        by_cases e : D.pz a ((t : Int) * 27720) = D.pz b ((t : Int) * 27720)
        · rw [decide_eq_true e, if_neg (by decide)]
          unfold f_M_meetFrom_B56
          rw [i2lN (show t < 2 ^ 31 by omega), show (27720 : Int64) = lN 27720 from rfl, lN_mul]
          refine ⟨_, μ1, rfl, r2, Or.inr ⟨t * 27720, rfl, by omega, by omega, ?_, ?_⟩⟩
          · have q := (Em_at I ha hb ga gb (t := t) (f := 0) (by decide)).mpr (Or.inl ⟨rfl, e⟩)
            rwa [Nat.add_zero] at q
          · exact hy
        · rw [decide_eq_false e, if_pos (show b2 false = 0 from rfl)]
          exact stp μ1 (r2.mfr.dm M) r2 (fun _ => e)
theorem M_meetFrom_eq (N : Nat) (hN : 15000 ≤ N) {D : Da} (I : DI D) {a b : Nat} (ha : a < D.w) (hb : b < D.w) (ga : D.go a = true) (gb : D.go b = true) {F : Nat} (hF : F < 2 ^ 42) (hJ : D.j2 a b ≤ 14400) (μ : Mm) (M : DM D μ) : ∃ r μ', f_M_meetFrom N (nI a) (nI b) (lN F) μ = some (r, μ') ∧ KFr μ μ' ∧ D.MR a b F ((F / 27720 + D.j2 a b + 1) * 27720) r := by
  unfold f_M_meetFrom
  rw [M_jointOf_eq N (by omega) I ha hb ga gb μ M, bnS, if_neg (by decide), show (27720 : Int64) = lN 27720 from rfl, pk_lDiv (by omega) (by decide) (by decide), lN_i]
  have f1 : F / 27720 < 2 ^ 28 := by omega
  exact meet_loop N (by omega) I ha hb ga gb (by omega) f1 (by omega) N (F / 27720) μ M (Nat.le_refl _) (by omega) (by omega) (by intro y y1 y2; omega)
