/-! PURE 33: what comes round: greatest common divisors, joint times -/
theorem eu_half {b r : Nat} (h0 : 0 < r) (h : r < b) : 2 * (b % r) < b := by
  have h1 := Nat.mod_lt b h0
  by_cases c : 2 * r ≤ b
  · omega
  · have : b % r = b - r := by
      rw [Nat.mod_eq_sub_mod (by omega), Nat.mod_eq_of_lt (by omega)]
    omega
theorem W_gcd_loop (N : Nat) (μ : Mm) : ∀ (s m st a b : Nat), a < 2 ^ 63 → b < 2 ^ 63 → b < 2 ^ s → 2 * s < m → st + 2 * s ≤ 199 → f_W_gcd_L9 N m (lN a) (lN b) (nI st) μ = some (lN (Nat.gcd a b), μ) := by
  intro s
  induction s with
  | zero =>
    intro m st a b ha hb h hm hs
    have b0 : b = 0 := by
      have : b < 1 := h
      omega
    subst b0
    obtain ⟨m, rfl⟩ : ∃ m', m = m' + 1 := ⟨m - 1, by omega⟩
    rw [f_W_gcd_L9, if_neg (show ¬ (200 : Int32) ≤ nI _ from nI_ge (b := 200) (by omega) (by decide)), if_pos (show lg_cmp (lN 0) 0 = 0 from (lg_cmp_eq _ _).mpr rfl), Nat.gcd_zero_right]
  | succ s ih =>
    intro m st a b ha hb h hm hs
    obtain ⟨m, rfl⟩ : ∃ m', m = m' + 1 + 1 := ⟨m - 2, by omega⟩
    rw [f_W_gcd_L9, if_neg (show ¬ (200 : Int32) ≤ nI _ from nI_ge (b := 200) (by omega) (by decide))]
    by_cases b0 : b = 0
    · subst b0
      rw [if_pos (show lg_cmp (lN 0) 0 = 0 from (lg_cmp_eq _ _).mpr rfl), Nat.gcd_zero_right]
    · have nb : ¬ lN b = 0 := fun q => b0 ((pk_lEQ (b := 0) hb (by decide)).mp q)
      rw [if_neg (fun q => nb ((lg_cmp_eq _ _).mp q)), if_neg nb]
      simp only []
      rw [pk_lRem ha (by omega) hb, show (1 : Int32) = nI 1 from rfl, nI_add, f_W_gcd_L9, if_neg (show ¬ (200 : Int32) ≤ nI _ from nI_ge (b := 200) (by omega) (by decide))]
      have hl : a % b < b := Nat.mod_lt a (by omega)
      have ge : Nat.gcd a b = Nat.gcd b (a % b) := by rw [Nat.gcd_comm, Nat.gcd_rec, Nat.gcd_comm]
      by_cases r0 : a % b = 0
      · rw [r0, if_pos (show lg_cmp (lN 0) 0 = 0 from (lg_cmp_eq _ _).mpr rfl), ge, r0, Nat.gcd_zero_right]
      · have nr : ¬ lN (a % b) = 0 := fun q => r0 ((pk_lEQ (b := 0) (by omega) (by decide)).mp q)
        rw [if_neg (fun q => nr ((lg_cmp_eq _ _).mp q)), if_neg nr]
        simp only []
        rw [pk_lRem hb (by omega) (by omega), show (1 : Int32) = nI 1 from rfl, nI_add]
        have hh := eu_half (Nat.pos_of_ne_zero r0) hl
        have ge2 : Nat.gcd b (a % b) = Nat.gcd (a % b) (b % (a % b)) := by rw [Nat.gcd_comm, Nat.gcd_rec, Nat.gcd_comm]
        rw [ge, ge2]
        rw [Nat.pow_succ] at h
        exact ih m (st + 1 + 1) _ _ (by omega) (by omega) (by omega) (by omega) (by omega)
theorem W_gcd_eq (N : Nat) (hN : 130 ≤ N) {a b : Nat} (ha : a < 2 ^ 63) (hb : b < 2 ^ 63) (μ : Mm) : f_W_gcd N (lN a) (lN b) μ = some (lN (Nat.gcd a b), μ) :=
  W_gcd_loop N μ 63 N 0 a b ha hb hb (by omega) (by omega)
theorem M_gcd_loop (N : Nat) (μ : Mm) : ∀ (s m a b : Nat), a < 2 ^ 63 → b < 2 ^ 63 → b < 2 ^ s → 2 * s < m → f_M_gcd_L6 N m (lN a) (lN b) μ = some (lN (Nat.gcd a b), μ) := by
  intro s
  induction s with
  | zero =>
    intro m a b ha hb h hm
    have b0 : b = 0 := by
      have : b < 1 := h
      omega
    subst b0
    obtain ⟨m, rfl⟩ : ∃ m', m = m' + 1 := ⟨m - 1, by omega⟩
    rw [f_M_gcd_L6, if_pos (show lg_cmp (lN 0) 0 = 0 from (lg_cmp_eq _ _).mpr rfl), Nat.gcd_zero_right]
  | succ s ih =>
    intro m a b ha hb h hm
    obtain ⟨m, rfl⟩ : ∃ m', m = m' + 1 + 1 := ⟨m - 2, by omega⟩
    rw [f_M_gcd_L6]
    by_cases b0 : b = 0
    · subst b0
      rw [if_pos (show lg_cmp (lN 0) 0 = 0 from (lg_cmp_eq _ _).mpr rfl), Nat.gcd_zero_right]
    · have nb : ¬ lN b = 0 := fun q => b0 ((pk_lEQ (b := 0) hb (by decide)).mp q)
      rw [if_neg (fun q => nb ((lg_cmp_eq _ _).mp q)), if_neg nb]
      simp only []
      rw [pk_lRem ha (by omega) hb, f_M_gcd_L6]
      have hl : a % b < b := Nat.mod_lt a (by omega)
      have ge : Nat.gcd a b = Nat.gcd b (a % b) := by rw [Nat.gcd_comm, Nat.gcd_rec, Nat.gcd_comm]
      by_cases r0 : a % b = 0
      · rw [r0, if_pos (show lg_cmp (lN 0) 0 = 0 from (lg_cmp_eq _ _).mpr rfl), ge, r0, Nat.gcd_zero_right]
      · have nr : ¬ lN (a % b) = 0 := fun q => r0 ((pk_lEQ (b := 0) (by omega) (by decide)).mp q)
        rw [if_neg (fun q => nr ((lg_cmp_eq _ _).mp q)), if_neg nr]
        simp only []
        rw [pk_lRem hb (by omega) (by omega)]
        have hh := eu_half (Nat.pos_of_ne_zero r0) hl
        have ge2 : Nat.gcd b (a % b) = Nat.gcd (a % b) (b % (a % b)) := by rw [Nat.gcd_comm, Nat.gcd_rec, Nat.gcd_comm]
        rw [ge, ge2]
        rw [Nat.pow_succ] at h
        exact ih m _ _ (by omega) (by omega) (by omega) (by omega)
theorem M_gcd_eq (N : Nat) (hN : 130 ≤ N) {a b : Nat} (ha : a < 2 ^ 63) (hb : b < 2 ^ 63) (μ : Mm) : f_M_gcd N (lN a) (lN b) μ = some (lN (Nat.gcd a b), μ) :=
  M_gcd_loop N μ 63 N a b ha hb hb (by omega)
/-- the joint time of a set, grown walker by walker until it is spent -/
def Da.jn (D : Da) (S : Nat → Bool) : Nat → Nat
  | 0 => 1
  | i + 1 => if D.jn S i ≤ 14400 ∧ S i = true then D.jn S i / Nat.gcd (D.jn S i) (D.per i) * D.per i else D.jn S i
theorem Da.jn_ext (D : Da) {S T : Nat → Bool} : ∀ i, (∀ x, x < i → S x = T x) → D.jn S i = D.jn T i
  | 0, _ => rfl
  | i + 1, h => by
    unfold Da.jn
    rw [D.jn_ext i (fun x hx => h x (by omega)), h i (by omega)]
theorem Da.jn_stop (D : Da) (S : Nat → Bool) {i : Nat} (h : 14400 < D.jn S i) : ∀ d, D.jn S (i + d) = D.jn S i
  | 0 => rfl
  | d + 1 => by
    show (if D.jn S (i + d) ≤ 14400 ∧ S (i + d) = true then _ else D.jn S (i + d)) = _
    rw [D.jn_stop S h d, if_neg (by omega)]
theorem DI.per1 {D : Da} (I : DI D) {j : Nat} (hj : j < D.w) (g : D.go j = true) : 1 ≤ D.per j ∧ D.per j ≤ 46248 := by
  unfold Da.per
  by_cases c : D.kd j = 3
  · rw [if_pos c]; omega
  · rw [if_neg c]
    have h := (Da.go_ok g).2.2.2 c
    have h1 := cm_pos I hj c h (D.sz j) (Nat.le_refl _)
    have h2 := (Da.why0 h).1
    have h3 := I.cm_46 hj (Nat.le_refl (D.sz j))
    omega
theorem lcm_pos {a b : Nat} (ha : 1 ≤ a) (hb : 1 ≤ b) : 1 ≤ a / Nat.gcd a b * b ∧ b ≤ a / Nat.gcd a b * b := by
  have h1 : 1 ≤ a / Nat.gcd a b := Nat.div_pos (Nat.le_of_dvd ha (Nat.gcd_dvd_left a b)) (Nat.gcd_pos_of_pos_left b ha)
  have h2 : 1 * b ≤ a / Nat.gcd a b * b := Nat.mul_le_mul_right b h1
  omega
theorem Da.jn_pos {D : Da} (I : DI D) {S : Nat → Bool} : ∀ i, i ≤ D.w → (∀ x, x < i → S x = true → D.go x = true) → 1 ≤ D.jn S i
  | 0, _, _ => Nat.le_refl _
  | i + 1, hi, h => by
    have h0 := Da.jn_pos I i (by omega) (fun x hx => h x (by omega))
    unfold Da.jn
    by_cases c : D.jn S i ≤ 14400 ∧ S i = true
    · rw [if_pos c]
      exact (lcm_pos h0 (I.per1 (by omega) (h i (by omega) c.2)).1).1
    · rw [if_neg c]; exact h0
theorem Cr_joint_loop (N : Nat) (hN : 130 ≤ N) {D : Da} (I : DI D) {B : Nat} (hB : B < 2 ^ 31) (hs : ∀ x, x < D.w → B.testBit x = true → D.go x = true) (μ : Mm) (X : DX D μ) (C : CrewOk D μ) : ∀ (m i : Nat), i ≤ D.w → D.w < m + i → D.jn (fun x => B.testBit x) i ≤ 14400 → f_Cr_jointOf_L4 N m (nI B) (nI (D.jn (fun x => B.testBit x) i)) (nI i) μ = some (if 14400 < D.jn (fun x => B.testBit x) D.w then -6 else nI (D.jn (fun x => B.testBit x) D.w), μ) := by
  have w8 := I.w8
  intro m
  induction m with
  | zero => intro i h1 h2; omega
  | succ m ih =>
    intro i h1 h2 hj
    rw [f_Cr_jointOf_L4, X.w]
    by_cases h : i = D.w
    · rw [if_pos (by rw [h]; exact nI_le (Nat.le_refl _) (by omega)), h, if_neg (by rw [← h]; omega)]
    · have hi : i < D.w := by omega
      have j1 := Da.jn_pos I i (S := fun x => B.testBit x) (by omega) (fun x hx => hs x (by omega))
      rw [if_neg (nI_ge (by omega) (by omega)), bitN hB (show i < 32 by omega)]
      unfold f_Cr_jointOf_B80
      simp only [nI_1, nI_add]
      by_cases c : B.testBit i = true
      · have g := hs i hi c
        obtain ⟨p1, p2⟩ := I.per1 hi g
        have step : D.jn (fun x => B.testBit x) (i + 1) = D.jn (fun x => B.testBit x) i / Nat.gcd (D.jn (fun x => B.testBit x) i) (D.per i) * D.per i := by
          rw [Da.jn, if_pos ⟨hj, c⟩]
        generalize ej : D.jn (fun x => B.testBit x) i = a at *
        rw [if_neg (by rw [c]; decide)]
        have gl : Nat.gcd a (D.per i) ≤ a := Nat.le_of_dvd (by omega) (Nat.gcd_dvd_left _ _)
        have gp : 0 < Nat.gcd a (D.per i) := Nat.gcd_pos_of_pos_left _ (by omega)
        have lp := lcm_pos (a := a) (b := D.per i) (by omega) p1
        have ll : a / Nat.gcd a (D.per i) * D.per i ≤ 14400 * 46248 := Nat.mul_le_mul (Nat.le_trans (Nat.div_le_self _ _) hj) p2
        have e12 := (C.2 i hi g).1
        have l1 : (nI a).toInt64 = lN a := by rw [i2l, tI (by omega)]; rfl
        have l2 : (nI (D.per i)).toInt64 = lN (D.per i) := by rw [i2l, tI (by omega)]; rfl
        have l3 : (lN (Nat.gcd a (D.per i))).toInt32 = nI (Nat.gcd a (D.per i)) := Int64.toInt32_ofNat
        simp only [if_pos (ixb_t (show i < 8 by omega) (show 8 < 2 ^ 31 by decide)), nI_clamp (show i < 2 ^ 31 by omega), e12, l1, l2, W_gcd_eq N hN (show a < 2 ^ 63 by omega) (show D.per i < 2 ^ 63 by omega), bnS, l3]
        rw [if_neg (show ¬ nI (Nat.gcd a (D.per i)) < (1 : Int32) from fun q => absurd ((nIl (b := 1) (by omega) (by decide)).mp q) (by omega))]
        by_cases c2 : D.per i ≤ 14400
        · rw [if_pos (show nI (D.per i) ≤ (14400 : Int32) from (nIc (b := 14400) (by omega) (by decide)).mpr c2), if_neg (nI_ne0 gp (by omega)), pk_div (by omega) gp (by omega), pk_mul]
          by_cases c3 : a / Nat.gcd a (D.per i) * D.per i ≤ 14400
          · rw [if_pos (show nI (a / Nat.gcd a (D.per i) * D.per i) ≤ (14400 : Int32) from (nIc (b := 14400) (by omega) (by decide)).mpr c3), ← step]
            exact ih (i + 1) (by omega) (by omega) (by omega)
          · rw [if_neg (show ¬ nI (a / Nat.gcd a (D.per i) * D.per i) ≤ (14400 : Int32) from fun q => c3 ((nIc (b := 14400) (by omega) (by decide)).mp q))]
            have := D.jn_stop (fun x => B.testBit x) (i := i + 1) (by omega) (D.w - (i + 1))
            rw [show i + 1 + (D.w - (i + 1)) = D.w by omega] at this
            rw [this, if_pos (by omega)]
        · rw [if_neg (show ¬ nI (D.per i) ≤ (14400 : Int32) from fun q => c2 ((nIc (b := 14400) (by omega) (by decide)).mp q))]
          have := D.jn_stop (fun x => B.testBit x) (i := i + 1) (by omega) (D.w - (i + 1))
          rw [show i + 1 + (D.w - (i + 1)) = D.w by omega] at this
          rw [this, if_pos (by omega)]
      · have c' : B.testBit i = false := by simpa using c
        have step : D.jn (fun x => B.testBit x) (i + 1) = D.jn (fun x => B.testBit x) i := by
          rw [Da.jn, if_neg (fun q => c q.2)]
        rw [if_pos (by rw [c']; decide), ← step]
        exact ih (i + 1) (by omega) (by omega) (by omega)
theorem Cr_jointOf_eq (N : Nat) (hN : 130 ≤ N) {D : Da} (I : DI D) {B : Nat} (hB : B < 2 ^ 31) (hs : ∀ x, x < D.w → B.testBit x = true → D.go x = true) (μ : Mm) (X : DX D μ) (C : CrewOk D μ) : f_Cr_jointOf N (nI B) μ = some (if 14400 < D.jn (fun x => B.testBit x) D.w then -6 else nI (D.jn (fun x => B.testBit x) D.w), μ) :=
  Cr_joint_loop N hN I hB hs μ X C N 0 (by omega) (by have := I.w8; omega) (by unfold Da.jn; omega)
theorem M_layJoint_end (N : Nat) {v : Nat} (hv : v < 2 ^ 62) (μ : Mm) : f_M_layJoint_B55 N (lN v) μ = some (b2 (decide (v ≤ 14400)), sI μ 0 31 (nI (if v ≤ 14400 then v else 0))) := by
  unfold f_M_layJoint_B55 f_M_layJoint_B70
  have e : (lN v).toInt = v := pk_lT (by omega)
  by_cases c : v ≤ 14400
  · rw [if_pos ((cmp_le _ _).mpr (by rw [e, show (14400 : Int64).toInt = 14400 from rfl]; omega)), if_pos c, show (lN v).toInt32 = nI v from Int64.toInt32_ofNat]
    simp only []
    rw [if_neg (fun q => absurd ((cmp_gt _ _).mp q) (by rw [e, show (14400 : Int64).toInt = 14400 from rfl]; omega)), decide_eq_true c]
    rfl
  · rw [if_neg (fun q => absurd ((cmp_le _ _).mp q) (by rw [e, show (14400 : Int64).toInt = 14400 from rfl]; omega)), if_neg c]
    simp only []
    rw [if_pos ((cmp_gt _ _).mpr (by rw [e, show (14400 : Int64).toInt = 14400 from rfl]; omega)), decide_eq_false c]
    rfl
theorem Da.jn_le {D : Da} (I : DI D) {S : Nat → Bool} : ∀ i, i ≤ D.w → (∀ x, x < i → S x = true → D.go x = true) → D.jn S i ≤ 14400 * 46248
  | 0, _, _ => by unfold Da.jn; omega
  | i + 1, hi, h => by
    have h0 := Da.jn_le I i (by omega) (fun x hx => h x (by omega))
    unfold Da.jn
    by_cases c : D.jn S i ≤ 14400 ∧ S i = true
    · rw [if_pos c]
      exact Nat.mul_le_mul (Nat.le_trans (Nat.div_le_self _ _) c.1) (I.per1 (by omega) (h i (by omega) c.2)).2
    · rw [if_neg c]; exact h0
theorem goL_go {D : Da} {L x : Nat} (h : D.goL L x = true) : D.go x = true := by
  unfold Da.goL at h
  rw [Bool.and_eq_true] at h
  exact h.1
theorem M_joint_loop (N : Nat) (hN : 130 ≤ N) {D : Da} (I : DI D) {L : Nat} (hL : L < 256) (μ : Mm) (X : DM D μ) (e : μ.1 0 27 = nI L) : ∀ (m i : Nat), i ≤ D.w → D.w < m + i → f_M_layJoint_L4 N m (lN (D.jn (D.goL L) i)) (nI i) μ = some (b2 (decide (D.jn (D.goL L) D.w ≤ 14400)), sI μ 0 31 (nI (if D.jn (D.goL L) D.w ≤ 14400 then D.jn (D.goL L) D.w else 0))) := by
  have w8 := I.w8
  intro m
  induction m with
  | zero => intro i h1 h2; omega
  | succ m ih =>
    intro i h1 h2
    have jl := Da.jn_le I i (S := D.goL L) h1 (fun x _ q => goL_go q)
    rw [f_M_layJoint_L4, X.w]
    by_cases h : i = D.w
    · rw [if_pos (by rw [h]; exact nI_le (Nat.le_refl _) (by omega)), M_layJoint_end N (by omega), h]
    · have hi : i < D.w := by omega
      have j1 := Da.jn_pos I i (S := D.goL L) (by omega) (fun x _ q => goL_go q)
      rw [if_neg (nI_ge (by omega) (by omega))]
      have ej : (lN (D.jn (D.goL L) i)).toInt = (D.jn (D.goL L) i : Nat) := pk_lT (by omega)
      by_cases c0 : D.jn (D.goL L) i ≤ 14400
      · rw [if_neg (fun q => absurd ((cmp_gt _ _).mp q) (by rw [ej, show (14400 : Int64).toInt = 14400 from rfl]; omega)), M_goes_eq N (by omega) I hL hi μ X e, bnS]
        unfold f_M_layJoint_B49
        by_cases c : D.goL L i = true
        · have g := goL_go c
          obtain ⟨p1, p2⟩ := I.per1 hi g
          have step : D.jn (D.goL L) (i + 1) = D.jn (D.goL L) i / Nat.gcd (D.jn (D.goL L) i) (D.per i) * D.per i := by
            rw [Da.jn, if_pos ⟨c0, c⟩]
          have l2 : (nI (D.per i)).toInt64 = lN (D.per i) := by rw [i2l, tI (by omega)]; rfl
          have gl : Nat.gcd (D.jn (D.goL L) i) (D.per i) ≤ D.jn (D.goL L) i := Nat.le_of_dvd (by omega) (Nat.gcd_dvd_left _ _)
          have gp : 0 < Nat.gcd (D.jn (D.goL L) i) (D.per i) := Nat.gcd_pos_of_pos_left _ (by omega)
          rw [if_neg (by rw [c]; decide), M_periodOf_eq N (by omega) I hi μ X, bnS, l2, M_gcd_eq N hN (by omega) (by omega), bnS, if_neg (show ¬ lN (Nat.gcd (D.jn (D.goL L) i) (D.per i)) = (0 : Int64) from fun q => absurd ((pk_lEQ (b := 0) (by omega) (by decide)).mp q) (by omega))]
          simp only []
          rw [pk_lDiv (by omega) gp (by omega), show lN (D.jn (D.goL L) i / Nat.gcd (D.jn (D.goL L) i) (D.per i)) * lN (D.per i) = lN (D.jn (D.goL L) i / Nat.gcd (D.jn (D.goL L) i) (D.per i) * D.per i) from (Int64.ofNat_mul _ _).symm, ← step, show (1 : Int32) = nI 1 from rfl, nI_add]
          exact ih (i + 1) (by omega) (by omega)
        · have c' : D.goL L i = false := by simpa using c
          have step : D.jn (D.goL L) (i + 1) = D.jn (D.goL L) i := by
            rw [Da.jn, if_neg (fun q => c q.2)]
          rw [if_pos (by rw [c']; decide), ← step]
          simp only []
          rw [show (1 : Int32) = nI 1 from rfl, nI_add]
          exact ih (i + 1) (by omega) (by omega)
      · rw [if_pos ((cmp_gt _ _).mpr (by rw [ej, show (14400 : Int64).toInt = 14400 from rfl]; omega)), M_layJoint_end N (by omega)]
        have := D.jn_stop (D.goL L) (i := i) (by omega) (D.w - i)
        rw [show i + (D.w - i) = D.w by omega] at this
        rw [this]
theorem M_layJoint_eq (N : Nat) (hN : 130 ≤ N) {D : Da} (I : DI D) {L : Nat} (hL : L < 256) (μ : Mm) (X : DM D μ) (e : μ.1 0 27 = nI L) : f_M_layJoint N μ = some (b2 (decide (D.jn (D.goL L) D.w ≤ 14400)), sI μ 0 31 (nI (if D.jn (D.goL L) D.w ≤ 14400 then D.jn (D.goL L) D.w else 0))) :=
  M_joint_loop N hN I hL μ X e N 0 (by omega) (by have := I.w8; omega)
