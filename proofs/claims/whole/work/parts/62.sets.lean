/-! PURE 42: what sets of walkers ever see; what one sees, by its phase -/
def Da.ea (D : Da) (S : Nat → Bool) : Nat → Nat
  | 0 => 0
  | i + 1 => D.ea S i ||| (if S i = true then D.ev i else 0)
def Da.ga (D : Da) (S : Nat → Bool) : Nat → Nat
  | 0 => 0
  | i + 1 => D.ga S i ||| (if S i = true ∧ D.kd i = 3 then D.ev i else 0)
theorem Da.ea_lt {D : Da} (G : GI D.n D.len) (S : Nat → Bool) : ∀ i, D.ea S i < 65536
  | 0 => by unfold Da.ea; decide
  | i + 1 => by
    unfold Da.ea
    refine or16 (D.ea_lt G S i) ?_
    split
    · exact D.ev_lt G _
    · decide
theorem Da.ga_lt {D : Da} (G : GI D.n D.len) (S : Nat → Bool) : ∀ i, D.ga S i < 65536
  | 0 => by unfold Da.ga; decide
  | i + 1 => by
    unfold Da.ga
    refine or16 (D.ga_lt G S i) ?_
    split
    · exact D.ev_lt G _
    · decide
theorem Da.ea_ext (D : Da) {S T : Nat → Bool} : ∀ i, (∀ x, x < i → S x = T x) → D.ea S i = D.ea T i
  | 0, _ => rfl
  | i + 1, h => by
    unfold Da.ea
    rw [D.ea_ext i (fun x hx => h x (by omega)), h i (by omega)]
theorem Da.ga_ext (D : Da) {S T : Nat → Bool} : ∀ i, (∀ x, x < i → S x = T x) → D.ga S i = D.ga T i
  | 0, _ => rfl
  | i + 1, h => by
    unfold Da.ga
    rw [D.ga_ext i (fun x hx => h x (by omega)), h i (by omega)]
theorem Da.ea_tb (D : Da) (S : Nat → Bool) (p : Nat) : ∀ i, (D.ea S i).testBit p = true ↔ ∃ j, j < i ∧ S j = true ∧ (D.ev j).testBit p = true
  | 0 => by
    unfold Da.ea
    rw [Nat.zero_testBit]
    exact ⟨fun h => (by cases h), fun ⟨j, h, _⟩ => (by omega)⟩
  | i + 1 => by
    unfold Da.ea
    rw [Nat.testBit_or, Bool.or_eq_true, D.ea_tb S p i]
    constructor
    · rintro (⟨j, a, b⟩ | h)
      · exact ⟨j, by omega, b⟩
      · by_cases c : S i = true
        · rw [if_pos c] at h
          exact ⟨i, by omega, c, h⟩
        · rw [if_neg c, Nat.zero_testBit] at h
          cases h
    · rintro ⟨j, a, b, c⟩
      by_cases e : j = i
      · subst e
        right
        rw [if_pos b]; exact c
      · left
        exact ⟨j, by omega, b, c⟩
theorem Da.ga_tb (D : Da) (S : Nat → Bool) (p : Nat) : ∀ i, (D.ga S i).testBit p = true ↔ ∃ j, j < i ∧ (S j = true ∧ D.kd j = 3) ∧ (D.ev j).testBit p = true
  | 0 => by
    unfold Da.ga
    rw [Nat.zero_testBit]
    exact ⟨fun h => (by cases h), fun ⟨j, h, _⟩ => (by omega)⟩
  | i + 1 => by
    unfold Da.ga
    rw [Nat.testBit_or, Bool.or_eq_true, D.ga_tb S p i]
    constructor
    · rintro (⟨j, a, b⟩ | h)
      · exact ⟨j, by omega, b⟩
      · by_cases c : S i = true ∧ D.kd i = 3
        · rw [if_pos c] at h
          exact ⟨i, by omega, c, h⟩
        · rw [if_neg c, Nat.zero_testBit] at h
          cases h
    · rintro ⟨j, a, b, c⟩
      by_cases e : j = i
      · subst e
        right
        rw [if_pos b]; exact c
      · left
        exact ⟨j, by omega, b, c⟩
theorem Da.sa_tb (D : Da) (S : Nat → Bool) (t : Int) (p : Nat) : ∀ i, (D.sa S t i).testBit p = true ↔ ∃ j, j < i ∧ S j = true ∧ (D.vis j t).testBit p = true
  | 0 => by
    unfold Da.sa
    rw [Nat.zero_testBit]
    exact ⟨fun h => (by cases h), fun ⟨j, h, _⟩ => (by omega)⟩
  | i + 1 => by
    unfold Da.sa
    rw [Nat.testBit_or, Bool.or_eq_true, D.sa_tb S t p i]
    constructor
    · rintro (⟨j, a, b⟩ | h)
      · exact ⟨j, by omega, b⟩
      · by_cases c : S i = true
        · rw [if_pos c] at h
          exact ⟨i, by omega, c, h⟩
        · rw [if_neg c, Nat.zero_testBit] at h
          cases h
    · rintro ⟨j, a, b, c⟩
      by_cases e : j = i
      · subst e
        right
        rw [if_pos b]; exact c
      · left
        exact ⟨j, by omega, b, c⟩
theorem Da.os_tb (D : Da) (j p : Nat) : ∀ i, (D.os j i).testBit p = true ↔ ∃ x, x < i ∧ (D.sg j x).testBit p = true
  | 0 => by
    unfold Da.os
    rw [Nat.zero_testBit]
    exact ⟨fun h => (by cases h), fun ⟨j, h, _⟩ => (by omega)⟩
  | i + 1 => by
    unfold Da.os
    rw [Nat.testBit_or, Bool.or_eq_true, D.os_tb j p i]
    constructor
    · rintro (⟨x, a, b⟩ | h)
      · exact ⟨x, by omega, b⟩
      · exact ⟨i, by omega, h⟩
    · rintro ⟨x, a, b⟩
      by_cases e : x = i
      · subst e; right; exact b
      · left; exact ⟨x, by omega, b⟩
theorem Cr_ever_loop (N : Nat) {D : Da} (I : DI D) {B : Nat} (hB : B < 2 ^ 31) (hs : ∀ x, x < D.w → B.testBit x = true → D.go x = true) (μ : Mm) (X : DX D μ) (C : CrewOk D μ) : ∀ (m i : Nat), i ≤ D.w → D.w < m + i → f_Cr_everSeen_L4 N m (nI B) (nI (D.ea (fun x => B.testBit x) i)) (nI i) μ = some (nI (D.ea (fun x => B.testBit x) D.w), μ) := by
  have w8 := I.w8
  intro m
  induction m with
  | zero => intro i h1 h2; omega
  | succ m ih =>
    intro i h1 h2
    rw [f_Cr_everSeen_L4, X.w]
    by_cases h : i = D.w
    · rw [if_pos (by rw [h]; exact nI_le (Nat.le_refl _) (by omega)), h]
    · have hi : i < D.w := by omega
      have e1 := D.ea_lt I.g (fun x => B.testBit x) i
      have e2 := D.ev_lt I.g i
      rw [if_neg (nI_ge (by omega) (by omega)), bitN hB (show i < 32 by omega)]
      unfold f_Cr_everSeen_B34
      simp only [nI_1, nI_add]
      rw [← ih (i + 1) (by omega) (by omega)]
      show _ = f_Cr_everSeen_L4 N m _ (nI (D.ea (fun x => B.testBit x) i ||| (if B.testBit i = true then _ else _))) _ _
      by_cases c : B.testBit i = true
      · rw [if_neg (by rw [c]; decide), if_pos c, if_pos (ixb_t (show i < 8 by omega) (show 8 < 2 ^ 31 by decide)), nI_clamp (show i < 2 ^ 31 by omega), (C.2 i hi (hs i hi c)).2.1, orN (by omega) (by omega)]
      · have c' : B.testBit i = false := by simpa using c
        rw [if_pos (by rw [c']; decide), if_neg c, show (0 : Int32) = nI 0 from rfl, orN (by omega) (by decide)]
theorem Cr_everSeen_eq (N : Nat) (hN : 20 ≤ N) {D : Da} (I : DI D) {B : Nat} (hB : B < 2 ^ 31) (hs : ∀ x, x < D.w → B.testBit x = true → D.go x = true) (μ : Mm) (X : DX D μ) (C : CrewOk D μ) : f_Cr_everSeen N (nI B) μ = some (nI (D.ea (fun x => B.testBit x) D.w), μ) :=
  Cr_ever_loop N I hB hs μ X C N 0 (by omega) (by have := I.w8; omega)
theorem Wa_always_loop (N : Nat) {D : Da} (I : DI D) {B : Nat} (hB : B < 2 ^ 31) (hs : ∀ x, x < D.w → B.testBit x = true → D.go x = true) (μ : Mm) (X : DX D μ) (C : CrewOk D μ) : ∀ (m i : Nat), i ≤ D.w → D.w < m + i → f_Wa_alwaysSeen_L4 N m (nI B) (nI (D.ga (fun x => B.testBit x) i)) (nI i) μ = some (nI (D.ga (fun x => B.testBit x) D.w), μ) := by
  have w8 := I.w8
  intro m
  induction m with
  | zero => intro i h1 h2; omega
  | succ m ih =>
    intro i h1 h2
    rw [f_Wa_alwaysSeen_L4, X.w]
    by_cases h : i = D.w
    · rw [if_pos (by rw [h]; exact nI_le (Nat.le_refl _) (by omega)), h]
    · have hi : i < D.w := by omega
      have e1 := D.ga_lt I.g (fun x => B.testBit x) i
      have e2 := D.ev_lt I.g i
      have k3 := I.kd i hi
      rw [if_neg (nI_ge (by omega) (by omega)), Cr_get_eq N (show i < 8 by omega), bnS, if_pos (show i < 8 by omega), bitN hB (show i < 32 by omega), X.kd i hi]
      unfold f_Wa_alwaysSeen_B51 f_Wa_alwaysSeen_B52
      simp only [nI_1, nI_add]
      rw [← ih (i + 1) (by omega) (by omega)]
      show _ = f_Wa_alwaysSeen_L4 N m _ (nI (D.ga (fun x => B.testBit x) i ||| (if B.testBit i = true ∧ D.kd i = 3 then _ else _))) _ _
      by_cases c : B.testBit i = true
      · rw [if_neg (by rw [c]; decide)]
        by_cases d : D.kd i = 3
        · rw [if_pos (by rw [d]; rfl), if_pos ⟨c, d⟩, (C.2 i hi (hs i hi c)).2.1, orN (by omega) (by omega)]
        · rw [if_neg (show ¬ nI (D.kd i) = 3 from fun q => d ((nI_eq (b := 3) (by omega) (by decide)).mp q)), if_neg (fun q => d q.2), show (0 : Int32) = nI 0 from rfl, orN (by omega) (by decide)]
      · have c' : B.testBit i = false := by simpa using c
        rw [if_pos (by rw [c']; decide), if_neg (fun q => c q.1), show (0 : Int32) = nI 0 from rfl, orN (by omega) (by decide)]
theorem Wa_alwaysSeen_eq (N : Nat) (hN : 20 ≤ N) {D : Da} (I : DI D) {B : Nat} (hB : B < 2 ^ 31) (hs : ∀ x, x < D.w → B.testBit x = true → D.go x = true) (μ : Mm) (X : DX D μ) (C : CrewOk D μ) : f_Wa_alwaysSeen N (nI B) μ = some (nI (D.ga (fun x => B.testBit x) D.w), μ) :=
  Wa_always_loop N I hB hs μ X C N 0 (by omega) (by have := I.w8; omega)
def Da.wy (D : Da) : Nat := bsN (fun p => decide (0 < D.wor p)) D.n
theorem Gr_worthy_loop (N : Nat) {D : Da} (I : DI D) (μ : Mm) (X : DX D μ) : ∀ (m i : Nat), i ≤ D.n → D.n < m + i → f_Gr_worthy_L4 N m (nI (bsN (fun p => decide (0 < D.wor p)) i)) (nI i) μ = some (nI D.wy, μ) := by
  have n16 := I.g.n16
  intro m
  induction m with
  | zero => intro i h1 h2; omega
  | succ m ih =>
    intro i h1 h2
    rw [f_Gr_worthy_L4, X.g.n]
    by_cases h : i = D.n
    · rw [if_pos (by rw [h]; exact nI_le (Nat.le_refl _) (by omega)), h]; rfl
    · have hi : i < D.n := by omega
      have w9 := I.wor i hi
      have st := bsn_step (fun p => decide (0 < D.wor p)) (show i < 16 by omega)
      rw [if_neg (nI_ge (by omega) (by omega)), if_pos (ixb_t (show i < 16 by omega) (by decide)), nI_clamp (show i < 2 ^ 31 by omega), X.wor i hi]
      unfold f_Gr_worthy_B29
      simp only [nI_1, nI_add]
      rw [← ih (i + 1) (by omega) (by omega), ← st]
      by_cases c : 0 < D.wor i
      · rw [if_neg (show ¬ nI (D.wor i) ≤ (0 : Int32) from nI_ge (a := 0) c (by omega)), if_pos (by simpa using c)]
      · rw [if_pos (show nI (D.wor i) ≤ (0 : Int32) by rw [show D.wor i = 0 by omega]; decide), if_neg (by simpa using c)]
theorem Gr_worthy_eq (N : Nat) (hN : 20 ≤ N) {D : Da} (I : DI D) (μ : Mm) (X : DX D μ) : f_Gr_worthy N μ = some (nI D.wy, μ) :=
  Gr_worthy_loop N I μ X N 0 (by omega) (by have := I.g.n16; omega)
/-- what one sees at a phase -/
def Da.vp (D : Da) (j x : Nat) : Nat := if x ≤ D.cm j (D.lf j x) + D.pr j (D.lf j x) then D.sg j (D.lf j x) else 0
theorem Da.vis_vp (D : Da) {j : Nat} (hk : D.kd j ≠ 3) (t : Int) : D.vis j t = D.vp j (D.ph j t) := by
  unfold Da.vis Da.vp Da.hr Da.hl
  rw [if_neg hk, decide_eq_false hk, Bool.false_or]
  simp only [decide_eq_true_eq]
theorem Da.vp_in {D : Da} (I : DI D) {j i d : Nat} (hj : j < D.w) (g : D.go j = true) (hk : D.kd j ≠ 3) (hi : i < D.sz j) (hd : d < D.lt j i) : D.lf j (D.cm j i + d) = i ∧ D.vp j (D.cm j i + d) = if d ≤ D.pr j i then D.sg j i else 0 := by
  have e : D.lf j (D.cm j i + d) = i := Da.lf_one hi (by omega) (by show _ < D.cm j i + D.lt j i; omega)
  refine ⟨e, ?_⟩
  unfold Da.vp
  rw [e]
  by_cases c : d ≤ D.pr j i
  · rw [if_pos (by omega), if_pos c]
  · rw [if_neg (by omega), if_neg c]
theorem DI.ph_add {D : Da} (I : DI D) {j : Nat} (hj : j < D.w) (g : D.go j = true) (t : Int) (d : Nat) : D.ph j (t + d) = (D.ph j t + d) % D.per j := by
  have hp := (I.per1 hj g).1
  unfold Da.ph
  generalize D.per j = P at *
  have h1 := Int.emod_nonneg (t - D.st j) (show (P : Int) ≠ 0 by omega)
  have e : t + d - D.st j = (t - D.st j) + d := by omega
  have h2 : ((t - D.st j) + (d : Int)) % P = ((((t - D.st j) % P).toNat + d : Nat) : Int) % P := by
    rw [Int.add_emod]
    have : ((((t - D.st j) % P).toNat + d : Nat) : Int) = (t - D.st j) % P + d := by omega
    rw [this, Int.add_emod ((t - D.st j) % (P : Int)) d, Int.emod_emod_of_dvd _ (Int.dvd_refl _)]
  rw [e, h2]
  omega
theorem Da.per_cm {D : Da} {j : Nat} (hk : D.kd j ≠ 3) : D.per j = D.cm j (D.sz j) := by unfold Da.per; rw [if_neg hk]
/-- a visit, and what follows it -/
theorem visit {D : Da} (I : DI D) {j i : Nat} (hj : j < D.w) (g : D.go j = true) (hk : D.kd j ≠ 3) (hi : i < D.sz j) {t : Int} (h : D.ph j t = D.cm j i) : (∀ d : Nat, d < D.lt j i → D.ph j (t + d) = D.cm j i + d ∧ D.vis j (t + d) = if d ≤ D.pr j i then D.sg j i else 0) ∧ D.ph j (t + D.lt j i) = D.cm j (nx (D.sz j) i) := by
  have pe := D.per_cm hk
  have cs : D.cm j (i + 1) = D.cm j i + D.lt j i := rfl
  have cmm := D.cm_mono j (show i + 1 ≤ D.sz j by omega)
  refine ⟨fun d hd => ?_, ?_⟩
  · have e : D.ph j (t + d) = D.cm j i + d := by
      rw [I.ph_add hj g, h, Nat.mod_eq_of_lt (by omega)]
    exact ⟨e, by rw [D.vis_vp hk, e, (D.vp_in I hj g hk hi hd).2]⟩
  · rw [I.ph_add hj g, h, ← cs]
    unfold nx
    by_cases c : i + 1 < D.sz j
    · rw [if_pos c]
      have := I.lt_pos hj g hk c
      have c2 : D.cm j (i + 1 + 1) = D.cm j (i + 1) + D.lt j (i + 1) := rfl
      have := D.cm_mono j (show i + 1 + 1 ≤ D.sz j by omega)
      rw [Nat.mod_eq_of_lt (by omega)]
    · rw [if_neg c, show i + 1 = D.sz j by omega, ← pe, Nat.mod_self]; rfl
