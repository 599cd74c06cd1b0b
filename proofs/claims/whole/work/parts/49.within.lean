/-! PURE 29: what is seen from a post, on both sides -/
theorem Gr_farOf_eq (N : Nat) {D : Da} (G : GI D.n D.len) {a b : Nat} (ha : a < D.n) (hb : b < D.n) (μ : Mm) (F : FA D.n (fw D.n D.len) (μ.1 10)) : f_Gr_farOf N (nI a) (nI b) μ = some (if 1000000 ≤ fw D.n D.len a b then -9 else nI (fw D.n D.len a b), μ) := by
  have n16 := G.n16
  have hl := fw_le G ha hb
  unfold f_Gr_farOf
  rw [show (16 : Int32) = nI 16 from rfl, pk_mul, nI_add, show a * 16 + b = 16 * a + b by omega]
  simp only [if_pos (ixb_t (show 16 * a + b < 256 by omega) (by decide)), nI_clamp (show 16 * a + b < 2 ^ 31 by omega), F a b ha hb]
  rw [show (1000000 : Int32) = nI 1000000 from rfl]
  by_cases c : 1000000 ≤ fw D.n D.len a b
  · rw [if_pos ((nIc (by decide) (by omega)).mpr c), if_pos c]
  · rw [if_neg (fun q => c ((nIc (by decide) (by omega)).mp q)), if_neg c]
theorem bsn_step (p : Nat → Bool) {i : Nat} (hi : i < 16) : nI (bsN p i) ||| (if p i = true then (1 : Int32) <<< (nI i &&& 31) else 0) = nI (bsN p (i + 1)) := by
  have hb : bsN p i < 2 ^ 31 := Nat.lt_of_lt_of_le (bsN_lt p i) (Nat.pow_le_pow_right (by decide) (by omega))
  have hp : 2 ^ i < 2 ^ 31 := Nat.pow_lt_pow_right (by decide) (by omega)
  rw [bsN_or, shl1 (by omega)]
  by_cases c : p i = true
  · rw [if_pos c, if_pos c, orN hb hp]
  · rw [if_neg c, if_neg c, show (0 : Int32) = nI 0 from rfl, orN hb (by decide)]
theorem Gr_within_loop (N : Nat) {D : Da} (G : GI D.n D.len) {p v : Nat} (hp : p < D.n) (hv : v ≤ 40) (μ : Mm) (X : GX D.n D.len μ) (F : FA D.n (fw D.n D.len) (μ.1 10)) : ∀ (m i : Nat), i ≤ D.n → D.n < m + i → f_Gr_within_L14 N m (nI p) (nI v) (nI (bsN (fun q => decide (fw D.n D.len p q ≤ v)) i)) (nI i) μ = some (nI (D.sn p v), μ) := by
  have n16 := G.n16
  intro m
  induction m with
  | zero => intro i h1 h2; omega
  | succ m ih =>
    intro i h1 h2
    rw [f_Gr_within_L14, X.n]
    by_cases h : i = D.n
    · rw [if_pos (by rw [h]; exact nI_le (Nat.le_refl _) (by omega)), h]; rfl
    · have hi : i < D.n := by omega
      have hl := fw_le G hp hi
      rw [if_neg (nI_ge (by omega) (by omega)), Gr_farOf_eq N G hp hi μ F, bnS]
      have st := bsn_step (fun q => decide (fw D.n D.len p q ≤ v)) (show i < 16 by omega)
      have := ih (i + 1) (by omega) (by omega)
      unfold f_Gr_within_B51 f_Gr_within_B52
      simp only [nI_1, nI_add]
      rw [← this, ← st]
      by_cases c : 1000000 ≤ fw D.n D.len p i
      · rw [if_pos c, if_pos (by decide), if_neg (by simpa using (by omega : v < fw D.n D.len p i))]
      · rw [if_neg c, if_neg (fun q => absurd (lt_I.mp q) (by rw [tI (by omega), show (0 : Int32).toInt = 0 from rfl]; omega))]
        by_cases c2 : v < fw D.n D.len p i
        · rw [if_pos ((nIl (by omega) (by omega)).mpr c2), if_neg (by simpa using c2)]
        · rw [if_neg (fun q => c2 ((nIl (by omega) (by omega)).mp q)), if_pos (by simpa using (by omega : fw D.n D.len p i ≤ v))]
theorem sn_0 {D : Da} (G : GI D.n D.len) {p : Nat} (hp : p < D.n) : D.sn p 0 = 2 ^ p := by
  unfold Da.sn
  apply Nat.eq_of_testBit_eq
  intro i
  rw [bsN_tb, Nat.testBit_two_pow]
  by_cases c : p = i
  · subst c
    simp [hp, fw_self G hp]
  · have := fw_pos (n := D.n) (len := D.len) c
    simp [c]
    omega
theorem Gr_within_eq (N : Nat) (hN : 20 ≤ N) {D : Da} (G : GI D.n D.len) {p v : Nat} (hp : p < D.n) (hv : v ≤ 40) (μ : Mm) (X : GX D.n D.len μ) (F : FA D.n (fw D.n D.len) (μ.1 10)) : f_Gr_within N (nI p) (nI v) μ = some (nI (D.sn p v), μ) := by
  have n16 := G.n16
  unfold f_Gr_within
  by_cases c : 1 ≤ v
  · rw [if_pos (show (1 : Int32) ≤ nI v from (nIc (a := 1) (by decide) (by omega)).mpr c)]
    exact Gr_within_loop N G hp hv μ X F N 0 (by omega) (by omega)
  · have c0 : v = 0 := by omega
    subst c0
    rw [if_neg (by decide), shl1 (by omega), sn_0 G hp]
theorem M_view_loop (N : Nat) {D : Da} (I : DI D) {p j : Nat} (hj : j < D.w) (hp : p < D.n) (μ : Mm) (X : DM D μ) (F : FA D.n (fw D.n D.len) (μ.1 9)) : ∀ (m i : Nat), i ≤ D.n → D.n < m + i → f_M_viewFrom_L5 N m (nI j) (nI p) (nI (bsN (fun q => decide (fw D.n D.len p q ≤ D.vw j)) i)) (nI i) μ = some (nI (D.sn p (D.vw j)), μ) := by
  have n16 := I.g.n16
  have w8 := I.w8
  have hv := I.vw j hj
  intro m
  induction m with
  | zero => intro i h1 h2; omega
  | succ m ih =>
    intro i h1 h2
    rw [f_M_viewFrom_L5, X.n]
    by_cases h : i = D.n
    · rw [if_pos (by rw [h]; exact nI_le (Nat.le_refl _) (by omega)), h]; rfl
    · have hi : i < D.n := by omega
      have hl := fw_le I.g hp hi
      rw [if_neg (nI_ge (by omega) (by omega)), show (16 : Int32) = nI 16 from rfl, pk_mul, nI_add]
      have st := bsn_step (fun q => decide (fw D.n D.len p q ≤ D.vw j)) (show i < 16 by omega)
      have := ih (i + 1) (by omega) (by omega)
      unfold f_M_viewFrom_B44
      simp only [if_pos (ixb_t (show 16 * p + i < 256 by omega) (by decide)), if_pos (ixb_t (show j < 8 by omega) (show 8 < 2 ^ 31 by decide)), nI_clamp (show 16 * p + i < 2 ^ 31 by omega), nI_clamp (show j < 2 ^ 31 by omega), F p i hp hi, X.vw j hj, nI_1, nI_add]
      rw [← this, ← st]
      by_cases c2 : D.vw j < fw D.n D.len p i
      · rw [if_pos ((nIl (by omega) (by omega)).mpr c2), if_neg (by simpa using c2)]
      · rw [if_neg (fun q => c2 ((nIl (by omega) (by omega)).mp q)), if_pos (by simpa using (by omega : fw D.n D.len p i ≤ D.vw j))]
theorem M_viewFrom_eq (N : Nat) (hN : 20 ≤ N) {D : Da} (I : DI D) {p j : Nat} (hj : j < D.w) (hp : p < D.n) (μ : Mm) (X : DM D μ) (F : FA D.n (fw D.n D.len) (μ.1 9)) : f_M_viewFrom N (nI j) (nI p) μ = some (nI (D.sn p (D.vw j)), μ) :=
  M_view_loop N I hj hp μ X F N 0 (by omega) (by have := I.g.n16; omega)
