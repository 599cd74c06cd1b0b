/-! PURE 56: the class works its round out -/
/-- all that the class needs of its own places: stops, ways, no two apart -/
def TC (n K : Nat) (len : Nat → Nat → Int) (st : Nat → Nat) (μ : Mm) : Prop := GI n len ∧ 1 ≤ K ∧ K ≤ 9 ∧ (∀ i, i < K + 1 → st i < n) ∧ μ.1 75 5 = nI (K + 1) ∧ (∀ i, i < K + 1 → μ.1 76 i = nI (st i)) ∧ FA n (fw n len) (μ.1 10) ∧ ∀ a b, a < K + 1 → b < K + 1 → HL (fw n len) st a b ≤ 480
theorem TC.keep {n K : Nat} {len : Nat → Nat → Int} {st : Nat → Nat} {μ μ' : Mm} (h : TC n K len st μ) (h5 : μ'.1 75 5 = μ.1 75 5) (h76 : μ'.1 76 = μ.1 76) (h10 : μ'.1 10 = μ.1 10) : TC n K len st μ' := by
  obtain ⟨a, b, c, d, e, f, g, i⟩ := h
  exact ⟨a, b, c, d, by rw [h5]; exact e, by rw [h76]; exact f, by rw [h10]; exact g, i⟩
theorem TC.way (N : Nat) {n K : Nat} {len : Nat → Nat → Int} {st : Nat → Nat} {μ : Mm} (h : TC n K len st μ) {a b : Nat} (ha : a < K + 1) (hb : b < K + 1) : f_To_way N (nI a) (nI b) μ = some (nI (HL (fw n len) st a b), μ) := by
  obtain ⟨G, k1, k9, hst, e5, e76, F, hH⟩ := h
  have := hH a b ha hb
  rw [X_way N G (by omega) hst ha hb μ e76 F, if_neg (by omega)]
def HT (H : Nat → Nat → Nat) (K s0 : Nat) (μ : Mm) : Prop := ∀ s, s0 ≤ s → s < 2 ^ K → ∀ i, i < K → s.testBit i = true → μ.1 78 (9 * s + i) = nI (Tw H (K + 1) (cmp K s) (i + 1))
theorem X_wayOver (N : Nat) {n K : Nat} {len : Nat → Nat → Int} {st : Nat → Nat} {μ : Mm} (h : TC n K len st μ) {s a j s0 : Nat} (hs : s < 2 ^ K) (ha : a < K + 1) (hj : j < K) (hb : s.testBit j = false) (ht : HT (HL (fw n len) st) K s0 μ) (h0 : s0 ≤ s + 1) : f_To_wayOver N (nI s) (nI a) (nI j) μ = some (nI (HL (fw n len) st a (j + 1) + Tw (HL (fw n len) st) (K + 1) (cmp K (s ||| 2 ^ j)) (j + 1)), μ) := by
  obtain ⟨G, k1, k9, hst, e5, e76, F, hH⟩ := id h
  have p512 : 2 ^ K ≤ 512 := (show 2 ^ K ≤ 2 ^ 9 from Nat.pow_le_pow_right (by decide) k9)
  have ol := or_pow_lt hs hj
  have og := or_gt hb
  have pj : 2 ^ j < 2 ^ 31 := Nat.pow_lt_pow_right (by decide) (by omega)
  have tj := ht (s ||| 2 ^ j) (by omega) ol j hj (by rw [Nat.testBit_or, Nat.testBit_two_pow, decide_eq_true rfl, Bool.or_true])
  unfold f_To_wayOver
  rw [← nI_succ, h.way N ha (show j + 1 < K + 1 by omega), bnS, shl1 (by omega), orN (by omega) pj]
  simp only [show (9 : Int32) = nI 9 from rfl, pk_mul, nI_add]
  rw [show (s ||| 2 ^ j) * 9 + j = 9 * (s ||| 2 ^ j) + j by omega, if_pos (ixb_t (show 9 * (s ||| 2 ^ j) + j < 4608 by omega) (by decide)), nI_clamp (show 9 * (s ||| 2 ^ j) + j < 2 ^ 31 by omega), tj, nI_add]
theorem X_best_loop (N : Nat) {n K : Nat} {len : Nat → Nat → Int} {st : Nat → Nat} {μ : Mm} (h : TC n K len st μ) {s a s0 : Nat} (hs : s < 2 ^ K) (ha : a < K + 1) (ht : HT (HL (fw n len) st) K s0 μ) (h0 : s0 ≤ s + 1) : ∀ (m j : Nat), j ≤ K → K < m + j → f_To_bestBeyond_L6 N m (nI s) (nI a) (nI (mnF (fun j => !s.testBit j) (fun j => HL (fw n len) st a (j + 1) + Tw (HL (fw n len) st) (K + 1) (cmp K (s ||| 2 ^ j)) (j + 1)) 1000000 j)) (nI j) μ = some (nI (mnF (fun j => !s.testBit j) (fun j => HL (fw n len) st a (j + 1) + Tw (HL (fw n len) st) (K + 1) (cmp K (s ||| 2 ^ j)) (j + 1)) 1000000 K), μ) := by
  obtain ⟨G, k1, k9, hst, e5, e76, F, hH⟩ := id h
  have p512 : 2 ^ K ≤ 512 := (show 2 ^ K ≤ 2 ^ 9 from Nat.pow_le_pow_right (by decide) k9)
  have HB : ∀ a b, a < K + 1 → b < K + 1 → HL (fw n len) st a b ≤ 1000000 := fun a b x y => by have := hH a b x y; omega
  intro m
  induction m with
  | zero => intro j h1 h2; omega
  | succ m ih =>
    intro j h1 h2
    rw [f_To_bestBeyond_L6, e5, show nI (K + 1) - 1 = nI K from pk_sub (b := 1) (by omega)]
    by_cases c : j = K
    · rw [if_pos (nI_le (by omega) (by omega)), c]
    · have hj : j < K := by omega
      have ml := (mnF_le (fun j => !s.testBit j) (fun j => HL (fw n len) st a (j + 1) + Tw (HL (fw n len) st) (K + 1) (cmp K (s ||| 2 ^ j)) (j + 1)) 1000000 j).1
      have st1 : mnF (fun j => !s.testBit j) (fun j => HL (fw n len) st a (j + 1) + Tw (HL (fw n len) st) (K + 1) (cmp K (s ||| 2 ^ j)) (j + 1)) 1000000 (j + 1) = if (!s.testBit j) = true then min (mnF (fun j => !s.testBit j) (fun j => HL (fw n len) st a (j + 1) + Tw (HL (fw n len) st) (K + 1) (cmp K (s ||| 2 ^ j)) (j + 1)) 1000000 j) (HL (fw n len) st a (j + 1) + Tw (HL (fw n len) st) (K + 1) (cmp K (s ||| 2 ^ j)) (j + 1)) else mnF (fun j => !s.testBit j) (fun j => HL (fw n len) st a (j + 1) + Tw (HL (fw n len) st) (K + 1) (cmp K (s ||| 2 ^ j)) (j + 1)) 1000000 j := rfl
      have ih' := ih (j + 1) (by omega) (by omega)
      rw [if_neg (nI_ge (by omega) (by omega)), bitN (by omega) (by omega)]
      unfold f_To_bestBeyond_B39
      simp only [nI_1, nI_add]
      cases b : s.testBit j with
      | false =>
        have h3 := HB a (j + 1) ha (by omega)
        have h4 := Tw_le HB (cmp K (s ||| 2 ^ j)) (show j + 1 < K + 1 by omega)
        rw [b, Bool.not_false, if_pos rfl] at st1
        rw [if_pos (by decide), X_wayOver N h hs ha hj b ht h0, bnS, Jmin, bnS, tI (by omega), tI (by omega)]
        rw [st1] at ih'
        by_cases d : mnF (fun j => !s.testBit j) (fun j => HL (fw n len) st a (j + 1) + Tw (HL (fw n len) st) (K + 1) (cmp K (s ||| 2 ^ j)) (j + 1)) 1000000 j ≤ HL (fw n len) st a (j + 1) + Tw (HL (fw n len) st) (K + 1) (cmp K (s ||| 2 ^ j)) (j + 1)
        · rw [if_pos (Int.ofNat_le.mpr d)]
          rw [Nat.min_eq_left d] at ih'
          exact ih'
        · rw [if_neg (fun q => d (Int.ofNat_le.mp q))]
          rw [Nat.min_eq_right (by omega)] at ih'
          exact ih'
      | true =>
        rw [b, Bool.not_true, if_neg (by decide)] at st1
        rw [if_neg (by decide)]
        rw [st1] at ih'
        exact ih'
theorem cmp_ne {K s : Nat} (hs : s + 1 < 2 ^ K) : cmp K s ≠ 0 := by unfold cmp; omega
theorem X_best (N : Nat) (hN : 20 ≤ N) {n K : Nat} {len : Nat → Nat → Int} {st : Nat → Nat} {μ : Mm} (h : TC n K len st μ) {s a s0 : Nat} (hs : s + 1 < 2 ^ K) (ha : a < K + 1) (ht : HT (HL (fw n len) st) K s0 μ) (h0 : s0 ≤ s + 1) : f_To_bestBeyond N (nI s) (nI a) μ = some (nI (Tw (HL (fw n len) st) (K + 1) (cmp K s) a), μ) := by
  rw [Tw_cmp _ (by omega) (cmp_ne hs)]
  exact X_best_loop N h (by omega) ha ht h0 N 0 (by omega) (by have := h.2.2.1; omega)
theorem nine_inj {s a t b : Nat} (ha : a < 9) (hb : b < 9) : 9 * s + a = 9 * t + b ↔ s = t ∧ a = b := by omega
theorem X_home_in (N : Nat) (hN : 20 ≤ N) {n K : Nat} {len : Nat → Nat → Int} {st : Nat → Nat} {s : Nat} (hs : s < 2 ^ K) (k13 : Int32 → Int32 → Mm → Option Mm) : ∀ (m i : Nat) (μ : Mm), TC n K len st μ → HT (HL (fw n len) st) K (s + 1) μ → i ≤ K → K < m + i → (∀ x, x < i → s.testBit x = true → μ.1 78 (9 * s + x) = nI (Tw (HL (fw n len) st) (K + 1) (cmp K s) (x + 1))) → ∃ μ', f_To_workHomeward_L19 N k13 m (nI (2 ^ K - 1)) (nI s) (nI i) μ = k13 (nI (2 ^ K - 1)) (nI s + -1) μ' ∧ TFr μ μ' ∧ TC n K len st μ' ∧ HT (HL (fw n len) st) K s μ' := by
  intro m
  induction m with
  | zero => intro i μ _ _ h1 h2; omega
  | succ m ih =>
    intro i μ h ht h1 h2 hx
    obtain ⟨G, k1, k9, hst, e5, e76, F, hH⟩ := id h
    have p512 : 2 ^ K ≤ 512 := (show 2 ^ K ≤ 2 ^ 9 from Nat.pow_le_pow_right (by decide) k9)
    rw [f_To_workHomeward_L19, e5, show nI (K + 1) - 1 = nI K from pk_sub (b := 1) (by omega)]
    by_cases c : i = K
    · rw [if_pos (nI_le (by omega) (by omega))]
      unfold f_To_workHomeward_B78
      refine ⟨μ, rfl, TFr.refl μ, h, fun t t1 t2 x hx' hb => ?_⟩
      by_cases e : t = s
      · subst e; exact hx x (by omega) hb
      · exact ht t (by omega) t2 x hx' hb
    · have hi : i < K := by omega
      rw [if_neg (nI_ge (by omega) (by omega)), bitN (by omega) (by omega)]
      unfold f_To_workHomeward_B71 f_To_workHomeward_B72
      simp only [nI_1, nI_add]
      cases b : s.testBit i with
      | false =>
        rw [if_pos (by decide)]
        exact ih (i + 1) μ h ht (by omega) (by omega) (fun x hx' hb => by
          by_cases e : x = i
          · subst e; rw [b] at hb; cases hb
          · exact hx x (by omega) hb)
      | true =>
        rw [if_neg (by decide)]
        simp only [show (9 : Int32) = nI 9 from rfl, pk_mul, nI_add]
        simp only [show s * 9 + i = 9 * s + i by omega, if_pos (ixb_t (show 9 * s + i < 4608 by omega) (show 4608 < 2 ^ 31 by decide)), nI_clamp (show 9 * s + i < 2 ^ 31 by omega)]
        have step : ∃ μ', f_To_workHomeward_L19 N k13 m (nI (2 ^ K - 1)) (nI s) (nI (i + 1)) (sI μ 78 (9 * s + i) (nI (Tw (HL (fw n len) st) (K + 1) (cmp K s) (i + 1)))) = k13 (nI (2 ^ K - 1)) (nI s + -1) μ' ∧ TFr μ μ' ∧ TC n K len st μ' ∧ HT (HL (fw n len) st) K s μ' := by
          have f1 := TFr.cell (c := 78) (by decide) (by decide) μ (9 * s + i) (nI (Tw (HL (fw n len) st) (K + 1) (cmp K s) (i + 1)))
          have at78 : ∀ t x, x < K → (sI μ 78 (9 * s + i) (nI (Tw (HL (fw n len) st) (K + 1) (cmp K s) (i + 1)))).1 78 (9 * t + x) = if t = s ∧ x = i then nI (Tw (HL (fw n len) st) (K + 1) (cmp K s) (i + 1)) else μ.1 78 (9 * t + x) := fun t x hx' => by
            rw [sI_at, upd_at]
            by_cases e : t = s ∧ x = i
            · rw [if_pos ((nine_inj (by omega) (by omega)).mpr e), if_pos e]
            · rw [if_neg (fun q => e ((nine_inj (by omega) (by omega)).mp q)), if_neg e]
          obtain ⟨μ', r1, r2, r3, r4⟩ := ih (i + 1) (sI μ 78 (9 * s + i) (nI (Tw (HL (fw n len) st) (K + 1) (cmp K s) (i + 1)))) (h.keep (by rw [sI_ne _ _ _ (by decide)]) (by rw [sI_ne _ _ _ (by decide)]) (by rw [sI_ne _ _ _ (by decide)])) (fun t t1 t2 x hx' hb => by
            rw [at78 t x hx', if_neg (by omega)]
            exact ht t t1 t2 x hx' hb) (by omega) (by omega) (fun x hx' hb => by
            rw [at78 s x (by omega)]
            by_cases e : x = i
            · rw [if_pos ⟨rfl, e⟩, e]
            · rw [if_neg (fun q => e q.2)]
              exact hx x (by omega) hb)
          exact ⟨μ', r1, f1.trans r2, r3, r4⟩
        by_cases e : s = 2 ^ K - 1
        · have z : cmp K s = 0 := by unfold cmp; omega
          have w := h.way N (show i + 1 < K + 1 by omega) (show 0 < K + 1 by omega)
          rw [show nI 0 = (0 : Int32) from rfl] at w
          rw [if_pos (by rw [e]), w, bnS]
          rw [z, Tw_0] at step
          exact step
        · rw [if_neg (fun q => e ((nI_eq (by omega) (by omega)).mp q)), X_best N hN h (show s + 1 < 2 ^ K by omega) (show i + 1 < K + 1 by omega) ht (Nat.le_refl _), bnS]
          exact step
theorem X_home_out (N : Nat) (hN : 20 ≤ N) {n K : Nat} {len : Nat → Nat → Int} {st : Nat → Nat} : ∀ (m s : Nat) (μ : Mm), s < 2 ^ K → s < m → TC n K len st μ → HT (HL (fw n len) st) K (s + 1) μ → ∃ μ', f_To_workHomeward_L13 N m (nI (2 ^ K - 1)) (nI s) μ = some μ' ∧ TFr μ μ' ∧ TC n K len st μ' ∧ HT (HL (fw n len) st) K 1 μ' := by
  intro m
  induction m with
  | zero => intro s μ _ h2; omega
  | succ m ih =>
    intro s μ hs hm h ht
    have k9 := h.2.2.1
    have p512 : 2 ^ K ≤ 512 := (show 2 ^ K ≤ 2 ^ 9 from Nat.pow_le_pow_right (by decide) k9)
    rw [f_To_workHomeward_L13]
    by_cases c : s = 0
    · subst c
      rw [if_pos (by decide)]
      exact ⟨μ, rfl, TFr.refl μ, h, ht⟩
    · rw [if_neg (show ¬ nI s ≤ (0 : Int32) from nI_ge (a := 0) (by omega) (by omega))]
      obtain ⟨μ1, r1, r2, r3, r4⟩ := X_home_in N hN hs (f_To_workHomeward_L13 N m) N 0 μ h ht (by omega) (by omega) (fun x hx => by omega)
      rw [show nI 0 = (0 : Int32) from rfl] at r1
      obtain ⟨s', rfl⟩ : ∃ s', s = s' + 1 := ⟨s - 1, by omega⟩
      rw [r1, pk_m1]
      obtain ⟨μ', q1, q2, q3, q4⟩ := ih s' μ1 (by omega) (by omega) r3 r4
      exact ⟨μ', q1, r2.trans q2, q3, q4⟩
theorem X_next_loop (N : Nat) {n K : Nat} {len : Nat → Nat → Int} {st : Nat → Nat} {μ : Mm} (h : TC n K len st μ) {s a : Nat} (hs : s < 2 ^ K) (ha : a < K + 1) (ht : HT (HL (fw n len) st) K 1 μ) (hsm : mnF (fun j => !s.testBit j) (fun j => HL (fw n len) st a (j + 1) + Tw (HL (fw n len) st) (K + 1) (cmp K (s ||| 2 ^ j)) (j + 1)) 1000000 K < 1000000) : ∀ (m j b : Nat), j ≤ K → K < m + j → b ≤ K → (mnF (fun j => !s.testBit j) (fun j => HL (fw n len) st a (j + 1) + Tw (HL (fw n len) st) (K + 1) (cmp K (s ||| 2 ^ j)) (j + 1)) 1000000 j = 1000000 ∨ (b < j ∧ s.testBit b = false ∧ HL (fw n len) st a (b + 1) + Tw (HL (fw n len) st) (K + 1) (cmp K (s ||| 2 ^ b)) (b + 1) = mnF (fun j => !s.testBit j) (fun j => HL (fw n len) st a (j + 1) + Tw (HL (fw n len) st) (K + 1) (cmp K (s ||| 2 ^ j)) (j + 1)) 1000000 j ∧ ∀ x, x < b → s.testBit x = false → mnF (fun j => !s.testBit j) (fun j => HL (fw n len) st a (j + 1) + Tw (HL (fw n len) st) (K + 1) (cmp K (s ||| 2 ^ j)) (j + 1)) 1000000 j < HL (fw n len) st a (x + 1) + Tw (HL (fw n len) st) (K + 1) (cmp K (s ||| 2 ^ x)) (x + 1))) → ∃ b', f_To_nextStop_L9 N m (nI s) (nI a) (nI (mnF (fun j => !s.testBit j) (fun j => HL (fw n len) st a (j + 1) + Tw (HL (fw n len) st) (K + 1) (cmp K (s ||| 2 ^ j)) (j + 1)) 1000000 j)) (nI b) (nI j) μ = some (nI b', μ) ∧ b' < K ∧ s.testBit b' = false ∧ HL (fw n len) st a (b' + 1) + Tw (HL (fw n len) st) (K + 1) (cmp K (s ||| 2 ^ b')) (b' + 1) = mnF (fun j => !s.testBit j) (fun j => HL (fw n len) st a (j + 1) + Tw (HL (fw n len) st) (K + 1) (cmp K (s ||| 2 ^ j)) (j + 1)) 1000000 K ∧ ∀ x, x < b' → s.testBit x = false → mnF (fun j => !s.testBit j) (fun j => HL (fw n len) st a (j + 1) + Tw (HL (fw n len) st) (K + 1) (cmp K (s ||| 2 ^ j)) (j + 1)) 1000000 K < HL (fw n len) st a (x + 1) + Tw (HL (fw n len) st) (K + 1) (cmp K (s ||| 2 ^ x)) (x + 1) := by
  obtain ⟨G, k1, k9, hst, e5, e76, F, hH⟩ := id h
  have p512 : 2 ^ K ≤ 512 := (show 2 ^ K ≤ 2 ^ 9 from Nat.pow_le_pow_right (by decide) k9)
  have HB : ∀ a b, a < K + 1 → b < K + 1 → HL (fw n len) st a b ≤ 1000000 := fun a b x y => by have := hH a b x y; omega
  intro m
  induction m with
  | zero => intro j b h1 h2; omega
  | succ m ih =>
    intro j b h1 h2 hbK hinv
    rw [f_To_nextStop_L9, e5, show nI (K + 1) - 1 = nI K from pk_sub (b := 1) (by omega)]
    by_cases c : j = K
    · subst c
      rw [if_pos (nI_le (by omega) (by omega))]
      rcases hinv with q | q
      · omega
      · exact ⟨b, rfl, q⟩
    · have hj : j < K := by omega
      have ml := mnF_le (fun j => !s.testBit j) (fun j => HL (fw n len) st a (j + 1) + Tw (HL (fw n len) st) (K + 1) (cmp K (s ||| 2 ^ j)) (j + 1)) 1000000 j
      have st1 : mnF (fun j => !s.testBit j) (fun j => HL (fw n len) st a (j + 1) + Tw (HL (fw n len) st) (K + 1) (cmp K (s ||| 2 ^ j)) (j + 1)) 1000000 (j + 1) = if (!s.testBit j) = true then min (mnF (fun j => !s.testBit j) (fun j => HL (fw n len) st a (j + 1) + Tw (HL (fw n len) st) (K + 1) (cmp K (s ||| 2 ^ j)) (j + 1)) 1000000 j) (HL (fw n len) st a (j + 1) + Tw (HL (fw n len) st) (K + 1) (cmp K (s ||| 2 ^ j)) (j + 1)) else mnF (fun j => !s.testBit j) (fun j => HL (fw n len) st a (j + 1) + Tw (HL (fw n len) st) (K + 1) (cmp K (s ||| 2 ^ j)) (j + 1)) 1000000 j := rfl
      rw [if_neg (nI_ge (by omega) (by omega)), bitN (by omega) (by omega)]
      unfold f_To_nextStop_B54
      simp only [nI_1, nI_add]
      cases bb : s.testBit j with
      | false =>
        have h3 := HB a (j + 1) ha (by omega)
        have h4 := Tw_le HB (cmp K (s ||| 2 ^ j)) (show j + 1 < K + 1 by omega)
        rw [bb, Bool.not_false, if_pos rfl] at st1
        have w := X_wayOver N h hs ha hj bb ht (by omega)
        rw [if_pos (by decide), w, bnS]
        by_cases d : mnF (fun j => !s.testBit j) (fun j => HL (fw n len) st a (j + 1) + Tw (HL (fw n len) st) (K + 1) (cmp K (s ||| 2 ^ j)) (j + 1)) 1000000 j ≤ HL (fw n len) st a (j + 1) + Tw (HL (fw n len) st) (K + 1) (cmp K (s ||| 2 ^ j)) (j + 1)
        · rw [if_pos (nI_le d (by omega))]
          rw [Nat.min_eq_left d] at st1
          have := ih (j + 1) b (by omega) (by omega) hbK (by
            rw [st1]
            rcases hinv with q | ⟨q1, q2⟩
            · exact Or.inl q
            · exact Or.inr ⟨by omega, q2⟩)
          rw [st1] at this
          exact this
        · rw [if_neg (nI_ge (by omega) (by omega)), w, bnS]
          rw [Nat.min_eq_right (by omega)] at st1
          have := ih (j + 1) j (by omega) (by omega) (by omega) (by
            rw [st1]
            refine Or.inr ⟨by omega, bb, rfl, fun x hx hb => ?_⟩
            have := ml.2 x hx (by show (!s.testBit x) = true; rw [hb]; rfl)
            omega)
          rw [st1] at this
          exact this
      | true =>
        rw [bb, Bool.not_true, if_neg (by decide)] at st1
        rw [if_neg (by decide)]
        have := ih (j + 1) b (by omega) (by omega) hbK (by
          rw [st1]
          rcases hinv with q | ⟨q1, q2⟩
          · exact Or.inl q
          · exact Or.inr ⟨by omega, q2⟩)
        rw [st1] at this
        exact this
theorem X_next (N : Nat) (hN : 20 ≤ N) {n K : Nat} {len : Nat → Nat → Int} {st : Nat → Nat} {μ : Mm} (h : TC n K len st μ) {s a : Nat} (hs : s + 1 < 2 ^ K) (ha : a < K + 1) (ht : HT (HL (fw n len) st) K 1 μ) : ∃ b, f_To_nextStop N (nI s) (nI a) μ = some (nI b, μ) ∧ b < K ∧ s.testBit b = false ∧ nxS (HL (fw n len) st) (K + 1) (cmp K s) a = b + 1 := by
  obtain ⟨G, k1, k9, hst, e5, e76, F, hH⟩ := id h
  have p512 : 2 ^ K ≤ 512 := (show 2 ^ K ≤ 2 ^ 9 from Nat.pow_le_pow_right (by decide) k9)
  have ne := cmp_ne hs
  have cl := cmp_lt (show s < 2 ^ K by omega)
  have pk : 2 ^ (K + 1) = 2 ^ K * 2 := Nat.pow_succ 2 K
  have tc := Tw_cmp (HL (fw n len) st) (last := a) (show s < 2 ^ K by omega) ne
  have sm := Tw_small hH (cmp K s) (cmp K s) a (Nat.le_refl _) cl ha
  obtain ⟨b, r1, r2, r3, r4, r5⟩ := X_next_loop N h (show s < 2 ^ K by omega) ha ht (by rw [← tc]; omega) N 0 0 (by omega) (by omega) (by omega) (Or.inl rfl)
  rw [← tc] at r4 r5
  refine ⟨b, r1, r2, r3, ?_⟩
  refine fsN_is (by omega) ?_ (fun t ht' => ?_)
  · rw [Bool.and_eq_true, decide_eq_true_eq, cmp_tb (by omega), cmp_or (by omega) r2, decide_eq_true r2, r3]
    exact ⟨rfl, r4⟩
  · cases t with
    | zero => rw [cmp_tb0]; rfl
    | succ t =>
      rw [cmp_tb (by omega), decide_eq_true (show t < K by omega), Bool.true_and]
      cases q : s.testBit t with
      | true => rfl
      | false =>
        rw [cmp_or (by omega) (show t < K by omega), Bool.not_false, Bool.true_and]
        have := r5 t (by omega) q
        exact decide_eq_false (by omega)
theorem X_follow_loop (N : Nat) (hN : 20 ≤ N) {n K : Nat} {len : Nat → Nat → Int} {st : Nat → Nat} : ∀ (m t s : Nat) (μ : Mm), TC n K len st μ → HT (HL (fw n len) st) K 1 μ → 1 ≤ t → t ≤ K + 1 → K + 1 < m + t → s < 2 ^ K → cmp K s = (sqS (HL (fw n len) st) (K + 1) (t - 1)).1 → (∀ i, i < t → μ.1 77 i = nI (st (sqS (HL (fw n len) st) (K + 1) i).2)) → ∃ μ', f_To_follow_L28 N m (nI s) (nI (sqS (HL (fw n len) st) (K + 1) (t - 1)).2) (nI t) μ = some μ' ∧ TFr μ μ' ∧ μ'.1 75 = μ.1 75 ∧ ∀ i, i < K + 1 → μ'.1 77 i = nI (st (sqS (HL (fw n len) st) (K + 1) i).2) := by
  intro m
  induction m with
  | zero => intro t s μ _ _ _ h1 h2; omega
  | succ m ih =>
    intro t s μ h ht t1 h1 h2 hs hc ho
    obtain ⟨G, k1, k9, hst, e5, e76, F, hH⟩ := id h
    have p512 : 2 ^ K ≤ 512 := (show 2 ^ K ≤ 2 ^ 9 from Nat.pow_le_pow_right (by decide) k9)
    rw [f_To_follow_L28, e5]
    by_cases c : t = K + 1
    · subst c
      rw [if_pos (nI_le (by omega) (by omega))]
      exact ⟨μ, rfl, TFr.refl μ, rfl, ho⟩
    · have inv := sqS_inv hH (show K + 1 ≤ 10 by omega) (t - 1) (by omega)
      have ne : (sqS (HL (fw n len) st) (K + 1) (t - 1)).1 ≠ 0 := fun q => by
        rw [q] at inv
        have := inv.2.2.2
        rw [cnt_none (K + 1) (fun i _ => Nat.zero_testBit i)] at this
        omega
      have s1 : s + 1 < 2 ^ K := by
        rcases Nat.lt_or_ge (s + 1) (2 ^ K) with q | q
        · exact q
        · exfalso
          refine ne ?_
          rw [← hc]
          unfold cmp
          omega
      obtain ⟨b, r1, r2, r3, r4⟩ := X_next N hN h s1 inv.2.1 ht
      have pb : 2 ^ b < 2 ^ 31 := Nat.pow_lt_pow_right (by decide) (by omega)
      have e : sqS (HL (fw n len) st) (K + 1) t = (anN (sqS (HL (fw n len) st) (K + 1) (t - 1)).1 (2 ^ nxS (HL (fw n len) st) (K + 1) (sqS (HL (fw n len) st) (K + 1) (t - 1)).1 (sqS (HL (fw n len) st) (K + 1) (t - 1)).2), nxS (HL (fw n len) st) (K + 1) (sqS (HL (fw n len) st) (K + 1) (t - 1)).1 (sqS (HL (fw n len) st) (K + 1) (t - 1)).2) := by
        have : sqS (HL (fw n len) st) (K + 1) (t - 1 + 1) = (anN (sqS (HL (fw n len) st) (K + 1) (t - 1)).1 (2 ^ nxS (HL (fw n len) st) (K + 1) (sqS (HL (fw n len) st) (K + 1) (t - 1)).1 (sqS (HL (fw n len) st) (K + 1) (t - 1)).2), nxS (HL (fw n len) st) (K + 1) (sqS (HL (fw n len) st) (K + 1) (t - 1)).1 (sqS (HL (fw n len) st) (K + 1) (t - 1)).2) := rfl
        rw [show t - 1 + 1 = t by omega] at this
        exact this
      rw [← hc, r4] at e
      rw [if_neg (nI_ge (by omega) (by omega)), r1, bnS, shl1 (by omega), orN (by omega) pb]
      simp only [nI_1, nI_add]
      rw [if_pos (ixb_t (show b + 1 < 10 by omega) (by decide)), if_pos (ixb_t (show t < 10 by omega) (by decide)), nI_clamp (show b + 1 < 2 ^ 31 by omega), nI_clamp (show t < 2 ^ 31 by omega), e76 (b + 1) (by omega)]
      have f1 := TFr.cell (c := 77) (by decide) (by decide) μ t (nI (st (b + 1)))
      have l2 : (sqS (HL (fw n len) st) (K + 1) t).2 = b + 1 := by rw [e]
      obtain ⟨μ', q1, q2, q3, q4⟩ := ih (t + 1) (s ||| 2 ^ b) (sI μ 77 t (nI (st (b + 1)))) (h.keep (by rw [sI_ne _ _ _ (by decide)]) (by rw [sI_ne _ _ _ (by decide)]) (by rw [sI_ne _ _ _ (by decide)])) (fun a a1 a2 x hx hb => by rw [sI_ne _ _ _ (by decide)]; exact ht a a1 a2 x hx hb) (by omega) (by omega) (by omega) (or_pow_lt (by omega) r2) (by rw [show t + 1 - 1 = t by omega, e, cmp_or (by omega) r2]) (fun i hi => by
        rw [sI_at, upd_at]
        by_cases z : i = t
        · rw [if_pos z, z, l2]
        · rw [if_neg z]; exact ho i (by omega))
      rw [show t + 1 - 1 = t by omega, l2] at q1
      exact ⟨μ', q1, f1.trans q2, by rw [q3, sI_ne _ _ _ (by decide)], q4⟩
