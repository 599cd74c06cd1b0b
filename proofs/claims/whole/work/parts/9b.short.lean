/-! PURE 81: whether any two are spent, on both sides -/
theorem spent_out (N : Nat) (hN : 130 ≤ N) {D : Da} (I : DI D) (μ : Mm) (X : DX D μ) (C : CrewOk D μ) : ∀ (m a : Nat), a ≤ D.w → D.w < m + a → (∀ x y, x < a → x < y → y < D.w → D.go x = true → D.go y = true → D.j2 x y ≤ 14400) → (f_Cr_isAnyPairSpent_L2 N m (nI a) μ = some (0, μ) ∧ D.short) ∨ (f_Cr_isAnyPairSpent_L2 N m (nI a) μ = some (1, μ) ∧ ¬ D.short) := by
  have w8 := I.w8
  intro m
  induction m with
  | zero => intro a h1 h2; omega
  | succ m ih =>
    intro a h1 h2 h3
    rw [f_Cr_isAnyPairSpent_L2, X.w]
    simp only [← nI_succ]
    by_cases z : a = D.w
    · rw [if_pos (by rw [z]; exact nI_le (Nat.le_refl _) (by omega))]
      subst z
      exact Or.inl ⟨rfl, fun a b ab hb ga gb => h3 a b (by omega) ab hb ga gb⟩
    · rw [if_neg (nI_ge (by omega) (by omega))]
      rcases spent_in N hN I μ X C (show a < D.w by omega) (f_Cr_isAnyPairSpent_L2 N m) N (a + 1) (by omega) (by omega) (by omega) (fun x x1 x2 => by omega) with ⟨e, q⟩ | ⟨e, x, x1, x2, x3, x4, x5⟩
      · rw [e]
        exact ih (a + 1) (by omega) (by omega) (fun x y y1 y2 y3 g1 g2 => by
          by_cases c : x = a
          · subst c; exact q y y2 y3 g1 g2
          · exact h3 x y (by omega) y2 y3 g1 g2)
      · rw [e]
        exact Or.inr ⟨rfl, fun s => by
          have := s a x x1 x2 x3 x4
          omega⟩
theorem Cr_spent_eq (N : Nat) (hN : 130 ≤ N) {D : Da} (I : DI D) (μ : Mm) (X : DX D μ) (C : CrewOk D μ) : (f_Cr_isAnyPairSpent N μ = some (0, μ) ∧ D.short) ∨ (f_Cr_isAnyPairSpent N μ = some (1, μ) ∧ ¬ D.short) :=
  spent_out N hN I μ X C N 0 (by omega) (by have := I.w8; omega) (fun x y h => by omega)
theorem short_in (N : Nat) (hN : 130 ≤ N) {D : Da} (I : DI D) (μ : Mm) (M : DM D μ) (e0 : μ.1 0 27 = nI 0) {a : Nat} (ha : a < D.w) (k : Int32 → Int32 → Mm → Option (Int32 × Mm)) : ∀ (m b : Nat) (s : Bool), b ≤ a → a < m + b → ∃ s' : Bool, f_M_areShort_L14 N k m (b2 s) (nI a) (nI b) μ = k (b2 s') (nI (a + 1)) μ ∧ (s' = true ↔ s = true ∧ ∀ y, b ≤ y → y < a → D.go a = true → D.go y = true → D.j2 a y ≤ 14400) := by
  have w8 := I.w8
  intro m
  induction m with
  | zero => intro b s h1 h2; omega
  | succ m ih =>
    intro b s h1 h2
    rw [f_M_areShort_L14]
    unfold f_M_areShort_B64 f_M_areShort_B56 f_M_areShort_B52 f_M_areShort_B57
    simp only [← nI_succ]
    by_cases z : b = a
    · rw [if_pos (by rw [z]; exact nI_le (Nat.le_refl _) (by omega))]
      exact ⟨s, rfl, fun q => ⟨q, fun y y1 y2 => by omega⟩, fun q => q.1⟩
    · rw [if_neg (nI_ge (by omega) (by omega))]
      have ga := M_goes_eq N (by omega) I (L := 0) (by decide) ha μ M e0
      have gb := M_goes_eq N (by omega) I (L := 0) (by decide) (show b < D.w by omega) μ M e0
      rw [D.goL0] at ga gb
      have stp : ∀ (t : Bool), (t = true ↔ s = true ∧ (D.go a = true → D.go b = true → D.j2 a b ≤ 14400)) → ∃ s' : Bool, f_M_areShort_L14 N k m (b2 t) (nI a) (nI (b + 1)) μ = k (b2 s') (nI (a + 1)) μ ∧ (s' = true ↔ s = true ∧ ∀ y, b ≤ y → y < a → D.go a = true → D.go y = true → D.j2 a y ≤ 14400) := by
        intro t ht
        obtain ⟨s', k1, k2⟩ := ih (b + 1) t (by omega) (by omega)
        refine ⟨s', k1, ?_⟩
        rw [k2, ht]
        constructor
        · rintro ⟨⟨q1, q2⟩, q3⟩
          refine ⟨q1, fun y y1 y2 g1 g2 => ?_⟩
          by_cases c : y = b
          · subst c; exact q2 g1 g2
          · exact q3 y (by omega) y2 g1 g2
        · rintro ⟨q1, q2⟩
          exact ⟨⟨q1, q2 b (Nat.le_refl _) (by omega)⟩, fun y y1 y2 => q2 y (by omega) y2⟩
      cases s with
      | false =>
        rw [if_pos (show b2 false = 0 from rfl)]
        exact stp false ⟨fun q => (by cases q), fun q => (by cases q.1)⟩
      | true =>
        rw [if_neg (show ¬ b2 true = 0 by decide), ga, bnS]
        cases hga : D.go a
        · rw [if_pos (show b2 false = 0 from rfl)]
          rw [hga] at stp
          rw [hga] at ih
          exact stp true ⟨fun _ => ⟨rfl, fun q => (by cases q)⟩, fun _ => rfl⟩
        · rw [if_neg (show ¬ b2 true = 0 by decide), gb, bnS]
          cases hgb : D.go b
          · rw [if_pos (show b2 false = 0 from rfl)]
            rw [hga, hgb] at stp
            exact stp true ⟨fun _ => ⟨rfl, fun _ q => (by cases q)⟩, fun _ => rfl⟩
          · have j := I.j2 ha (show b < D.w by omega) hga hgb
            rw [if_neg (show ¬ b2 true = 0 by decide), M_jointOf_eq N (by omega) I ha (by omega) hga hgb μ M, bnS]
            rw [hga, hgb] at stp
            by_cases c : 14400 < D.j2 a b
            · rw [if_pos ((cmp_gt _ _).mpr (by rw [pk_lT (by omega)]; exact Int.ofNat_lt.mpr c))]
              exact stp false ⟨fun q => (by cases q), fun q => absurd (q.2 rfl rfl) (by omega)⟩
            · rw [if_neg (fun q => by have := (cmp_gt _ _).mp q; rw [pk_lT (by omega), show (14400 : Int64).toInt = 14400 from rfl] at this; omega)]
              exact stp true ⟨fun _ => ⟨rfl, fun _ _ => by omega⟩, fun _ => rfl⟩
theorem short_out (N : Nat) (hN : 130 ≤ N) {D : Da} (I : DI D) (μ : Mm) (M : DM D μ) (e0 : μ.1 0 27 = nI 0) : ∀ (m a : Nat) (s : Bool), a ≤ D.w → D.w < m + a → ∃ s' : Bool, f_M_areShort_L4 N m (b2 s) (nI a) μ = some (b2 s', μ) ∧ (s' = true ↔ s = true ∧ ∀ x, a ≤ x → x < D.w → ∀ y, y < x → D.go x = true → D.go y = true → D.j2 x y ≤ 14400) := by
  have w8 := I.w8
  intro m
  induction m with
  | zero => intro a s h1 h2; omega
  | succ m ih =>
    intro a s h1 h2
    rw [f_M_areShort_L4, M.w]
    by_cases z : a = D.w
    · rw [if_pos (by rw [z]; exact nI_le (Nat.le_refl _) (by omega)), if_pos (by cases s <;> rfl)]
      exact ⟨s, rfl, fun q => ⟨q, fun x x1 x2 => by omega⟩, fun q => q.1⟩
    · rw [if_neg (nI_ge (by omega) (by omega))]
      obtain ⟨s1, k1, k2⟩ := short_in N hN I μ M e0 (show a < D.w by omega) (f_M_areShort_L4 N m) N 0 s (by omega) (by omega)
      rw [show nI 0 = (0 : Int32) from rfl] at k1
      rw [k1]
      obtain ⟨s2, l1, l2⟩ := ih (a + 1) s1 (by omega) (by omega)
      refine ⟨s2, l1, ?_⟩
      rw [l2, k2]
      constructor
      · rintro ⟨⟨q1, q2⟩, q3⟩
        refine ⟨q1, fun x x1 x2 y y1 => ?_⟩
        by_cases c : x = a
        · subst c; exact q2 y (by omega) y1
        · exact q3 x (by omega) x2 y y1
      · rintro ⟨q1, q2⟩
        exact ⟨⟨q1, fun y _ y2 => q2 a (Nat.le_refl _) (by omega) y y2⟩, fun x x1 x2 => q2 x (by omega) x2⟩
theorem M_areShort_eq (N : Nat) (hN : 130 ≤ N) {D : Da} (I : DI D) (μ : Mm) (M : DM D μ) (e0 : μ.1 0 27 = nI 0) : (f_M_areShort N μ = some (1, μ) ∧ D.short) ∨ (f_M_areShort N μ = some (0, μ) ∧ ¬ D.short) := by
  obtain ⟨s, k1, k2⟩ := short_out N hN I μ M e0 N 0 true (by omega) (by have := I.w8; omega)
  have k1' : f_M_areShort N μ = some (b2 s, μ) := k1
  have iff : s = true ↔ D.short := by
    rw [k2]
    constructor
    · intro q a b ab hb ga gb
      rw [j2_comm I (by omega) ga]
      exact q.2 b (by omega) hb a ab gb ga
    · intro q
      refine ⟨rfl, fun x _ x2 y y1 gx gy => ?_⟩
      rw [j2_comm I x2 gx]
      exact q y x y1 x2 gy gx
  rw [k1']
  cases s with
  | true => exact Or.inl ⟨rfl, iff.mp rfl⟩
  | false => exact Or.inr ⟨rfl, fun q => absurd (iff.mpr q) (by decide)⟩
theorem short2 {D : Da} (I : DI D) (h : D.short) {a b : Nat} (ha : a < D.w) (hb : b < D.w) (ga : D.go a = true) (gb : D.go b = true) (ne : a ≠ b) : D.j2 a b ≤ 14400 := by
  rcases Nat.lt_or_gt_of_ne ne with c | c
  · exact h a b c hb ga gb
  · rw [j2_comm I ha ga]
    exact h b a c ha gb ga
