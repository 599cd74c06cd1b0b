/-! PURE 80: whether every two come round together in time -/
def Da.short (D : Da) : Prop := ∀ a b, a < b → b < D.w → D.go a = true → D.go b = true → D.j2 a b ≤ 14400
theorem spent_in (N : Nat) (hN : 130 ≤ N) {D : Da} (I : DI D) (μ : Mm) (X : DX D μ) (C : CrewOk D μ) {a : Nat} (ha : a < D.w) (k : Int32 → Mm → Option (Int32 × Mm)) : ∀ (m b : Nat), a < b → b ≤ D.w → D.w < m + b → (∀ x, a < x → x < b → D.go a = true → D.go x = true → D.j2 a x ≤ 14400) → (f_Cr_isAnyPairSpent_L14 N k m (nI a) (nI b) μ = k (nI (a + 1)) μ ∧ (∀ x, a < x → x < D.w → D.go a = true → D.go x = true → D.j2 a x ≤ 14400)) ∨ (f_Cr_isAnyPairSpent_L14 N k m (nI a) (nI b) μ = some (1, μ) ∧ ∃ x, a < x ∧ x < D.w ∧ D.go a = true ∧ D.go x = true ∧ 14400 < D.j2 a x) := by
  have w8 := I.w8
  intro m
  induction m with
  | zero => intro b h1 h2 h3; omega
  | succ m ih =>
    intro b h1 h2 h3 h4
    rw [f_Cr_isAnyPairSpent_L14, X.w]
    unfold f_Cr_isAnyPairSpent_B57 f_Cr_isAnyPairSpent_B51
    rw [← nI_succ, ← nI_succ]
    by_cases z : b = D.w
    · rw [if_pos (by rw [z]; exact nI_le (Nat.le_refl _) (by omega))]
      subst z
      exact Or.inl ⟨rfl, h4⟩
    · have hb : b < D.w := by omega
      rw [if_neg (nI_ge (by omega) (by omega))]
      have l1 : 2 ^ a < 2 ^ 8 := Nat.pow_lt_pow_right (by decide) (by omega)
      have l2 : 2 ^ b < 2 ^ 8 := Nat.pow_lt_pow_right (by decide) (by omega)
      have l3 : 2 ^ a ||| 2 ^ b < 2 ^ 8 := Nat.or_lt_two_pow l1 l2
      have l4 := bsN_lt D.go D.w
      have l5 : 2 ^ D.w ≤ 2 ^ 8 := Nat.pow_le_pow_right (by decide) w8
      have cond : (μ.1 11 2 &&& (((1 : Int32) <<< (nI a &&& 31)) ||| ((1 : Int32) <<< (nI b &&& 31))) = (((1 : Int32) <<< (nI a &&& 31)) ||| ((1 : Int32) <<< (nI b &&& 31)))) ↔ (D.go a = true ∧ D.go b = true) := by
        rw [C.1, shl1 (by omega), shl1 (by omega), orN (by omega) (by omega), andN (by omega) (by omega), nI_eq (Nat.lt_of_le_of_lt Nat.and_le_right (by omega)) (by omega)]
        have tb : ∀ x, (bsN D.go D.w &&& (2 ^ a ||| 2 ^ b)).testBit x = ((decide (x < D.w) && D.go x) && (decide (a = x) || decide (b = x))) := fun x => by rw [Nat.testBit_and, bsN_tb, Nat.testBit_or, Nat.testBit_two_pow, Nat.testBit_two_pow]
        have tb2 : ∀ x, (2 ^ a ||| 2 ^ b).testBit x = (decide (a = x) || decide (b = x)) := fun x => by rw [Nat.testBit_or, Nat.testBit_two_pow, Nat.testBit_two_pow]
        constructor
        · intro q
          have qa := tb a
          have qb := tb b
          rw [q, tb2, decide_eq_true ha, decide_eq_true (show a = a from rfl), Bool.true_or, Bool.true_and, Bool.and_true] at qa
          rw [q, tb2, decide_eq_true hb, decide_eq_true (show b = b from rfl), Bool.or_true, Bool.true_and, Bool.and_true] at qb
          exact ⟨qa.symm, qb.symm⟩
        · intro q
          apply Nat.eq_of_testBit_eq
          intro x
          rw [tb, tb2]
          by_cases e1 : a = x
          · subst e1; rw [decide_eq_true ha, q.1]; rfl
          · by_cases e2 : b = x
            · subst e2; rw [decide_eq_true hb, q.2]; rfl
            · rw [decide_eq_false e1, decide_eq_false e2, Bool.or_false, Bool.and_false]
      simp only []
      by_cases g : D.go a = true ∧ D.go b = true
      · have j := I.j2 ha hb g.1 g.2
        rw [if_pos (cond.mpr g), Cr_pair N hN I ha hb g.1 g.2 (by omega) μ X C, bnS]
        by_cases s : 14400 < D.j2 a b
        · rw [if_pos s, if_neg (by decide)]
          exact Or.inr ⟨rfl, b, h1, hb, g.1, g.2, s⟩
        · rw [if_neg s, if_pos (show (1 : Int32) ≤ nI (D.j2 a b) from (nIc (a := 1) (by decide) (by omega)).mpr j.1)]
          exact ih (b + 1) (by omega) (by omega) (by omega) (fun x x1 x2 y1 y2 => by
            by_cases e : x = b
            · subst e; omega
            · exact h4 x x1 (by omega) y1 y2)
      · rw [if_neg (fun q => g (cond.mp q))]
        exact ih (b + 1) (by omega) (by omega) (by omega) (fun x x1 x2 y1 y2 => by
          by_cases e : x = b
          · subst e; exact absurd ⟨y1, y2⟩ g
          · exact h4 x x1 (by omega) y1 y2)
