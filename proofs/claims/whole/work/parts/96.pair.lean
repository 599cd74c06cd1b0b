/-! PURE 76: the joint time of two -/
theorem j2_comm {D : Da} (I : DI D) {a b : Nat} (ha : a < D.w) (ga : D.go a = true) : D.j2 a b = D.j2 b a := by
  have pa := I.per1 ha ga
  have g0 := Nat.gcd_pos_of_pos_left (D.per b) pa.1
  obtain ⟨q, hq⟩ := Nat.gcd_dvd_right (D.per a) (D.per b)
  obtain ⟨p, hp⟩ := Nat.gcd_dvd_left (D.per a) (D.per b)
  unfold Da.j2
  rw [Nat.gcd_comm (D.per b) (D.per a)]
  generalize Nat.gcd (D.per a) (D.per b) = g at *
  rw [hp, hq, Nat.mul_div_cancel_left _ g0, Nat.mul_div_cancel_left _ g0, Nat.mul_left_comm, Nat.mul_left_comm q g p, Nat.mul_comm p q]
theorem jn_skip (D : Da) (S : Nat → Bool) {i : Nat} : ∀ d, (∀ x, i ≤ x → x < i + d → S x = false) → D.jn S (i + d) = D.jn S i
  | 0, _ => rfl
  | d + 1, h => by
    show (if D.jn S (i + d) ≤ 14400 ∧ S (i + d) = true then _ else D.jn S (i + d)) = _
    rw [if_neg (fun q => by rw [h (i + d) (by omega) (by omega)] at q; cases q.2)]
    exact jn_skip D S d (fun x x1 x2 => h x x1 (by omega))
theorem jn_pair {D : Da} (I : DI D) {a b : Nat} (hab : a < b) (hb : b < D.w) (ga : D.go a = true) (S : Nat → Bool) (hS : ∀ x, S x = (decide (a = x) || decide (b = x))) : D.jn S D.w = if D.per a ≤ 14400 then D.j2 a b else D.per a := by
  have ff : ∀ x, x ≠ a → x ≠ b → S x = false := fun x h1 h2 => by rw [hS, decide_eq_false (fun q => h1 q.symm), decide_eq_false (fun q => h2 q.symm)]; rfl
  have sa : S a = true := by rw [hS, decide_eq_true rfl]; rfl
  have sb : S b = true := by rw [hS, decide_eq_true (show b = b from rfl), Bool.or_true]
  have e0 : D.jn S a = 1 := by
    have := jn_skip D S (i := 0) a (fun x x1 x2 => ff x (by omega) (by omega))
    rw [Nat.zero_add] at this
    exact this
  have e1 : D.jn S (a + 1) = D.per a := by
    show (if D.jn S a ≤ 14400 ∧ S a = true then D.jn S a / Nat.gcd (D.jn S a) (D.per a) * D.per a else D.jn S a) = D.per a
    rw [e0, if_pos ⟨by decide, sa⟩, Nat.gcd_one_left, Nat.div_self (by decide), Nat.one_mul]
  have e2 : D.jn S b = D.per a := by
    have := jn_skip D S (i := a + 1) (b - (a + 1)) (fun x x1 x2 => ff x (by omega) (by omega))
    rw [show a + 1 + (b - (a + 1)) = b by omega] at this
    rw [this, e1]
  have e3 : D.jn S (b + 1) = if D.per a ≤ 14400 then D.j2 a b else D.per a := by
    show (if D.jn S b ≤ 14400 ∧ S b = true then D.jn S b / Nat.gcd (D.jn S b) (D.per b) * D.per b else D.jn S b) = _
    rw [e2]
    by_cases c : D.per a ≤ 14400
    · rw [if_pos ⟨c, sb⟩, if_pos c]; rfl
    · rw [if_neg (fun q => c q.1), if_neg c]
  have := jn_skip D S (i := b + 1) (D.w - (b + 1)) (fun x x1 x2 => ff x (by omega) (by omega))
  rw [show b + 1 + (D.w - (b + 1)) = D.w by omega] at this
  rw [this, e3]
theorem Cr_pair (N : Nat) (hN : 130 ≤ N) {D : Da} (I : DI D) {a b : Nat} (ha : a < D.w) (hb : b < D.w) (ga : D.go a = true) (gb : D.go b = true) (ne : a ≠ b) (μ : Mm) (X : DX D μ) (C : CrewOk D μ) : f_Cr_jointOf N (((1 : Int32) <<< (nI a &&& 31)) ||| ((1 : Int32) <<< (nI b &&& 31))) μ = some (if 14400 < D.j2 a b then -6 else nI (D.j2 a b), μ) := by
  have w8 := I.w8
  have l1 : 2 ^ a < 2 ^ 8 := Nat.pow_lt_pow_right (by decide) (by omega)
  have l2 : 2 ^ b < 2 ^ 8 := Nat.pow_lt_pow_right (by decide) (by omega)
  have l3 : 2 ^ a ||| 2 ^ b < 2 ^ 8 := Nat.or_lt_two_pow l1 l2
  have tb : ∀ x, (2 ^ a ||| 2 ^ b).testBit x = (decide (a = x) || decide (b = x)) := fun x => by rw [Nat.testBit_or, Nat.testBit_two_pow, Nat.testBit_two_pow]
  rw [shl1 (by omega), shl1 (by omega), orN (by omega) (by omega), Cr_jointOf_eq N hN I (by omega) (by
    intro x hx h
    rw [tb, Bool.or_eq_true, decide_eq_true_eq, decide_eq_true_eq] at h
    rcases h with rfl | rfl
    · exact ga
    · exact gb) μ X C]
  have j := I.j2 ha hb ga gb
  have la := Nat.le_of_dvd j.1 j.2.2.1
  have lb := Nat.le_of_dvd j.1 j.2.2.2
  by_cases c : a < b
  · rw [jn_pair I c hb ga _ tb]
    by_cases d : D.per a ≤ 14400
    · rw [if_pos d]
    · rw [if_neg d, if_pos (by omega), if_pos (by omega)]
  · rw [jn_pair I (show b < a by omega) ha gb _ (fun x => by rw [tb, Bool.or_comm]), ← j2_comm I ha ga]
    by_cases d : D.per b ≤ 14400
    · rw [if_pos d]
    · rw [if_neg d, if_pos (by omega), if_pos (by omega)]
