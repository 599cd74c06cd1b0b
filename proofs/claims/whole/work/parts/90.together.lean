/-! PURE 70: the first time within two legs -/
theorem mulb {u v : Int} {p q : Nat} (h1 : u.natAbs ≤ p) (h2 : v.natAbs ≤ q) : (u * v).natAbs ≤ p * q := by
  rw [Int.natAbs_mul]; exact Nat.mul_le_mul h1 h2
theorem tdG {d : Int} (h1 : -12 ≤ d) (h2 : d ≤ 12) (h0 : d ≠ 0) : (27720 : Int).tdiv d * d = 27720 := by
  have : d = -12 ∨ d = -11 ∨ d = -10 ∨ d = -9 ∨ d = -8 ∨ d = -7 ∨ d = -6 ∨ d = -5 ∨ d = -4 ∨ d = -3 ∨ d = -2 ∨ d = -1 ∨ d = 1 ∨ d = 2 ∨ d = 3 ∨ d = 4 ∨ d = 5 ∨ d = 6 ∨ d = 7 ∨ d = 8 ∨ d = 9 ∨ d = 10 ∨ d = 11 ∨ d = 12 := by omega
  rcases this with rfl | rfl | rfl | rfl | rfl | rfl | rfl | rfl | rfl | rfl | rfl | rfl | rfl | rfl | rfl | rfl | rfl | rfl | rfl | rfl | rfl | rfl | rfl | rfl <;> rfl
theorem tdB {d q : Int} (h : q * d = 27720) : q.natAbs ≤ 27720 := by
  have h1 : q.natAbs * d.natAbs = 27720 := by rw [← Int.natAbs_mul, h]; rfl
  have h2 : 0 < d.natAbs := by
    rcases Nat.eq_zero_or_pos d.natAbs with z | z
    · rw [z] at h1; omega
    · exact z
  have h3 : q.natAbs * 1 ≤ q.natAbs * d.natAbs := Nat.mul_le_mul_left _ h2
  omega
def FT (D : Da) (a b : Nat) (B T : Int) (r : Int64) : Prop := (r = -1 ∧ ∀ x, B ≤ x → x < T → ¬ D.pz a x = D.pz b x) ∨ ∃ x, r = zL x ∧ B ≤ x ∧ x < T ∧ D.pz a x = D.pz b x ∧ ∀ y, B ≤ y → y < x → ¬ D.pz a y = D.pz b y
theorem FT.before {D : Da} {a b : Nat} {B P T : Int} {r : Int64} (h : FT D a b P T r) (hp : B ≤ P) (n : ∀ x, B ≤ x → x < P → x < T → ¬ D.pz a x = D.pz b x) : FT D a b B T r := by
  rcases h with ⟨h1, h2⟩ | ⟨x, h1, h2, h3, h4, h5⟩
  · refine Or.inl ⟨h1, fun x x1 x2 => ?_⟩
    by_cases c : x < P
    · exact n x x1 c x2
    · exact h2 x (by omega) x2
  · refine Or.inr ⟨x, h1, by omega, h3, h4, fun y y1 y2 => ?_⟩
    by_cases c : y < P
    · exact n y y1 c (by omega)
    · exact h5 y (by omega) y2
theorem seg_same {D : Da} (I : DI D) {a b h n s h' n' s' : Nat} {C L E C' L' E' B : Int} (S : Seg D a h n s C L E) (T : Seg D b h' n' s' C' L' E') (e1 : h = h') (e2 : n = n') (nb : ¬ (h = h' ∧ B ≤ L * 27720 ∧ B ≤ L' * 27720)) {x : Int} (x1 : B ≤ x) (l1 : L * 27720 ≤ x) (l2 : L' * 27720 ≤ x) (h2 : x < E * 27720) (h4 : x < E' * 27720) : D.pz a x = D.pz b x ↔ (x - L * 27720) * s = (x - L' * 27720) * s' := by
  obtain ⟨a1, a2, a3, a4, a5⟩ := S.way l1 h2
  obtain ⟨b1, b2, b3, b4, b5⟩ := T.way l2 h4
  have hS := S.1
  have hT := T.1
  by_cases c : L * 27720 < x ∧ L' * 27720 < x
  · rw [seg_walk I S T c.1 h2 c.2 h4]
    constructor
    · rintro (z | z)
      · exact z.2.2
      · exact absurd (e1.symm.trans z.1) b1
    · exact fun z => Or.inl ⟨e1, e2, z⟩
  · rw [seg_rest S T (by omega) (by omega) h2 h4 (by omega)]
    constructor
    · exact fun z => absurd ⟨e1, by omega, by omega⟩ nb
    · intro z
      refine absurd ⟨e1, ?_⟩ nb
      by_cases d : x = L * 27720
      · have u : x - L * 27720 = 0 := by omega
        rw [u, Int.zero_mul] at z
        have : x - L' * 27720 = 0 := by
          rcases Int.mul_eq_zero.mp z.symm with k | k
          · exact k
          · omega
        omega
      · have u : x - L' * 27720 = 0 := by omega
        rw [u, Int.zero_mul] at z
        have : x - L * 27720 = 0 := by
          rcases Int.mul_eq_zero.mp z with k | k
          · exact k
          · omega
        omega
theorem seg_tow {D : Da} (I : DI D) {a b h n s h' n' s' : Nat} {C L E C' L' E' : Int} (S : Seg D a h n s C L E) (T : Seg D b h' n' s' C' L' E') (e1 : h = n') (e2 : n = h') {x : Int} (l1 : L * 27720 ≤ x) (l2 : L' * 27720 ≤ x) (h2 : x < E * 27720) (h4 : x < E' * 27720) : D.pz a x = D.pz b x ↔ (x - L * 27720) * s = (s : Int) * (E - L) * 27720 - (x - L' * 27720) * s' := by
  obtain ⟨a1, a2, a3, a4, a5⟩ := S.way l1 h2
  obtain ⟨b1, b2, b3, b4, b5⟩ := T.way l2 h4
  have hS := S.1
  have hT := T.1
  have we : D.wn h' n' = D.wn h n := by rw [e1, e2]; exact wn_sym I (by omega) (by omega)
  by_cases c : L * 27720 < x ∧ L' * 27720 < x
  · rw [seg_walk I S T c.1 h2 c.2 h4]
    constructor
    · rintro (z | z)
      · exact absurd (z.1.symm.trans e1) b1
      · exact z.2.2
    · exact fun z => Or.inr ⟨e1, e2, z⟩
  · rw [seg_rest S T (by omega) (by omega) h2 h4 (by omega)]
    constructor
    · exact fun z => absurd (z.1.symm.trans e1) b1
    · intro z
      rw [a3] at z
      rw [we] at b5
      by_cases d : x = L * 27720
      · have u : x - L * 27720 = 0 := by omega
        rw [u, Int.zero_mul] at z
        omega
      · have u : x - L' * 27720 = 0 := by omega
        rw [u, Int.zero_mul] at z
        omega
theorem pick_time {D : Da} {a b : Nat} {P T t : Int} (tb : t.natAbs < 2 ^ 62) (h0 : 0 ≤ P) (pb : P < 2 ^ 62) (tb2 : T.natAbs < 2 ^ 62) (h : ∀ x, P ≤ x → x < T → (D.pz a x = D.pz b x ↔ x = t)) (μ : Mm) : ∃ r, (if lg_cmp (zL t) (zL P) < (0 : Int32) then (some (-1, μ) : Option (Int64 × Mm)) else if (0 : Int32) ≤ lg_cmp (zL t) (zL T) then some (-1, μ) else some (zL t, μ)) = some (r, μ) ∧ FT D a b P T r := by
  have e1 := zL_toInt (z := t) (by omega) (by omega)
  have e2 := zL_toInt (z := P) (by omega) (by omega)
  have e3 := zL_toInt (z := T) (by omega) (by omega)
  simp only [cmp_lt64, cmp_ge64, e1, e2, e3]
  by_cases c : t < P
  · rw [if_pos c]
    exact ⟨_, rfl, Or.inl ⟨rfl, fun x x1 x2 q => by have := (h x x1 x2).mp q; omega⟩⟩
  · rw [if_neg c]
    by_cases d : T ≤ t
    · rw [if_pos d]
      exact ⟨_, rfl, Or.inl ⟨rfl, fun x x1 x2 q => by have := (h x x1 x2).mp q; omega⟩⟩
    · rw [if_neg d]
      exact ⟨_, rfl, Or.inr ⟨t, rfl, by omega, by omega, (h t (by omega) (by omega)).mpr rfl, fun y y1 y2 q => by have := (h y y1 (by omega)).mp q; omega⟩⟩
