/-! PURE 69: two on their legs -/
theorem Jmax64 (N : Nat) {a b : Int} (a1 : -2 ^ 63 ≤ a) (a2 : a < 2 ^ 63) (b1 : -2 ^ 63 ≤ b) (b2 : b < 2 ^ 63) (μ : Mm) : f_Jm_max_f86c9 N (zL a) (zL b) μ = some (zL (max a b), μ) := by
  unfold f_Jm_max_f86c9
  by_cases c : a < b
  · rw [if_pos ((cmp_lt64 _ _).mpr (by rw [zL_toInt a1 a2, zL_toInt b1 b2]; exact c)), show max a b = b by omega]
  · rw [if_neg (fun q => c (by have := (cmp_lt64 _ _).mp q; rw [zL_toInt a1 a2, zL_toInt b1 b2] at this; exact this)), show max a b = a by omega]
theorem Jmin64 (N : Nat) {a b : Int} (a1 : -2 ^ 63 ≤ a) (a2 : a < 2 ^ 63) (b1 : -2 ^ 63 ≤ b) (b2 : b < 2 ^ 63) (μ : Mm) : f_Jm_min_f86c9 N (zL a) (zL b) μ = some (zL (min a b), μ) := by
  unfold f_Jm_min_f86c9
  by_cases c : b < a
  · rw [if_pos ((cmp_gt _ _).mpr (by rw [zL_toInt a1 a2, zL_toInt b1 b2]; exact c)), show min a b = b by omega]
  · rw [if_neg (fun q => c (by have := (cmp_gt _ _).mp q; rw [zL_toInt a1 a2, zL_toInt b1 b2] at this; exact this)), show min a b = a by omega]
theorem mulG (u s : Int) : u * 27720 * s = s * u * 27720 := by rw [Int.mul_right_comm, Int.mul_comm u s]
theorem same_time {x A B q d s r : Int} (hd : d = s - r) (d0 : d ≠ 0) (hq : q * d = 27720) : (x - A * 27720) * s = (x - B * 27720) * r ↔ x = (s * A - r * B) * q := by
  rw [Int.sub_mul, Int.sub_mul, mulG, mulG]
  have e1 : (s * A - r * B) * q * d = (s * A - r * B) * 27720 := by rw [Int.mul_assoc, hq]
  have e2 : x * d = x * s - x * r := by rw [hd, Int.mul_sub]
  constructor
  · intro h
    refine Int.eq_of_mul_eq_mul_right d0 ?_
    rw [e1, e2]; omega
  · intro h
    rw [← h, e2] at e1
    omega
theorem towards_time {x A B q d s r w : Int} (hd : d = s + r) (d0 : d ≠ 0) (hq : q * d = 27720) : (x - A * 27720) * s = w * 27720 - (x - B * 27720) * r ↔ x = (w + s * A + r * B) * q := by
  rw [Int.sub_mul, Int.sub_mul, mulG, mulG]
  have e1 : (w + s * A + r * B) * q * d = (w + s * A + r * B) * 27720 := by rw [Int.mul_assoc, hq]
  have e2 : x * d = x * s + x * r := by rw [hd, Int.mul_add]
  constructor
  · intro h
    refine Int.eq_of_mul_eq_mul_right d0 ?_
    rw [e1, e2]; omega
  · intro h
    rw [← h, e2] at e1
    omega
/-- one leg of one who goes: comes, leaves and ends in parts -/
def Seg (D : Da) (j h n s : Nat) (C L E : Int) : Prop := (-2 ^ 40 ≤ C ∧ C ≤ L ∧ L ≤ E ∧ E ≤ 2 ^ 40 ∧ h < 16 ∧ n < 16 ∧ s ≤ 6) ∧ (L < E → h ≠ n ∧ 1 ≤ s ∧ (s : Int) * (E - L) = 60 * D.wn h n) ∧ ∀ x : Int, C * 27720 ≤ x → x < E * 27720 → (x ≤ L * 27720 → D.pz j x = (h, h, 0)) ∧ (L * 27720 < x → D.pz j x = wlP h n ((x - L * 27720) * s).toNat (60 * D.wn h n * 27720))
def StV (q h n s : Nat) (C L E : Int) (μ : Mm) : Prop := μ.1 q 3 = nI h ∧ μ.1 q 4 = nI n ∧ μ.1 q 5 = nI s ∧ μ.2 q 6 = zL C ∧ μ.2 q 7 = zL L ∧ μ.2 q 8 = zL E
theorem Seg.way {D : Da} {j h n s : Nat} {C L E : Int} (S : Seg D j h n s C L E) {x : Int} (h1 : L * 27720 ≤ x) (h2 : x < E * 27720) : h ≠ n ∧ 1 ≤ s ∧ (s : Int) * (E - L) = 60 * D.wn h n ∧ 0 ≤ (x - L * 27720) * s ∧ (x - L * 27720) * s < 60 * D.wn h n * 27720 := by
  obtain ⟨a, b, c⟩ := S.2.1 (by omega)
  refine ⟨a, b, c, Int.mul_nonneg (by omega) (by omega), ?_⟩
  have : (x - L * 27720) * s < ((E - L) * 27720) * s := Int.mul_lt_mul_of_pos_right (by omega) (by omega)
  rw [mulG, c] at this
  exact this
/-- both are under way: when they are at one place -/
theorem seg_walk {D : Da} (I : DI D) {a b h n s h' n' s' : Nat} {C L E C' L' E' : Int} (S : Seg D a h n s C L E) (T : Seg D b h' n' s' C' L' E') {x : Int} (h1 : L * 27720 < x) (h2 : x < E * 27720) (h3 : L' * 27720 < x) (h4 : x < E' * 27720) : D.pz a x = D.pz b x ↔ (h = h' ∧ n = n' ∧ (x - L * 27720) * s = (x - L' * 27720) * s') ∨ (h = n' ∧ n = h' ∧ (x - L * 27720) * s = (s : Int) * (E - L) * 27720 - (x - L' * 27720) * s') := by
  obtain ⟨a1, a2, a3, a4, a5⟩ := S.way (by omega) h2
  obtain ⟨b1, b2, b3, b4, b5⟩ := T.way (by omega) h4
  have hS := S.1
  have hT := T.1
  rw [(S.2.2 x (by omega) h2).2 h1, (T.2.2 x (by omega) h4).2 h3]
  by_cases e1 : h = h' ∧ n = n'
  · have we : D.wn h' n' = D.wn h n := by rw [e1.1, e1.2]
    rw [we] at b5 ⊢
    rw [wlP_eq a1 b1 (by omega) (by omega)]
    constructor
    · rintro (z | z)
      · exact Or.inl ⟨z.1, z.2.1, by omega⟩
      · exact absurd (e1.1.symm.trans z.1) b1
    · rintro (z | z)
      · exact Or.inl ⟨z.1, z.2.1, by rw [z.2.2]⟩
      · exact absurd (e1.1.symm.trans z.1) b1
  · by_cases e2 : h = n' ∧ n = h'
    · have we : D.wn h' n' = D.wn h n := by rw [e2.1, e2.2]; exact wn_sym I (by omega) (by omega)
      rw [we] at b5 ⊢
      rw [wlP_eq a1 b1 (by omega) (by omega), a3]
      constructor
      · rintro (z | z)
        · exact absurd ⟨z.1, z.2.1⟩ e1
        · exact Or.inr ⟨z.1, z.2.1, by omega⟩
      · rintro (z | z)
        · exact absurd ⟨z.1, z.2.1⟩ e1
        · exact Or.inr ⟨z.1, z.2.1, by omega⟩
    · constructor
      · exact fun z => absurd z (wlP_ne a1 b1 e1 e2)
      · rintro (z | z)
        · exact absurd ⟨z.1, z.2.1⟩ e1
        · exact absurd ⟨z.1, z.2.1⟩ e2
/-- one rests: when they are at one place -/
theorem seg_rest {D : Da} {a b h n s h' n' s' : Nat} {C L E C' L' E' : Int} (S : Seg D a h n s C L E) (T : Seg D b h' n' s' C' L' E') {x : Int} (c1 : C * 27720 ≤ x) (c2 : C' * 27720 ≤ x) (h2 : x < E * 27720) (h4 : x < E' * 27720) (r : x ≤ L * 27720 ∨ x ≤ L' * 27720) : D.pz a x = D.pz b x ↔ (h = h' ∧ x ≤ L * 27720 ∧ x ≤ L' * 27720) := by
  have p1 := S.2.2 x c1 h2
  have p2 := T.2.2 x c2 h4
  by_cases y1 : x ≤ L * 27720
  · rw [p1.1 y1]
    by_cases y2 : x ≤ L' * 27720
    · rw [p2.1 y2]
      constructor
      · exact fun z => ⟨congrArg Prod.fst z, y1, y2⟩
      · exact fun z => by rw [z.1]
    · obtain ⟨b1, _⟩ := T.way (x := x) (by omega) h4
      rw [p2.2 (by omega)]
      constructor
      · exact fun z => absurd z.symm (wlP_post b1)
      · exact fun z => absurd z.2.2 y2
  · have y2 : x ≤ L' * 27720 := by omega
    obtain ⟨b1, _⟩ := S.way (x := x) (by omega) h2
    rw [p2.1 y2, p1.2 (by omega)]
    constructor
    · exact fun z => absurd z (wlP_post b1)
    · exact fun z => absurd z.2.1 y1
