/-! PURE 71: the class's first time within two legs -/
theorem sameWay_eq (N : Nat) {D : Da} (I : DI D) {a b h n s h' n' s' : Nat} {C L E C' L' E' B P T : Int} (S : Seg D a h n s C L E) (S' : Seg D b h' n' s' C' L' E') (e1 : h = h') (e2 : n = n') (nb : ¬ (h = h' ∧ B ≤ L * 27720 ∧ B ≤ L' * 27720)) (h0 : 0 ≤ P) (bp : B ≤ P) (l1 : L * 27720 ≤ P) (l2 : L' * 27720 ≤ P) (pt : P < T) (t1 : T ≤ E * 27720) (t2 : T ≤ E' * 27720) (μ : Mm) (V : StV 72 h n s C L E μ) (V' : StV 73 h' n' s' C' L' E' μ) : ∃ r, f_Me_sameWay N (zL P) (zL T) μ = some (r, μ) ∧ FT D a b P T r := by
  obtain ⟨_, _, v3, _, v5, _⟩ := V
  obtain ⟨_, _, u3, _, u5, _⟩ := V'
  obtain ⟨a1, a2, a3, a4, a5⟩ := S.way l1 (by omega)
  obtain ⟨b1, b2, b3, b4, b5⟩ := S'.way l2 (by omega)
  have hS := S.1
  have hT := S'.1
  have key : ∀ x, P ≤ x → x < T → (D.pz a x = D.pz b x ↔ (x - L * 27720) * s = (x - L' * 27720) * s') := fun x x1 x2 => seg_same I S S' e1 e2 nb (by omega) (by omega) (by omega) (by omega) (by omega)
  unfold f_Me_sameWay f_Me_sameWay_B112
  simp only [v3, v5, u3, u5]
  have ex : (nI s - nI s').toInt64 = zL ((s : Int) - s') := by rw [zI_n, zI_n, zI_sub, i2l, zI_toInt (by omega) (by omega)]
  have s1 : (nI s).toInt64 = zL (s : Int) := i2lN (by omega)
  have s2 : (nI s').toInt64 = zL (s' : Int) := i2lN (by omega)
  rw [ex, s1, s2]
  by_cases c : (s : Int) - s' = 0
  · rw [c, if_pos (show lg_cmp (zL 0) 0 = 0 from (lg_cmp_eq _ _).mpr rfl)]
    have se : (s' : Int) = s := by omega
    by_cases d : L = L'
    · rw [if_pos ((lg_cmp_eq _ _).mpr (by rw [d]))]
      refine ⟨_, rfl, Or.inr ⟨P, rfl, by omega, pt, (key P (by omega) pt).mpr (by rw [d, se]), fun y y1 y2 => by omega⟩⟩
    · rw [if_neg (fun q => d ((zL_eq (by omega) (by omega) (by omega) (by omega)).mp ((lg_cmp_eq _ _).mp q)))]
      refine ⟨_, rfl, Or.inl ⟨rfl, fun x x1 x2 q => ?_⟩⟩
      have z := (key x x1 x2).mp q
      rw [se] at z
      have := Int.eq_of_mul_eq_mul_right (show (s : Int) ≠ 0 by omega) z
      omega
  · have nz : ¬ zL ((s : Int) - s') = 0 := fun q => c ((zL_eq (b := 0) (by omega) (by omega) (by omega) (by omega)).mp q)
    rw [if_neg (fun q => nz ((lg_cmp_eq _ _).mp q)), if_neg nz, show (27720 : Int64) = zL 27720 from rfl, zL_div (by decide) (by decide) (by omega) (by omega), zL_mul, zL_mul, zL_sub, zL_mul]
    have hq := tdG (d := (s : Int) - s') (by omega) (by omega) c
    have hq2 := tdB hq
    generalize (27720 : Int).tdiv ((s : Int) - s') = q at *
    have m1 : ((s : Int) * L).natAbs ≤ 6 * 2 ^ 40 := mulb (by omega) (by omega)
    have m2 : ((s' : Int) * L').natAbs ≤ 6 * 2 ^ 40 := mulb (by omega) (by omega)
    have m3 : (((s : Int) * L - s' * L') * q).natAbs ≤ (12 * 2 ^ 40) * 27720 := mulb (by omega) hq2
    exact pick_time (by omega) h0 (by omega) (by omega) (fun x x1 x2 => (key x x1 x2).trans (same_time rfl c hq)) μ
theorem towards_eq (N : Nat) {D : Da} (I : DI D) {a b h n s h' n' s' : Nat} {C L E C' L' E' P T : Int} (S : Seg D a h n s C L E) (S' : Seg D b h' n' s' C' L' E') (e1 : h = n') (e2 : n = h') (h0 : 0 ≤ P) (l1 : L * 27720 ≤ P) (l2 : L' * 27720 ≤ P) (pt : P < T) (t1 : T ≤ E * 27720) (t2 : T ≤ E' * 27720) (μ : Mm) (V : StV 72 h n s C L E μ) (V' : StV 73 h' n' s' C' L' E' μ) : ∃ r, f_Me_towards N (zL P) (zL T) μ = some (r, μ) ∧ FT D a b P T r := by
  obtain ⟨_, _, v3, _, v5, v6⟩ := V
  obtain ⟨_, _, u3, _, u5, _⟩ := V'
  obtain ⟨a1, a2, a3, a4, a5⟩ := S.way l1 (by omega)
  obtain ⟨b1, b2, b3, b4, b5⟩ := S'.way l2 (by omega)
  have hS := S.1
  have hT := S'.1
  have key : ∀ x, P ≤ x → x < T → (D.pz a x = D.pz b x ↔ (x - L * 27720) * s = (s : Int) * (E - L) * 27720 - (x - L' * 27720) * s') := fun x x1 x2 => seg_tow I S S' e1 e2 (by omega) (by omega) (by omega) (by omega)
  unfold f_Me_towards f_Me_towards_B119
  simp only [v3, v5, v6, u3, u5]
  have ex : (nI s + nI s').toInt64 = zL ((s : Int) + s') := by rw [zI_n, zI_n, zI_add, i2l, zI_toInt (by omega) (by omega)]
  have s1 : (nI s).toInt64 = zL (s : Int) := i2lN (by omega)
  have s2 : (nI s').toInt64 = zL (s' : Int) := i2lN (by omega)
  rw [ex, s1, s2]
  have c : (s : Int) + s' ≠ 0 := by omega
  have nz : ¬ zL ((s : Int) + s') = 0 := fun q => c ((zL_eq (b := 0) (by omega) (by omega) (by omega) (by omega)).mp q)
  rw [if_pos ((cmp_ge64 _ _).mpr (by rw [zL_toInt (by omega) (by omega), show (1 : Int64).toInt = 1 from rfl]; omega)), if_neg nz, show (27720 : Int64) = zL 27720 from rfl, zL_div (by decide) (by decide) (by omega) (by omega), zL_sub, zL_mul, zL_mul, zL_mul, zL_add, zL_add, zL_mul]
  have hq := tdG (d := (s : Int) + s') (by omega) (by omega) c
  have hq2 := tdB hq
  generalize (27720 : Int).tdiv ((s : Int) + s') = q at *
  have m0 : ((s : Int) * (E - L)).natAbs ≤ 6 * 2 ^ 41 := mulb (by omega) (by omega)
  have m1 : ((s : Int) * L).natAbs ≤ 6 * 2 ^ 40 := mulb (by omega) (by omega)
  have m2 : ((s' : Int) * L').natAbs ≤ 6 * 2 ^ 40 := mulb (by omega) (by omega)
  have m3 : (((s : Int) * (E - L) + s * L + s' * L') * q).natAbs ≤ (24 * 2 ^ 40) * 27720 := mulb (by omega) hq2
  exact pick_time (by omega) h0 (by omega) (by omega) (fun x x1 x2 => (key x x1 x2).trans (towards_time rfl c hq)) μ
theorem together_eq (N : Nat) {D : Da} (I : DI D) {a b h n s h' n' s' : Nat} {C L E C' L' E' B : Int} (S : Seg D a h n s C L E) (S' : Seg D b h' n' s' C' L' E') (h0 : 0 ≤ B) (c1 : C * 27720 ≤ B) (c2 : C' * 27720 ≤ B) (t1 : B < E * 27720) (t2 : B < E' * 27720) (μ : Mm) (V : StV 72 h n s C L E μ) (V' : StV 73 h' n' s' C' L' E' μ) : ∃ r, f_Me_together N (zL B) μ = some (r, μ) ∧ FT D a b B (min E E' * 27720) r := by
  have hS := S.1
  have hT := S'.1
  have B45 : ¬ (h = h' ∧ B ≤ L * 27720 ∧ B ≤ L' * 27720) → ∃ r, f_Me_together_B45 N (zL B) μ = some (r, μ) ∧ FT D a b B (min E E' * 27720) r := by
    intro nb
    have W := V
    have W' := V'
    obtain ⟨v1, v2, v3, v4, v5, v6⟩ := V
    obtain ⟨u1, u2, u3, u4, u5, u6⟩ := V'
    unfold f_Me_together_B45 f_Me_together_B147 f_Me_together_B189
    rw [v5, u5, Jmax64 N (by omega) (by omega) (by omega) (by omega), bnS, show (27720 : Int64) = zL 27720 from rfl, zL_mul, Jmax64 N (by omega) (by omega) (by omega) (by omega), bnS, v6, u6, Jmin64 N (by omega) (by omega) (by omega) (by omega), bnS]
    simp only [zL_mul, v1, v2, u1, u2]
    have bf : ∀ x, B ≤ x → x < max B (max L L' * 27720) → x < min E E' * 27720 → ¬ D.pz a x = D.pz b x := by
      intro x x1 x2 x3 q
      have := (seg_rest S S' (by omega) (by omega) (by omega) (by omega) (by omega)).mp q
      exact nb ⟨this.1, by omega, by omega⟩
    have q1 : nI h = nI h' ↔ h = h' := nI_eq (by omega) (by omega)
    have q2 : nI n = nI n' ↔ n = n' := nI_eq (by omega) (by omega)
    have q3 : nI h = nI n' ↔ h = n' := nI_eq (by omega) (by omega)
    have q4 : nI n = nI h' ↔ n = h' := nI_eq (by omega) (by omega)
    obtain ⟨P, hP⟩ : ∃ P, P = max B (max L L' * 27720) := ⟨_, rfl⟩
    obtain ⟨T, hT'⟩ : ∃ T, T = min E E' * 27720 := ⟨_, rfl⟩
    rw [← hP, ← hT'] at bf ⊢
    by_cases c : P < T
    · rw [if_pos ((cmp_lt64 _ _).mpr (by rw [zL_toInt (by omega) (by omega), zL_toInt (by omega) (by omega)]; exact c))]
      simp only [q1, q2, q3, q4]
      have nope : ¬ (h = h' ∧ n = n') → ¬ (h = n' ∧ n = h') → FT D a b B T (-1) := by
        intro z1 z2
        refine FT.before (P := P) (Or.inl ⟨rfl, fun x x1 x2 q => ?_⟩) (by omega) bf
        by_cases w : L * 27720 < x ∧ L' * 27720 < x
        · rcases (seg_walk I S S' w.1 (by omega) w.2 (by omega)).mp q with k | k
          · exact z1 ⟨k.1, k.2.1⟩
          · exact z2 ⟨k.1, k.2.1⟩
        · have := (seg_rest S S' (by omega) (by omega) (by omega) (by omega) (by omega)).mp q
          exact nb ⟨this.1, by omega, by omega⟩
      have tow : ¬ (h = h' ∧ n = n') → ∃ r, (if h = n' then if n = h' then bn (f_Me_towards N (zL P) (zL T) μ) (fun r20 μ19 => some (r20, μ19)) else some (-1, μ) else some (-1, μ)) = some (r, μ) ∧ FT D a b B T r := by
        intro z1
        by_cases z2 : h = n' ∧ n = h'
        · rw [if_pos z2.1, if_pos z2.2]
          obtain ⟨r, k1, k2⟩ := towards_eq N I S S' z2.1 z2.2 (by omega) (by omega) (by omega) c (by omega) (by omega) μ W W'
          rw [k1, bnS]
          exact ⟨r, rfl, k2.before (by omega) bf⟩
        · refine ⟨-1, ?_, nope z1 z2⟩
          by_cases y : h = n'
          · rw [if_pos y, if_neg (fun q => z2 ⟨y, q⟩)]
          · rw [if_neg y]
      by_cases z : h = h' ∧ n = n'
      · rw [if_pos z.1, if_pos z.2]
        obtain ⟨r, k1, k2⟩ := sameWay_eq N I S S' z.1 z.2 nb (by omega) (by omega) (by omega) (by omega) c (by omega) (by omega) μ W W'
        rw [k1, bnS]
        exact ⟨r, rfl, k2.before (by omega) bf⟩
      · by_cases y : h = h'
        · rw [if_pos y, if_neg (fun q => z ⟨y, q⟩)]
          exact tow z
        · rw [if_neg y]
          exact tow z
    · rw [if_neg (fun q => c (by have := (cmp_lt64 _ _).mp q; rw [zL_toInt (by omega) (by omega), zL_toInt (by omega) (by omega)] at this; exact this))]
      exact ⟨-1, rfl, Or.inl ⟨rfl, fun x x1 x2 => bf x x1 (by omega) x2⟩⟩
  unfold f_Me_together
  rw [V.1, V'.1, V.2.2.2.2.1, V'.2.2.2.2.1]
  by_cases e : h = h'
  · rw [if_pos (by rw [e]), Jmin64 N (by omega) (by omega) (by omega) (by omega), bnS, show (27720 : Int64) = zL 27720 from rfl, zL_mul]
    by_cases c : min L L' * 27720 < B
    · rw [if_pos ((cmp_gt _ _).mpr (by rw [zL_toInt (by omega) (by omega), zL_toInt (by omega) (by omega)]; exact c))]
      exact B45 (fun q => by omega)
    · rw [if_neg (fun q => c (by have := (cmp_gt _ _).mp q; rw [zL_toInt (by omega) (by omega), zL_toInt (by omega) (by omega)] at this; exact this))]
      refine ⟨_, rfl, Or.inr ⟨B, rfl, by omega, by omega, ?_, fun y y1 y2 => by omega⟩⟩
      exact (seg_rest S S' c1 c2 t1 t2 (by omega)).mpr ⟨e, by omega, by omega⟩
  · rw [if_neg (fun q => e ((nI_eq (by omega) (by omega)).mp q))]
    exact B45 (fun q => e q.1)
