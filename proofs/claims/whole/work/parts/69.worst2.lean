/-! PURE 49: the class's worst post, its loads -/
def csF (wor : Nat → Nat) (lv : Nat → Int) : Nat → Int × Int
  | 0 => (-9, -1)
  | p + 1 => if 0 < wor p ∧ (csF wor lv p).2 < (wor p : Int) * lv p then (((p : Nat) : Int), (wor p : Int) * lv p) else csF wor lv p
theorem ws_cs {wor : Nat → Nat} {lv : Nat → Int} {n : Nat} (h : ∀ p, p < n → 0 < wor p → 0 ≤ lv p) : ∀ p, p ≤ n → (csF wor lv p = (-9, -1) ∧ wsF wor lv p = (-9, 0)) ∨ (csF wor lv p = wsF wor lv p ∧ 0 ≤ (wsF wor lv p).1 ∧ 0 ≤ (wsF wor lv p).2)
  | 0, _ => Or.inl ⟨rfl, rfl⟩
  | p + 1, hp => by
    have ih := ws_cs h p (by omega)
    have e1 : csF wor lv (p + 1) = if 0 < wor p ∧ (csF wor lv p).2 < (wor p : Int) * lv p then (((p : Nat) : Int), (wor p : Int) * lv p) else csF wor lv p := rfl
    have e2 : wsF wor lv (p + 1) = if wor p = 0 ∨ (wsF wor lv p).2 = -9 then wsF wor lv p else if lv p = -9 then ((p : Nat), -9) else if (wsF wor lv p).1 = -9 ∨ (wsF wor lv p).2 < (wor p : Int) * lv p then ((p : Nat), (wor p : Int) * lv p) else wsF wor lv p := rfl
    by_cases c : wor p = 0
    · rw [if_neg (by omega)] at e1
      rw [if_pos (Or.inl c)] at e2
      rw [e1, e2]; exact ih
    · have l0 := h p (by omega) (by omega)
      have m0 := Int.mul_nonneg (show (0 : Int) ≤ wor p by omega) l0
      have ne : ¬ (wor p = 0 ∨ (wsF wor lv p).2 = -9) := by
        rcases ih with ⟨_, i2⟩ | ⟨_, _, i3⟩
        · rw [i2]; simp [c]
        · omega
      rw [if_neg ne, if_neg (by omega)] at e2
      rcases ih with ⟨i1, i2⟩ | ⟨i1, i2, i3⟩
      · rw [i1, if_pos ⟨by omega, by show (-1 : Int) < _; omega⟩] at e1
        rw [i2, if_pos (Or.inl rfl)] at e2
        right
        rw [e1, e2]
        exact ⟨rfl, by show (0 : Int) ≤ (p : Int); omega, m0⟩
      · rw [i1] at e1
        by_cases d : (wsF wor lv p).2 < (wor p : Int) * lv p
        · rw [if_pos ⟨by omega, d⟩] at e1
          rw [if_pos (Or.inr d)] at e2
          right
          rw [e1, e2]
          exact ⟨rfl, by show (0 : Int) ≤ (p : Int); omega, m0⟩
        · rw [if_neg (fun q => d q.2)] at e1
          rw [if_neg (by omega)] at e2
          right
          rw [e1, e2]
          exact ⟨rfl, i2, i3⟩
theorem ws_never {wor : Nat → Nat} {lv : Nat → Int} {n k : Nat} (hk : k < n) (h1 : 0 < wor k) (h2 : lv k = -9) (h : ∀ p, p < k → 0 < wor p → 0 ≤ lv p) : ∀ p, p ≤ n → (p ≤ k → 0 ≤ (wsF wor lv p).2) ∧ (k < p → wsF wor lv p = (((k : Nat) : Int), -9))
  | 0, _ => ⟨fun _ => by unfold wsF; decide, fun q => by omega⟩
  | p + 1, hp => by
    have ih := ws_never hk h1 h2 h p (by omega)
    have e2 : wsF wor lv (p + 1) = if wor p = 0 ∨ (wsF wor lv p).2 = -9 then wsF wor lv p else if lv p = -9 then ((p : Nat), -9) else if (wsF wor lv p).1 = -9 ∨ (wsF wor lv p).2 < (wor p : Int) * lv p then ((p : Nat), (wor p : Int) * lv p) else wsF wor lv p := rfl
    refine ⟨fun q => ?_, fun q => ?_⟩
    · have i := ih.1 (by omega)
      by_cases c : wor p = 0
      · rw [if_pos (Or.inl c)] at e2
        rw [e2]; exact i
      · have l0 := h p (by omega) (by omega)
        have m0 := Int.mul_nonneg (show (0 : Int) ≤ wor p by omega) l0
        rw [if_neg (by omega), if_neg (by omega)] at e2
        rw [e2]
        split
        · exact m0
        · exact i
    · by_cases c : p = k
      · have i := ih.1 (by omega)
        rw [c] at e2 i
        rw [if_neg (by omega), if_pos h2] at e2
        rw [c, e2]
      · have i := ih.2 (by omega)
        rw [i, if_pos (Or.inr rfl)] at e2
        exact e2
theorem ws_val (wor : Nat → Nat) (lv : Nat → Int) : ∀ n, wsF wor lv n = (-9, 0) ∨ ∃ p, p < n ∧ 0 < wor p ∧ wsF wor lv n = (((p : Nat) : Int), if lv p = -9 then -9 else (wor p : Int) * lv p)
  | 0 => Or.inl rfl
  | n + 1 => by
    have ih := ws_val wor lv n
    have e2 : wsF wor lv (n + 1) = if wor n = 0 ∨ (wsF wor lv n).2 = -9 then wsF wor lv n else if lv n = -9 then ((n : Nat), -9) else if (wsF wor lv n).1 = -9 ∨ (wsF wor lv n).2 < (wor n : Int) * lv n then ((n : Nat), (wor n : Int) * lv n) else wsF wor lv n := rfl
    have old : (wsF wor lv n = (-9, 0) ∨ ∃ p, p < n + 1 ∧ 0 < wor p ∧ wsF wor lv n = (((p : Nat) : Int), if lv p = -9 then -9 else (wor p : Int) * lv p)) := by
      rcases ih with i | ⟨p, a, b⟩
      · exact Or.inl i
      · exact Or.inr ⟨p, by omega, b⟩
    rw [e2]
    split
    · exact old
    · rename_i c
      split
      · rename_i d
        right
        exact ⟨n, by omega, by omega, by rw [if_pos d]⟩
      · rename_i d
        split
        · right
          exact ⟨n, by omega, by omega, by rw [if_neg d]⟩
        · exact old
/-- what a look has left -/
def LA (D : Da) (sq : Nat → Nat → Bool) (J need A V : Nat) (μ : Mm) : Prop := μ.1 61 12 = nI A ∧ μ.1 61 14 = nI V ∧ A < 65536 ∧ V < 65536 ∧ (∀ p, V.testBit p = true → A.testBit p = true) ∧ ∀ p, p < 16 → A.testBit p = true → LK (sq p) J need (V.testBit p) (rd μ p)
theorem Wa_idleOf_eq (N : Nat) {D : Da} {sq : Nat → Nat → Bool} {J need A V p : Nat} (hp : p < 16) (μ : Mm) (L : LA D sq J need A V μ) (ha : A.testBit p = true) : f_Wa_idleOf N (nI p) μ = some (zI (rL (sq p) J), μ) := by
  obtain ⟨_, l2, _, l4, _, l6⟩ := L
  obtain ⟨_, _, _, k4, k5⟩ := l6 p hp ha
  unfold f_Wa_idleOf
  rw [l2, bitN (by omega) (by omega), if_pos (ixb_t hp (by decide)), nI_clamp (show p < 2 ^ 31 by omega)]
  cases hv : V.testBit p with
  | true => rw [if_neg (by decide), k4.mp hv]; rfl
  | false =>
    rw [if_pos (by decide)]
    have := (k5 hv).2
    rw [show μ.1 62 p = (rd μ p).1 from rfl, this]
theorem wy_tb {D : Da} (p : Nat) : D.wy.testBit p = true ↔ p < D.n ∧ 0 < D.wor p := by
  unfold Da.wy
  rw [bsN_tb, Bool.and_eq_true, decide_eq_true_eq, decide_eq_true_eq]
theorem wy_lt {D : Da} (I : DI D) : D.wy < 65536 := Nat.lt_of_lt_of_le (bsN_lt _ _) (show 2 ^ D.n ≤ 2 ^ 16 from Nat.pow_le_pow_right (by decide) I.g.n16)
theorem Wa_loadOf_eq (N : Nat) {D : Da} (I : DI D) {sq : Nat → Nat → Bool} {J need V p : Nat} (hJ : 1 ≤ J) (hJ2 : J ≤ 14400) (hp : p < D.n) (hw : 0 < D.wor p) (μ : Mm) (X : DX D μ) (L : LA D sq J need D.wy V μ) : f_Wa_loadOf N (nI p) μ = some (zI (if rL (sq p) J = -9 then -9 else (D.wor p : Int) * rL (sq p) J), μ) := by
  have n16 := I.g.n16
  have l := rL_b (sq p) hJ hJ2
  unfold f_Wa_loadOf f_Gr_worthOf
  rw [Wa_idleOf_eq N (by omega) μ L ((wy_tb p).mpr ⟨hp, hw⟩), bnS]
  by_cases c : rL (sq p) J = -9
  · rw [if_pos c, c, if_neg (by decide)]; rfl
  · rw [if_neg c, if_pos (show (0 : Int32) ≤ zI (rL (sq p) J) by rw [le_I, zI_toInt (by omega) (by omega), show (0 : Int32).toInt = 0 from rfl]; omega), if_pos (ixb_t (show p < 16 by omega) (by decide)), nI_clamp (show p < 2 ^ 31 by omega), X.wor p hp, bnS, zI_n (D.wor p), zI_mul, Int.mul_comm]
theorem Wa_worst_loop (N : Nat) {D : Da} (I : DI D) {sq : Nat → Nat → Bool} {J need : Nat} (hJ : 1 ≤ J) (hJ2 : J ≤ 14400) (μ : Mm) (X : DX D μ) (L : LA D sq J need D.wy 0 μ) (hl : ∀ p, p < D.n → 0 < D.wor p → 0 ≤ rL (sq p) J) : ∀ (m p : Nat), p ≤ 16 → 16 < m + p → f_Wa_worstPost_L22 N m (zI (csF D.wor (fun p => rL (sq p) J) (min p D.n)).1) (zI (csF D.wor (fun p => rL (sq p) J) (min p D.n)).2) (nI p) μ = some (zI (csF D.wor (fun p => rL (sq p) J) D.n).1, μ) := by
  have n16 := I.g.n16
  have lb : ∀ p, -9 ≤ rL (sq p) J ∧ rL (sq p) J ≤ 14400 ∧ (rL (sq p) J = -9 ∨ 0 ≤ rL (sq p) J) := fun p => rL_b (sq p) hJ hJ2
  have w16 := wy_lt I
  have cb : ∀ p, p ≤ D.n → -9 ≤ (csF D.wor (fun p => rL (sq p) J) p).2 ∧ (csF D.wor (fun p => rL (sq p) J) p).2 ≤ 129600 := fun p hp => by
    rcases ws_cs (wor := D.wor) (lv := fun p => rL (sq p) J) hl p hp with ⟨a, _⟩ | ⟨a, b, c⟩
    · rw [a]; decide
    · rw [a]
      rcases wsF_b (wor := D.wor) (lv := fun p => rL (sq p) J) n16 (fun p hp => I.wor p hp) (fun p _ => ⟨(lb p).1, (lb p).2.1⟩) p hp with q | q
      · omega
      · rw [q]; decide
  intro m
  induction m with
  | zero => intro p h1 h2; omega
  | succ m ih =>
    intro p h1 h2
    rw [f_Wa_worstPost_L22]
    by_cases c : p = 16
    · subst c
      rw [if_pos (by decide), Nat.min_eq_right n16]
    · rw [if_neg (show ¬ (16 : Int32) ≤ nI p from nI_ge (b := 16) (by omega) (by decide)), L.1, bitN (by omega) (by omega)]
      unfold f_Wa_worstPost_B56
      simp only [nI_1, nI_add]
      by_cases d : D.wy.testBit p = true
      · obtain ⟨hp, hw⟩ := (wy_tb p).mp d
        have w9 := I.wor p hp
        have l0 := hl p hp hw
        have ih' := ih (p + 1) (by omega) (by omega)
        have ld : f_Wa_loadOf N (nI p) μ = some (zI ((D.wor p : Int) * rL (sq p) J), μ) := by rw [Wa_loadOf_eq N I hJ hJ2 hp hw μ X L, if_neg (show ¬ rL (sq p) J = -9 by omega)]
        rw [d, if_neg (by decide), ld, bnS, Nat.min_eq_left (by omega)]
        rw [Nat.min_eq_left (by omega)] at ih'
        have st : csF D.wor (fun p => rL (sq p) J) (p + 1) = if 0 < D.wor p ∧ (csF D.wor (fun p => rL (sq p) J) p).2 < (D.wor p : Int) * rL (sq p) J then (((p : Nat) : Int), (D.wor p : Int) * rL (sq p) J) else csF D.wor (fun p => rL (sq p) J) p := rfl
        have cbp := cb p (by omega)
        have pr : 0 ≤ (D.wor p : Int) * rL (sq p) J ∧ (D.wor p : Int) * rL (sq p) J ≤ 129600 := ⟨Int.mul_nonneg (by omega) l0, by
          have := Int.mul_le_mul (show (D.wor p : Int) ≤ 9 by omega) (lb p).2.1 l0 (by omega)
          omega⟩
        have le : zI ((D.wor p : Int) * rL (sq p) J) ≤ zI (csF D.wor (fun p => rL (sq p) J) p).2 ↔ ¬ (csF D.wor (fun p => rL (sq p) J) p).2 < (D.wor p : Int) * rL (sq p) J := by
          rw [le_I, zI_toInt (by omega) (by omega), zI_toInt (by omega) (by omega)]
          omega
        by_cases e : (csF D.wor (fun p => rL (sq p) J) p).2 < (D.wor p : Int) * rL (sq p) J
        · rw [if_pos ⟨hw, e⟩] at st
          rw [if_neg (fun q => (le.mp q) e), ld, bnS]
          rw [st] at ih'
          exact ih'
        · rw [if_neg (fun q => e q.2)] at st
          rw [if_pos (le.mpr e)]
          rw [st] at ih'
          exact ih'
      · have d' : D.wy.testBit p = false := by simpa using d
        rw [d', if_pos (by decide)]
        have ih' := ih (p + 1) (by omega) (by omega)
        by_cases e : p < D.n
        · have w0 : D.wor p = 0 := by
            rcases Nat.eq_zero_or_pos (D.wor p) with q | q
            · exact q
            · exact absurd ((wy_tb p).mpr ⟨e, q⟩) d
          have st : csF D.wor (fun p => rL (sq p) J) (p + 1) = csF D.wor (fun p => rL (sq p) J) p := by
            show (if 0 < D.wor p ∧ _ then _ else _) = _
            rw [if_neg (by omega)]
          rw [Nat.min_eq_left (by omega)] at ih' ⊢
          rw [st] at ih'
          exact ih'
        · rw [Nat.min_eq_right (by omega)] at ih' ⊢
          exact ih'
theorem Wa_worst_eq (N : Nat) (hN : 30 ≤ N) {D : Da} (I : DI D) {sq : Nat → Nat → Bool} {J need V : Nat} (hJ : 1 ≤ J) (hJ2 : J ≤ 14400) (μ : Mm) (X : DX D μ) (L : LA D sq J need D.wy V μ) : f_Wa_worstPost N μ = some (zI (wsF D.wor (fun p => rL (sq p) J) D.n).1, μ) ∧ (0 ≤ (wsF D.wor (fun p => rL (sq p) J) D.n).1 → f_Wa_loadOf N (zI (wsF D.wor (fun p => rL (sq p) J) D.n).1) μ = some (zI (wsF D.wor (fun p => rL (sq p) J) D.n).2, μ)) := by
  have n16 := I.g.n16
  have lb : ∀ p, -9 ≤ rL (sq p) J ∧ rL (sq p) J ≤ 14400 ∧ (rL (sq p) J = -9 ∨ 0 ≤ rL (sq p) J) := fun p => rL_b (sq p) hJ hJ2
  obtain ⟨l1, l2, l3, l4, l5, l6⟩ := id L
  refine ⟨?_, fun h => ?_⟩
  · unfold f_Wa_worstPost
    rw [l2]
    by_cases c : V = 0
    · subst c
      rw [if_pos (by decide)]
      have hl : ∀ p, p < D.n → 0 < D.wor p → 0 ≤ rL (sq p) J := fun p hp hw => ((l6 p (by omega) ((wy_tb p).mpr ⟨hp, hw⟩)).2.2.2.2 (Nat.zero_testBit p)).1
      have := Wa_worst_loop N I hJ hJ2 μ X L hl N 0 (by omega) (by omega)
      rw [Nat.zero_min] at this
      rw [show (-9 : Int32) = zI (csF D.wor (fun p => rL (sq p) J) 0).1 from rfl, show (-1 : Int32) = zI (csF D.wor (fun p => rL (sq p) J) 0).2 from rfl, show (0 : Int32) = nI 0 from rfl, this]
      rcases ws_cs (wor := D.wor) (lv := fun p => rL (sq p) J) hl D.n (Nat.le_refl _) with ⟨a, b⟩ | ⟨a, _⟩
      · rw [a, b]
      · rw [a]
    · obtain ⟨k, k1, k2⟩ : ∃ k, V.testBit k = true ∧ ∀ t, t < k → V.testBit t = false := by
        obtain ⟨a, b, d⟩ := fsN_spec (fun q => V.testBit q) 16
        rcases Nat.lt_or_ge (fsN (fun q => V.testBit q) 16) 16 with e | e
        · exact ⟨_, b e, d⟩
        · exact absurd ((bs_zero (n := 16) l4).mpr (fun i hi => d i (by omega))) c
      have ka := (wy_tb k).mp (l5 k k1)
      rw [if_neg (nI_ne0 (by omega) (by omega)), ntz_eq N l4 k1 k2, bnS, (ws_never (wor := D.wor) (lv := fun p => rL (sq p) J) ka.1 ka.2 ((l6 k (by omega) (l5 k k1)).2.2.2.1.mp k1) (fun p hp hw => ((l6 p (by omega) ((wy_tb p).mpr ⟨by omega, hw⟩)).2.2.2.2 (k2 p hp)).1) D.n (Nat.le_refl _)).2 ka.1]
      rfl
  · rcases ws_val D.wor (fun p => rL (sq p) J) D.n with q | ⟨p, p1, p2, p3⟩
    · rw [q] at h
      exact absurd h (by decide)
    · rw [p3]
      exact Wa_loadOf_eq N I hJ hJ2 p1 p2 μ X L
