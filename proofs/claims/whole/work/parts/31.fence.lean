/-! PURE 11: fence -/
def aw (f : Nat → Int32) (b s : Nat) (lo hi : Int32) (i : Nat) : Prop := ∀ j, j < s → i ≤ j → lo ≤ f (b + j) ∧ f (b + j) ≤ hi
theorem Sf_all_loop (N r s : Nat) (hr : r < 8) (hs : s ≤ 40) (lo hi : Int32) (μ : Mm) (hz : μ.1 5 r = nI s) : ∀ (n i : Nat), i ≤ s → s < n + i → (aw (μ.1 4) (40 * r) s lo hi i → f_Sf_allWithin_L3 N n (nI r) lo hi (nI i) μ = some (1, μ)) ∧ (¬ aw (μ.1 4) (40 * r) s lo hi i → f_Sf_allWithin_L3 N n (nI r) lo hi (nI i) μ = some (0, μ)) := by
  intro n
  induction n with
  | zero => intro i h1 h2; omega
  | succ n ih =>
    intro i h1 h2
    rw [f_Sf_allWithin_L3, if_pos (ixb_t hr (by decide)), nI_clamp (by omega), hz]
    by_cases h : i = s
    · subst h
      rw [if_pos (nI_le (Nat.le_refl _) (by omega))]
      exact ⟨fun _ => rfl, fun q => absurd (fun j h1 h2 => by omega) q⟩
    · rw [if_neg (nI_ge (by omega) (by omega)), Sf_byteAt_eq N hr (by omega)]
      simp only [bnS, nI_1, Sf_byteAt_eq N hr (show i < 40 by omega)]
      by_cases c1 : μ.1 4 (40 * r + i) < lo
      · rw [if_pos c1]
        refine ⟨fun q => ?_, fun _ => rfl⟩
        have := (q i (by omega) (Nat.le_refl _)).1
        rw [le_I] at this
        rw [lt_I] at c1
        omega
      · rw [if_neg c1]
        by_cases c2 : μ.1 4 (40 * r + i) ≤ hi
        · rw [if_pos c2]
          obtain ⟨a1, a2⟩ := ih (i + 1) (by omega) (by omega)
          refine ⟨fun q => a1 (fun j x y => q j x (by omega)), fun q => a2 (fun w => q (fun j x y => ?_))⟩
          by_cases e : j = i
          · subst e
            refine ⟨?_, c2⟩
            rw [le_I]
            rw [lt_I] at c1
            omega
          · exact w j x (by omega)
        · rw [if_neg c2]
          exact ⟨fun q => absurd (q i (by omega) (Nat.le_refl _)).2 c2, fun _ => rfl⟩
theorem M_fence_chk (N r s : Nat) (hr : r < 8) (hs : s ≤ 40) (v2 : Int32) (μ : Mm) : ∀ (n i : Nat) (v4 : Int32), (v4 = 0 ∨ v4 = 1) → i ≤ s → s < n + i → (v4 = 1 ∧ aw (μ.1 3) (40 * r) s 1 30 i → f_M_fence_L57 N n (nI r) v2 (nI s) v4 (nI i) μ = f_M_fence_B97 N (nI r) v2 (nI s) 1 μ) ∧ (¬ (v4 = 1 ∧ aw (μ.1 3) (40 * r) s 1 30 i) → f_M_fence_L57 N n (nI r) v2 (nI s) v4 (nI i) μ = f_M_fence_B97 N (nI r) v2 (nI s) 0 μ) := by
  intro n
  induction n with
  | zero => intro i v4 h0 h1 h2; omega
  | succ n ih =>
    intro i v4 h0 h1 h2
    rw [f_M_fence_L57]
    by_cases h : i = s
    · subst h
      rw [if_pos (nI_le (Nat.le_refl _) (by omega))]
      rcases h0 with rfl | rfl
      · exact ⟨fun q => absurd q.1 (by decide), fun _ => rfl⟩
      · exact ⟨fun _ => rfl, fun q => absurd ⟨rfl, fun j h1 h2 => by omega⟩ q⟩
    · rw [if_neg (nI_ge (by omega) (by omega))]
      unfold f_M_fence_B88 f_M_fence_B89
      simp only [nI_1, M_at_eq N hr (show i < 40 by omega), bnS, f_M_in_eq, if01]
      rcases h0 with rfl | rfl
      · rw [if_pos rfl]
        obtain ⟨_, a2⟩ := ih (i + 1) 0 (Or.inl rfl) (by omega) (by omega)
        exact ⟨fun q => absurd q.1 (by decide), fun _ => a2 (fun q => absurd q.1 (by decide))⟩
      · rw [if_neg (by decide)]
        by_cases c : (1 : Int32).toInt ≤ (μ.1 3 (40 * r + i)).toInt ∧ (μ.1 3 (40 * r + i)).toInt ≤ (30 : Int32).toInt
        · rw [if_pos c]
          obtain ⟨a1, a2⟩ := ih (i + 1) 1 (Or.inr rfl) (by omega) (by omega)
          refine ⟨fun q => a1 ⟨rfl, fun j x y => q.2 j x (by omega)⟩, fun q => a2 (fun w => q ⟨rfl, fun j x y => ?_⟩)⟩
          by_cases e : j = i
          · subst e
            exact ⟨le_I.mpr c.1, le_I.mpr c.2⟩
          · exact w.2 j x (by omega)
        · rw [if_neg c]
          obtain ⟨_, a2⟩ := ih (i + 1) 0 (Or.inl rfl) (by omega) (by omega)
          refine ⟨fun q => absurd ⟨le_I.mp (q.2 i (by omega) (Nat.le_refl _)).1, le_I.mp (q.2 i (by omega) (Nat.le_refl _)).2⟩ c, fun _ => a2 (fun q => absurd q.1 (by decide))⟩
/-- the post behind, round -/
def nx (n i : Nat) : Nat := if i + 1 < n then i + 1 else 0
def bX (S : Nat → Int32) (n : Nat) (μ : Mm) : Nat → Mm
  | 0 => μ
  | i + 1 => sI (glen (bX S n μ i) i (nx n i) (S i)) 6 2 ((bX S n μ i).1 6 2 + 1)
def bM (S : Nat → Int32) (n : Nat) (μ : Mm) : Nat → Mm
  | 0 => μ
  | i + 1 => sA (bM S n μ i) 5 (upS2 ((bM S n μ i).1 5) i (nx n i) (S i))
theorem bX_off (S : Nat → Int32) (n : Nat) (μ : Mm) (c : Nat) (h : c ≠ 6 ∧ c ≠ 7) : ∀ i, (bX S n μ i).1 c = μ.1 c
  | 0 => rfl
  | i + 1 => by
    unfold bX glen
    simp only [sI1, sA1, if_neg h.1, if_neg h.2]
    exact bX_off S n μ c h i
theorem bX_2 (S : Nat → Int32) (n : Nat) (μ : Mm) : ∀ i, (bX S n μ i).2 = μ.2
  | 0 => rfl
  | i + 1 => bX_2 S n μ i
theorem bX_6 (S : Nat → Int32) (n : Nat) (μ : Mm) (f : Nat) (h : f ≠ 2 ∧ f ≠ 4 ∧ f ≠ 9) : ∀ i, (bX S n μ i).1 6 f = μ.1 6 f
  | 0 => rfl
  | i + 1 => by
    show upd (upd (upd ((bX S n μ i).1 6) 9 1) 4 _) 2 _ f = _
    rw [upd_at, if_neg h.1, upd_at, if_neg h.2.1, upd_at, if_neg h.2.2]
    exact bX_6 S n μ f h i
theorem bX_9 (S : Nat → Int32) (n : Nat) (μ : Mm) (h : μ.1 6 9 = 1) : ∀ i, (bX S n μ i).1 6 9 = 1
  | 0 => h
  | i + 1 => rfl
theorem bX_4 (S : Nat → Int32) (n v : Nat) (μ : Mm) (h : μ.1 6 4 = nI v) : ∀ i, (bX S n μ i).1 6 4 = nI (v + i)
  | 0 => h
  | i + 1 => by
    show (bX S n μ i).1 6 4 + 1 = _
    rw [bX_4 S n v μ h i, nI_1]
    rfl
theorem bM_off (S : Nat → Int32) (n : Nat) (μ : Mm) (c : Nat) (h : c ≠ 5) : ∀ i, (bM S n μ i).1 c = μ.1 c
  | 0 => rfl
  | i + 1 => by
    unfold bM
    simp only [sA1, if_neg h]
    exact bM_off S n μ c h i
theorem bM_2 (S : Nat → Int32) (n : Nat) (μ : Mm) : ∀ i, (bM S n μ i).2 = μ.2
  | 0 => rfl
  | i + 1 => bM_2 S n μ i
theorem nx_lt {n i : Nat} (h : 0 < n) : nx n i < n := by
  unfold nx
  split <;> omega
theorem W_fence_loop (N r s n : Nat) (hr : r < 8) (hs : s ≤ 16) (hsn : s ≤ n) (hn : n ≤ 16) (hn0 : 0 < n) (μ : Mm) (en : μ.1 6 1 = nI n) : ∀ (m i : Nat), i ≤ s → s < m + i → f_W_fence_L127 N m (nI r) (nI s) (nI i) (bX (fun j => μ.1 4 (40 * r + j)) n μ i) = some (nI n, bX (fun j => μ.1 4 (40 * r + j)) n μ s) := by
  intro m
  induction m with
  | zero => intro i h1 h2; omega
  | succ m ih =>
    intro i h1 h2
    rw [f_W_fence_L127]
    by_cases h : i = s
    · subst h
      rw [if_pos (nI_le (Nat.le_refl _) (by omega))]
      unfold f_W_fence_B180
      rw [bX_6 _ _ _ 1 (by decide), en]
    · rw [if_neg (nI_ge (by omega) (by omega)), bX_6 _ _ _ 1 (by decide), en]
      unfold f_W_fence_B161
      simp only [nI_1, Sf_byteAt_eq N hr (show i < 40 by omega), bnS, bX_off _ _ _ 4 (by decide)]
      have fin : ∀ y : Nat, y = nx n i → bv (f_Gr_build N (nI i) (nI y) (μ.1 4 (40 * r + i)) (bX (fun j => μ.1 4 (40 * r + j)) n μ i)) (fun μ25 => f_W_fence_L127 N m (nI r) (nI s) (nI (i + 1)) μ25) = some (nI n, bX (fun j => μ.1 4 (40 * r + j)) n μ s) := by
        intro y hy
        have hy16 : y < 16 := by rw [hy]; have := nx_lt (i := i) hn0; omega
        unfold f_Gr_build
        rw [Gr_setLength_eq N (by omega) hy16]
        simp only [bvS]
        rw [hy]
        exact ih (i + 1) (by omega) (by omega)
      by_cases c : n ≤ i + 1
      · rw [if_pos (nI_le c (by omega))]
        exact fin 0 (by unfold nx; rw [if_neg (by omega)])
      · rw [if_neg (nI_ge (by omega) (by omega))]
        exact fin (i + 1) (by unfold nx; rw [if_pos (by omega)])
theorem M_fence_loop (N r s n : Nat) (hr : r < 8) (hs : s ≤ 16) (hsn : s ≤ n) (hn : n ≤ 16) (hn0 : 0 < n) (μ : Mm) (en : μ.1 0 9 = nI n) : ∀ (m i : Nat), i ≤ s → s < m + i → f_M_fence_L135 N m (nI r) (nI s) (nI i) (bM (fun j => μ.1 3 (40 * r + j)) n μ i) = some (nI n, bM (fun j => μ.1 3 (40 * r + j)) n μ s) := by
  intro m
  induction m with
  | zero => intro i h1 h2; omega
  | succ m ih =>
    intro i h1 h2
    rw [f_M_fence_L135]
    by_cases h : i = s
    · subst h
      rw [if_pos (nI_le (Nat.le_refl _) (by omega))]
      unfold f_M_fence_B169
      rw [bM_off _ _ _ 0 (by decide), en]
    · rw [if_neg (nI_ge (by omega) (by omega))]
      simp only [bM_off _ _ _ 0 (show 0 ≠ 5 by decide), en]
      rw [if_neg (nI_ne0 hn0 (by omega))]
      simp only [nI_1, M_at_eq N hr (show i < 40 by omega), bnS, bM_off _ _ _ 3 (show 3 ≠ 5 by decide)]
      have er : nI (i + 1) - nI (i + 1) / nI n * nI n = nI (nx n i) := by
        rw [pk_rem (by omega) hn0 (by omega)]
        congr 1
        unfold nx
        by_cases c : i + 1 < n
        · rw [if_pos c, Nat.mod_eq_of_lt c]
        · rw [if_neg c, show i + 1 = n by omega, Nat.mod_self]
      have hy16 : nx n i < 16 := by have := nx_lt (i := i) hn0; omega
      rw [er, M_join_eq N (by omega) hy16]
      simp only [bvS]
      exact ih (i + 1) (by omega) (by omega)
