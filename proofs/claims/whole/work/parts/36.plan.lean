/-! PURE 16: plan -/
theorem Jmax (N : Nat) (a b : Int32) (μ : Mm) : f_Jm_max_7cf53 N a b μ = some (if b.toInt ≤ a.toInt then a else b, μ) := by
  unfold f_Jm_max_7cf53
  simp only [le_I, lt_I]
  repeat' split
  all_goals first | rfl | omega
theorem Jmin (N : Nat) (a b : Int32) (μ : Mm) : f_Jm_min_7cf53 N a b μ = some (if a.toInt ≤ b.toInt then a else b, μ) := by
  unfold f_Jm_min_7cf53
  simp only [le_I, lt_I]
  repeat' split
  all_goals first | rfl | omega
def tw (f : Nat → Int32) (b s i : Nat) : Prop := ∃ j, j < s ∧ i ≤ j ∧ f (b + j) = f (b + nx s j)
theorem Sf_tw_loop (N r s : Nat) (hr : r < 8) (hs : s ≤ 40) (μ : Mm) (hz : μ.1 5 r = nI s) : ∀ (n i : Nat), i ≤ s → s < n + i → (tw (μ.1 4) (40 * r) s i → f_Sf_hasTwins_L2 N n (nI r) (nI i) μ = some (1, μ)) ∧ (¬ tw (μ.1 4) (40 * r) s i → f_Sf_hasTwins_L2 N n (nI r) (nI i) μ = some (0, μ)) := by
  intro n
  induction n with
  | zero => intro i h1 h2; omega
  | succ n ih =>
    intro i h1 h2
    rw [f_Sf_hasTwins_L2, if_pos (ixb_t hr (by decide)), nI_clamp (by omega), hz]
    by_cases h : i = s
    · subst h
      rw [if_pos (nI_le (Nat.le_refl _) (by omega))]
      exact ⟨fun ⟨j, a, b, _⟩ => by omega, fun _ => rfl⟩
    · rw [if_neg (nI_ge (by omega) (by omega)), if_pos (ixb_t hr (by decide))]
      unfold f_Sf_hasTwins_B31
      simp only [nI_1]
      have hx : nx s i < 40 := by have := nx_lt (n := s) (i := i) (by omega); omega
      have key : ∀ y, y = nx s i → (tw (μ.1 4) (40 * r) s i → bn (f_Sf_byteAt N (nI r) (nI i) μ) (fun r4 μ3 => bn (f_Sf_byteAt N (nI r) (nI y) μ3) (fun r6 μ5 => if r4 = r6 then some (1, μ5) else f_Sf_hasTwins_L2 N n (nI r) (nI (i + 1)) μ5)) = some (1, μ)) ∧ (¬ tw (μ.1 4) (40 * r) s i → bn (f_Sf_byteAt N (nI r) (nI i) μ) (fun r4 μ3 => bn (f_Sf_byteAt N (nI r) (nI y) μ3) (fun r6 μ5 => if r4 = r6 then some (1, μ5) else f_Sf_hasTwins_L2 N n (nI r) (nI (i + 1)) μ5)) = some (0, μ)) := by
        intro y hy
        subst hy
        simp only [Sf_byteAt_eq N hr (show i < 40 by omega), Sf_byteAt_eq N hr hx, bnS]
        by_cases c : μ.1 4 (40 * r + i) = μ.1 4 (40 * r + nx s i)
        · rw [if_pos c]
          exact ⟨fun _ => rfl, fun q => absurd ⟨i, by omega, Nat.le_refl _, c⟩ q⟩
        · rw [if_neg c]
          obtain ⟨a1, a2⟩ := ih (i + 1) (by omega) (by omega)
          refine ⟨fun ⟨j, x, y, z⟩ => a1 ⟨j, x, ?_, z⟩, fun q => a2 (fun ⟨j, x, y, z⟩ => q ⟨j, x, by omega, z⟩)⟩
          rcases Nat.lt_or_ge i j with w | w
          · exact w
          · have : j = i := by omega
            subst this
            exact absurd z c
      by_cases c : s ≤ i + 1
      · rw [if_pos (nI_le c (by omega))]
        exact key 0 (by unfold nx; rw [if_neg (by omega)])
      · rw [if_neg (nI_ge (by omega) (by omega))]
        exact key (i + 1) (by unfold nx; rw [if_pos (by omega)])
def mx0 (v : Int32) : Int32 := if v.toInt < 0 then 0 else v
/-- the rest that a plan gets -/
def rv (bytes : Nat → Int32) (q gv x : Nat) : Int32 := if gv ≤ x then 0 else mx0 (bytes (40 * q + x))
theorem W_wp_loop (N r s j q gv : Nat) (qi : Int32) (hr : r < 8) (hs : s ≤ 24) (hj : j < 8) (hg : gv = 0 ∨ (qi = nI q ∧ q < 8)) (hgv : gv ≤ 40) : ∀ (n i : Nat) (μ : Mm), μ.1 (WK j) 8 = nI s → i ≤ s → s < n + i → ∃ μ', f_W_writePlan_L46 N n j (nI r) qi (nI gv) (nI i) μ = some μ' ∧ (∀ c, c ≠ WK j + 1 → c ≠ WK j + 2 → μ'.1 c = μ.1 c) ∧ μ'.2 = μ.2 ∧ (∀ x, x < i → μ'.1 (WK j + 1) x = μ.1 (WK j + 1) x ∧ μ'.1 (WK j + 2) x = μ.1 (WK j + 2) x) ∧ ∀ x, i ≤ x → x < s → μ'.1 (WK j + 1) x = μ.1 4 (40 * r + x) ∧ μ'.1 (WK j + 2) x = rv (μ.1 4) q gv x := by
  have hwk := WK_lt hj
  intro n
  induction n with
  | zero => intro i μ _ h1 h2; omega
  | succ n ih =>
    intro i μ e8 h1 h2
    rw [f_W_writePlan_L46, e8]
    by_cases h : i = s
    · subst h
      rw [if_pos (nI_le (Nat.le_refl _) (by omega))]
      exact ⟨μ, rfl, fun _ _ _ => rfl, rfl, fun x _ => ⟨rfl, rfl⟩, fun x a b => by omega⟩
    · rw [if_neg (nI_ge (by omega) (by omega))]
      unfold f_W_writePlan_B103
      simp only [nI_1, Sf_byteAt_eq N hr (show i < 40 by omega), bnS, if_pos (ixb_t (show i < 24 by omega) (show 24 < 2 ^ 31 by decide)), nI_clamp (show i < 2 ^ 31 by omega)]
      have fin : ∀ v, v = rv (μ.1 4) q gv i → ∃ μ', f_W_writePlan_L46 N n j (nI r) qi (nI gv) (nI (i + 1)) (sI (sI μ (WK j + 1) i (μ.1 4 (40 * r + i))) (WK j + 2) i v) = some μ' ∧ (∀ c, c ≠ WK j + 1 → c ≠ WK j + 2 → μ'.1 c = μ.1 c) ∧ μ'.2 = μ.2 ∧ (∀ x, x < i → μ'.1 (WK j + 1) x = μ.1 (WK j + 1) x ∧ μ'.1 (WK j + 2) x = μ.1 (WK j + 2) x) ∧ ∀ x, i ≤ x → x < s → μ'.1 (WK j + 1) x = μ.1 4 (40 * r + x) ∧ μ'.1 (WK j + 2) x = rv (μ.1 4) q gv x := by
        intro v hv
        have f1 : ∀ c, c ≠ WK j + 1 → c ≠ WK j + 2 → (sI (sI μ (WK j + 1) i (μ.1 4 (40 * r + i))) (WK j + 2) i v).1 c = μ.1 c := fun c q1 q2 => by
          rw [sI1, if_neg q2, sI1, if_neg q1]
        have g1 : (sI (sI μ (WK j + 1) i (μ.1 4 (40 * r + i))) (WK j + 2) i v).1 (WK j + 1) = upd (μ.1 (WK j + 1)) i (μ.1 4 (40 * r + i)) := by
          rw [sI1, if_neg (by omega), sI1, if_pos rfl]
        have g2 : (sI (sI μ (WK j + 1) i (μ.1 4 (40 * r + i))) (WK j + 2) i v).1 (WK j + 2) = upd (μ.1 (WK j + 2)) i v := by
          rw [sI1, if_pos rfl, sI1, if_neg (by omega)]
        obtain ⟨μ', k1, k2, k3, k4, k5⟩ := ih (i + 1) (sI (sI μ (WK j + 1) i (μ.1 4 (40 * r + i))) (WK j + 2) i v) (by rw [f1 _ (by omega) (by omega), e8]) (by omega) (by omega)
        refine ⟨μ', k1, fun c q1 q2 => (k2 c q1 q2).trans (f1 c q1 q2), k3, fun x hx => ?_, fun x hx1 hx2 => ?_⟩
        · obtain ⟨a, b⟩ := k4 x (by omega)
          rw [a, b, g1, g2, upd_ne _ _ (by omega), upd_ne _ _ (by omega)]
          exact ⟨rfl, rfl⟩
        · by_cases cx : x = i
          · subst cx
            obtain ⟨a, b⟩ := k4 x (by omega)
            rw [a, b, g1, g2, upd_eq, upd_eq]
            exact ⟨rfl, hv⟩
          · obtain ⟨a, b⟩ := k5 x (by omega) hx2
            rw [a, b, f1 4 (by omega) (by omega)]
            exact ⟨rfl, rfl⟩
      by_cases c : gv ≤ i
      · rw [if_pos (nI_le c (by omega))]
        exact fin 0 (by unfold rv; rw [if_pos c])
      · rw [if_neg (nI_ge (by omega) (by omega))]
        rcases hg with q0 | ⟨rfl, hq⟩
        · omega
        · simp only [Sf_byteAt_eq N hq (show i < 40 by omega), bnS, Jmax, sI1, if_neg (show ¬ 4 = WK j + 1 by omega)]
          refine fin _ ?_
          unfold rv mx0
          rw [if_neg c, show (0 : Int32).toInt = 0 from rfl]
          repeat' split
          all_goals first | rfl | omega | (rw [eq_I, show (0 : Int32).toInt = 0 from rfl]; omega)
theorem M_pl_loop (N r s j q gv : Nat) (qi st : Int32) (hr : r < 8) (hs : s ≤ 24) (hj : j < 8) (hg : (qi = -9 ∧ gv = 0) ∨ (qi = nI q ∧ q < 8)) (hgv : gv ≤ 40) : ∀ (n i : Nat) (μ : Mm), (qi = nI q → μ.1 2 q = nI gv) → i ≤ s → s < n + i → ∃ μ', f_M_plan_L205 N n (nI j) (nI r) qi st (nI s) (nI i) μ = some (nI s, μ') ∧ (∀ c, c ≠ 17 → c ≠ 18 → c ≠ 19 → c ≠ 20 → μ'.1 c = μ.1 c) ∧ μ'.2 = μ.2 ∧ μ'.1 17 = upd (μ.1 17) j (nI s) ∧ μ'.1 20 = upd (μ.1 20) j st ∧ (∀ x, x < 24 * j + i ∨ 24 * j + s ≤ x → μ'.1 18 x = μ.1 18 x ∧ μ'.1 19 x = μ.1 19 x) ∧ ∀ x, i ≤ x → x < s → μ'.1 18 (24 * j + x) = μ.1 3 (40 * r + x) ∧ μ'.1 19 (24 * j + x) = rv (μ.1 3) q gv x := by
  intro n
  induction n with
  | zero => intro i μ _ h1 h2; omega
  | succ n ih =>
    intro i μ eq h1 h2
    rw [f_M_plan_L205]
    by_cases h : i = s
    · subst h
      rw [if_pos (nI_le (Nat.le_refl _) (by omega))]
      unfold f_M_plan_B290
      simp only [if_pos (ixb_t hj (show 8 < 2 ^ 31 by decide)), nI_clamp (show j < 2 ^ 31 by omega)]
      refine ⟨sI (sI μ 17 j (nI i)) 20 j st, rfl, fun c a _ _ b => ?_, rfl, rfl, rfl, fun x _ => ⟨rfl, rfl⟩, fun x a b => by omega⟩
      rw [sI1, if_neg b, sI1, if_neg a]
    · rw [if_neg (nI_ge (by omega) (by omega))]
      unfold f_M_plan_B229 f_M_plan_B240 f_M_plan_B283
      have hx : 24 * j + i < 192 := by omega
      have fin : ∀ v, v = rv (μ.1 3) q gv i → ∃ μ', f_M_plan_L205 N n (nI j) (nI r) qi st (nI s) (nI (i + 1)) (sI (sI μ 18 (24 * j + i) (μ.1 3 (40 * r + i))) 19 (24 * j + i) v) = some (nI s, μ') ∧ (∀ c, c ≠ 17 → c ≠ 18 → c ≠ 19 → c ≠ 20 → μ'.1 c = μ.1 c) ∧ μ'.2 = μ.2 ∧ μ'.1 17 = upd (μ.1 17) j (nI s) ∧ μ'.1 20 = upd (μ.1 20) j st ∧ (∀ x, x < 24 * j + i ∨ 24 * j + s ≤ x → μ'.1 18 x = μ.1 18 x ∧ μ'.1 19 x = μ.1 19 x) ∧ ∀ x, i ≤ x → x < s → μ'.1 18 (24 * j + x) = μ.1 3 (40 * r + x) ∧ μ'.1 19 (24 * j + x) = rv (μ.1 3) q gv x := by
        intro v hv
        have f1 : ∀ c, c ≠ 18 → c ≠ 19 → (sI (sI μ 18 (24 * j + i) (μ.1 3 (40 * r + i))) 19 (24 * j + i) v).1 c = μ.1 c := fun c q1 q2 => by
          rw [sI1, if_neg q2, sI1, if_neg q1]
        have g1 : (sI (sI μ 18 (24 * j + i) (μ.1 3 (40 * r + i))) 19 (24 * j + i) v).1 18 = upd (μ.1 18) (24 * j + i) (μ.1 3 (40 * r + i)) := rfl
        have g2 : (sI (sI μ 18 (24 * j + i) (μ.1 3 (40 * r + i))) 19 (24 * j + i) v).1 19 = upd (μ.1 19) (24 * j + i) v := rfl
        obtain ⟨μ', k1, k2, k3, k4, k5, k6, k7⟩ := ih (i + 1) (sI (sI μ 18 (24 * j + i) (μ.1 3 (40 * r + i))) 19 (24 * j + i) v) eq (by omega) (by omega)
        refine ⟨μ', k1, fun c q0 q1 q2 q3 => (k2 c q0 q1 q2 q3).trans (f1 c q1 q2), k3, k4, k5, fun x hx => ?_, fun x hx1 hx2 => ?_⟩
        · obtain ⟨a, b⟩ := k6 x (by omega)
          rw [a, b, g1, g2, upd_ne _ _ (by omega), upd_ne _ _ (by omega)]
          exact ⟨rfl, rfl⟩
        · by_cases cx : x = i
          · subst cx
            obtain ⟨a, b⟩ := k6 (24 * j + x) (by omega)
            rw [a, b, g1, g2, upd_eq, upd_eq]
            exact ⟨rfl, hv⟩
          · exact k7 x (by omega) hx2
      have stp : ∀ v0 v, v = (if (0 : Int32) ≤ v0 then v0 else 0) → v = rv (μ.1 3) q gv i → ∃ μ', (bn (f_M_at N (nI r) (nI i) μ) fun r50 μ49 => if ixb (24 * nI j + nI i) 192 = true then if (0 : Int32) ≤ v0 then if ixb (24 * nI j + nI i) 192 = true then f_M_plan_L205 N n (nI j) (nI r) qi st (nI s) (nI i + 1) (sI (sI μ49 18 (24 * nI j + nI i).toNatClampNeg r50) 19 (24 * nI j + nI i).toNatClampNeg v0) else none else if ixb (24 * nI j + nI i) 192 = true then f_M_plan_L205 N n (nI j) (nI r) qi st (nI s) (nI i + 1) (sI (sI μ49 18 (24 * nI j + nI i).toNatClampNeg r50) 19 (24 * nI j + nI i).toNatClampNeg 0) else none else none) = some (nI s, μ') ∧ (∀ c, c ≠ 17 → c ≠ 18 → c ≠ 19 → c ≠ 20 → μ'.1 c = μ.1 c) ∧ μ'.2 = μ.2 ∧ μ'.1 17 = upd (μ.1 17) j (nI s) ∧ μ'.1 20 = upd (μ.1 20) j st ∧ (∀ x, x < 24 * j + i ∨ 24 * j + s ≤ x → μ'.1 18 x = μ.1 18 x ∧ μ'.1 19 x = μ.1 19 x) ∧ ∀ x, i ≤ x → x < s → μ'.1 18 (24 * j + x) = μ.1 3 (40 * r + x) ∧ μ'.1 19 (24 * j + x) = rv (μ.1 3) q gv x := by
        intro v0 v e1 e2
        simp only [ix24', nI_1, M_at_eq N hr (show i < 40 by omega), bnS, if_pos (ixb_t hx (show 192 < 2 ^ 31 by decide)), nI_clamp (show 24 * j + i < 2 ^ 31 by omega)]
        by_cases c : (0 : Int32) ≤ v0
        · rw [if_pos c] at e1 ⊢
          subst e1
          exact fin v e2
        · rw [if_neg c] at e1 ⊢
          subst e1
          exact fin 0 e2
      by_cases c9 : qi = -9
      · rw [if_pos c9]
        refine stp 0 0 (by rw [if_pos (by decide)]) ?_
        rcases hg with ⟨_, g0⟩ | ⟨g0, g1⟩
        · unfold rv; rw [if_pos (by omega)]
        · rw [g0] at c9
          have := congrArg Int32.toInt c9
          rw [tI (by omega), show (-9 : Int32).toInt = -9 from rfl] at this
          omega
      · rw [if_neg c9]
        rcases hg with ⟨g0, _⟩ | ⟨g0, g1⟩
        · exact absurd g0 c9
        · have eg := eq g0
          subst g0
          rw [if_pos (ixb_t g1 (by decide)), nI_clamp (by omega), eg]
          by_cases c : i < gv
          · rw [if_pos (nI_lt c (by omega)), M_at_eq N g1 (by omega), bnS]
            refine stp _ _ rfl ?_
            unfold rv mx0
            rw [if_neg (show ¬ gv ≤ i by omega)]
            simp only [le_I, show (0 : Int32).toInt = 0 from rfl]
            repeat' split
            all_goals first | rfl | omega
          · rw [if_neg (fun z => c (by rw [lt_I, tI (by omega), tI (by omega)] at z; omega))]
            exact stp 0 0 (by rw [if_pos (by decide)]) (by unfold rv; rw [if_pos (by omega)])

theorem M_pc_loop (N r s : Nat) (j qi st : Int32) (hr : r < 8) (hs : s ≤ 24) (hs2 : 2 ≤ s) (μ : Mm) : ∀ (n i : Nat) (g : Int32), (g = 0 ∨ g = 1) → i ≤ s → s < n + i → ((g = 1 ∧ aw (μ.1 3) (40 * r) s 0 15 i ∧ ¬ tw (μ.1 3) (40 * r) s i) → f_M_plan_L128 N n j (nI r) qi st (nI s) g (nI i) μ = f_M_plan_B191 N j (nI r) qi st (nI s) 1 μ) ∧ (¬ (g = 1 ∧ aw (μ.1 3) (40 * r) s 0 15 i ∧ ¬ tw (μ.1 3) (40 * r) s i) → f_M_plan_L128 N n j (nI r) qi st (nI s) g (nI i) μ = f_M_plan_B191 N j (nI r) qi st (nI s) 0 μ) := by
  intro n
  induction n with
  | zero => intro i g _ h1 h2; omega
  | succ n ih =>
    intro i g hg h1 h2
    rw [f_M_plan_L128]
    by_cases h : i = s
    · subst h
      rw [if_pos (nI_le (Nat.le_refl _) (by omega))]
      refine ⟨fun q => by rw [q.1], fun q => ?_⟩
      rcases hg with rfl | rfl
      · rfl
      · exact absurd ⟨rfl, fun j h1 h2 => by omega, fun ⟨j, a, b, _⟩ => by omega⟩ q
    · rw [if_neg (nI_ge (by omega) (by omega))]
      unfold f_M_plan_B182 f_M_plan_B183
      have hx : nx s i < 40 := by have := nx_lt (n := s) (i := i) (by omega); omega
      have er : nI (i + 1) - nI (i + 1) / nI s * nI s = nI (nx s i) := by
        rw [pk_rem (by omega) (by omega) (by omega)]
        congr 1
        unfold nx
        by_cases c : i + 1 < s
        · rw [if_pos c, Nat.mod_eq_of_lt c]
        · rw [if_neg c, show i + 1 = s by omega, Nat.mod_self]
      simp only [nI_1, M_at_eq N hr (show i < 40 by omega), bnS, f_M_in_eq, if01, if_neg (nI_ne0 (show 0 < s by omega) (show s < 2 ^ 31 by omega)), er, M_at_eq N hr hx]
      obtain ⟨z1, z2⟩ := ih (i + 1) 0 (Or.inl rfl) (by omega) (by omega)
      obtain ⟨o1, o2⟩ := ih (i + 1) 1 (Or.inr rfl) (by omega) (by omega)
      have zz := z2 (fun q => absurd q.1 (by decide))
      by_cases c0 : g = 0
      · rw [if_pos c0]
        exact ⟨fun q => absurd (c0.symm.trans q.1) (by decide), fun _ => zz⟩
      · rw [if_neg c0]
        have hg1 : g = 1 := by
          rcases hg with q | q
          · exact absurd q c0
          · exact q
        by_cases c1 : (0 : Int32).toInt ≤ (μ.1 3 (40 * r + i)).toInt ∧ (μ.1 3 (40 * r + i)).toInt ≤ (15 : Int32).toInt
        · rw [if_pos c1]
          by_cases c2 : μ.1 3 (40 * r + i) = μ.1 3 (40 * r + nx s i)
          · rw [if_pos c2]
            exact ⟨fun q => absurd ⟨i, by omega, Nat.le_refl _, c2⟩ q.2.2, fun _ => zz⟩
          · rw [if_neg c2]
            have both : (g = 1 ∧ aw (μ.1 3) (40 * r) s 0 15 i ∧ ¬ tw (μ.1 3) (40 * r) s i) ↔ ((1 : Int32) = 1 ∧ aw (μ.1 3) (40 * r) s 0 15 (i + 1) ∧ ¬ tw (μ.1 3) (40 * r) s (i + 1)) := by
              refine ⟨fun q => ⟨rfl, fun j x y => q.2.1 j x (by omega), fun ⟨j, x, y, z⟩ => q.2.2 ⟨j, x, by omega, z⟩⟩, fun q => ⟨hg1, fun j x y => ?_, fun ⟨j, x, y, z⟩ => q.2.2 ⟨j, x, ?_, z⟩⟩⟩
              · by_cases e : j = i
                · subst e
                  exact ⟨le_I.mpr c1.1, le_I.mpr c1.2⟩
                · exact q.2.1 j x (by omega)
              · by_cases e : j = i
                · subst e
                  exact absurd z c2
                · omega
            exact ⟨fun q => o1 (both.mp q), fun q => o2 (fun z => q (both.mpr z))⟩
        · rw [if_neg c1]
          exact ⟨fun q => absurd ⟨le_I.mp (q.2.1 i (by omega) (Nat.le_refl _)).1, le_I.mp (q.2.1 i (by omega) (Nat.le_refl _)).2⟩ c1, fun _ => zz⟩
