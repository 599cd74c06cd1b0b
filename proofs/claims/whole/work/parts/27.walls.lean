/-! PURE 7: counting walls -/
theorem cntR_0 (f : Nat → Nat → Bool) (a : Nat) : ∀ b, b ≤ a + 1 → cntR f a b = 0
  | 0, _ => rfl
  | b + 1, h => by
    unfold cntR
    rw [cntR_0 f a b (by omega), if_neg (by omega)]
theorem cntR_eq {f g : Nat → Nat → Bool} {a : Nat} : ∀ {b : Nat}, (∀ y, y < b → a < y → f a y = g a y) → cntR f a b = cntR g a b
  | 0, _ => rfl
  | b + 1, h => by
    unfold cntR
    rw [cntR_eq (fun y hy => h y (by omega))]
    by_cases e : a < b
    · rw [h b (by omega) e]
    · rw [if_neg (fun q => e q.1), if_neg (fun q => e q.1)]
theorem cntP_eq {f g : Nat → Nat → Bool} {n : Nat} : ∀ {m : Nat}, (∀ x y, x < m → y < n → x < y → f x y = g x y) → cntP f n m = cntP g n m
  | 0, _ => rfl
  | m + 1, h => by
    unfold cntP
    rw [cntP_eq (fun x y hx => h x y (by omega)), cntR_eq (fun y hy => h m y (by omega) hy)]
/-- one pair more -/
theorem cntR_one {f g : Nat → Nat → Bool} {x a b : Nat} (hab : a < b) (h0 : f a b = false) (h1 : g a b = true) (ho : ∀ y, x < y → ¬ (x = a ∧ y = b) → g x y = f x y) : ∀ m, cntR g x m = cntR f x m + (if x = a ∧ b < m then 1 else 0)
  | 0 => by
    rw [if_neg (by omega)]
    rfl
  | m + 1 => by
    unfold cntR
    rw [cntR_one hab h0 h1 ho m]
    by_cases e : x = a ∧ m = b
    · obtain ⟨rfl, rfl⟩ := e
      rw [if_neg (by omega), if_pos ⟨hab, h1⟩, if_neg (by rw [h0]; simp), if_pos (by omega)]
    · by_cases e2 : x < m
      · rw [ho m e2 e]
        by_cases e3 : x = a ∧ b < m
        · rw [if_pos e3, if_pos (show x = a ∧ b < m + 1 by omega)]
          omega
        · rw [if_neg e3, if_neg (show ¬ (x = a ∧ b < m + 1) by omega)]
          omega
      · rw [if_neg (show ¬ (x < m ∧ g x m = true) from fun q => e2 q.1), if_neg (show ¬ (x < m ∧ f x m = true) from fun q => e2 q.1)]
        by_cases e3 : x = a ∧ b < m
        · rw [if_pos e3, if_pos (show x = a ∧ b < m + 1 by omega)]
        · rw [if_neg e3, if_neg (show ¬ (x = a ∧ b < m + 1) by omega)]
theorem cntP_one {f g : Nat → Nat → Bool} {n a b : Nat} (hab : a < b) (hb : b < n) (h0 : f a b = false) (h1 : g a b = true) (ho : ∀ x y, x < y → ¬ (x = a ∧ y = b) → g x y = f x y) : ∀ m, cntP g n m = cntP f n m + (if a < m then 1 else 0)
  | 0 => by
    rw [if_neg (by omega)]
    rfl
  | m + 1 => by
    unfold cntP
    rw [cntP_one hab hb h0 h1 ho m, cntR_one hab h0 h1 (fun y hy => ho m y hy) n]
    by_cases e : m = a
    · rw [if_pos (show m = a ∧ b < n from ⟨e, hb⟩), if_neg (by omega), if_pos (by omega)]
      omega
    · rw [if_neg (show ¬ (m = a ∧ b < n) from fun q => e q.1)]
      by_cases e2 : a < m
      · rw [if_pos e2, if_pos (by omega)]
        omega
      · rw [if_neg e2, if_neg (by omega)]
        omega
theorem cntR_z {f : Nat → Nat → Bool} (h : ∀ x y, f x y = false) (a : Nat) : ∀ b, cntR f a b = 0
  | 0 => rfl
  | b + 1 => by unfold cntR; rw [cntR_z h a b, h a b]; simp
theorem cntP_z {f : Nat → Nat → Bool} (h : ∀ x y, f x y = false) (n : Nat) : ∀ m, cntP f n m = 0
  | 0 => rfl
  | m + 1 => by unfold cntP; rw [cntP_z h n m, cntR_z h]
/-- what the reference counts -/
def wF (μ : Mm) (z : Int32) (a b : Nat) : Bool := if μ.1 5 (16 * a + b) ≤ 0 then false else if z = 0 then true else if μ.1 6 (16 * a + b) = 0 then false else true
theorem M_walls_in (N n a : Nat) (hn : n ≤ 16) (ha : a < 16) (z X : Int32) (μ : Mm) (e : μ.1 0 9 = nI n) (k4 : Int32 → Int32 → Int32 → Mm → Option (Int32 × Mm)) : ∀ (m b : Nat), a < b → b ≤ n → n < m + b → f_M_walls_L17 N k4 m z (X + nI (cntR (wF μ z) a b)) (nI a) (nI b) μ = f_M_walls_B74 N k4 z (X + nI (cntR (wF μ z) a n)) (nI a) μ := by
  intro m
  induction m with
  | zero => intro b h1 h2 h3; omega
  | succ m ih =>
    intro b h1 h2 h3
    rw [f_M_walls_L17, e]
    by_cases h : b = n
    · subst h
      rw [if_pos (nI_le (Nat.le_refl _) (by omega))]
    · rw [if_neg (nI_ge (by omega) (by omega))]
      simp only [ix16']
      simp only [if_pos (ixb_t (show 16 * a + b < 256 by omega) (show 256 < 2 ^ 31 by decide)), nI_clamp (show 16 * a + b < 2 ^ 31 by omega)]
      unfold f_M_walls_B65 f_M_walls_B61 f_M_walls_B66
      simp only [nI_1]
      have hh := ih (b + 1) (by omega) (by omega) (by omega)
      have ef : cntR (wF μ z) a (b + 1) = cntR (wF μ z) a b + (if wF μ z a b = true then 1 else 0) := by
        show cntR (wF μ z) a b + (if a < b ∧ wF μ z a b = true then 1 else 0) = _
        by_cases q : wF μ z a b = true
        · rw [if_pos ⟨h1, q⟩, if_pos q]
        · rw [if_neg (fun w => q w.2), if_neg q]
      have t0 : wF μ z a b = false → X + nI (cntR (wF μ z) a b) + 0 = X + nI (cntR (wF μ z) a (b + 1)) := fun q => by
        rw [ef, q, Int32.add_zero]; rfl
      have t1 : wF μ z a b = true → X + nI (cntR (wF μ z) a b) + 1 = X + nI (cntR (wF μ z) a (b + 1)) := fun q => by
        rw [ef, if_pos q, Int32.add_assoc, nI_1]
      by_cases c1 : μ.1 5 (16 * a + b) ≤ 0
      · rw [if_pos c1, t0 (by unfold wF; rw [if_pos c1])]
        exact hh
      · rw [if_neg c1]
        by_cases c2 : z = 0
        · rw [if_pos c2, t1 (by unfold wF; rw [if_neg c1, if_pos c2])]
          exact hh
        · rw [if_neg c2]
          by_cases c3 : μ.1 6 (16 * a + b) = 0
          · rw [if_pos c3, t0 (by unfold wF; rw [if_neg c1, if_neg c2, if_pos c3])]
            exact hh
          · rw [if_neg c3, t1 (by unfold wF; rw [if_neg c1, if_neg c2, if_neg c3])]
            exact hh
theorem M_walls_out (N n : Nat) (hn : n ≤ 16) (hN : 20 ≤ N) (z : Int32) (μ : Mm) (e : μ.1 0 9 = nI n) : ∀ (m a : Nat), a ≤ n → n < m + a → f_M_walls_L4 N m z (nI (cntP (wF μ z) n a)) (nI a) μ = some (nI (cntP (wF μ z) n n), μ) := by
  intro m
  induction m with
  | zero => intro a h1 h2; omega
  | succ m ih =>
    intro a h1 h2
    rw [f_M_walls_L4, e]
    by_cases h : a = n
    · subst h
      rw [if_pos (nI_le (Nat.le_refl _) (by omega))]
    · rw [if_neg (nI_ge (by omega) (by omega)), nI_1]
      have hh := M_walls_in N n a hn (by omega) z (nI (cntP (wF μ z) n a)) μ e (f_M_walls_L4 N m) N (a + 1) (by omega) (by omega) (by omega)
      rw [cntR_0 _ _ _ (Nat.le_refl _), show nI 0 = 0 from rfl, Int32.add_zero] at hh
      rw [hh]
      unfold f_M_walls_B74
      rw [nI_add, nI_1]
      exact ih (a + 1) (by omega) (by omega)
theorem M_walls_eq (N n : Nat) (hn : n ≤ 16) (hN : 20 ≤ N) (z : Int32) (μ : Mm) (e : μ.1 0 9 = nI n) : f_M_walls N z μ = some (nI (cntP (wF μ z) n n), μ) := by
  unfold f_M_walls
  exact M_walls_out N n hn hN z μ e N 0 (by omega) (by omega)
theorem wF0 {μ : Mm} {a b : Nat} (h : 0 ≤ (μ.1 5 (16 * a + b)).toInt) : wF μ 0 a b = decide (μ.1 5 (16 * a + b) ≠ 0) := by
  unfold wF
  by_cases c : μ.1 5 (16 * a + b) = 0
  · rw [c, if_pos (show (0 : Int32) ≤ 0 by decide)]; rfl
  · have : ¬ μ.1 5 (16 * a + b) ≤ 0 := fun q => by
      have q1 := le_I.mp q
      rw [show (0 : Int32).toInt = 0 from rfl] at q1
      exact c (eq_I.mpr (by rw [show (0 : Int32).toInt = 0 from rfl]; omega))
    rw [if_neg this, if_pos rfl]
    simp [c]
theorem wF1 {μ : Mm} {a b : Nat} (h : 0 ≤ (μ.1 5 (16 * a + b)).toInt) (h2 : μ.1 5 (16 * a + b) = 0 → μ.1 6 (16 * a + b) = 0) : wF μ 1 a b = decide (μ.1 6 (16 * a + b) ≠ 0) := by
  unfold wF
  by_cases c : μ.1 5 (16 * a + b) = 0
  · rw [c, h2 c]; decide
  · have : ¬ μ.1 5 (16 * a + b) ≤ 0 := fun q => by
      have q1 := le_I.mp q
      rw [show (0 : Int32).toInt = 0 from rfl] at q1
      exact c (eq_I.mpr (by rw [show (0 : Int32).toInt = 0 from rfl]; omega))
    rw [if_neg this, if_neg (show ¬ (1 : Int32) = 0 by decide)]
    by_cases c2 : μ.1 6 (16 * a + b) = 0 <;> simp [c2]
