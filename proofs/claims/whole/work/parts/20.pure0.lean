/-! PURE 0: reading and writing memories, ints as numbers, running functions -/
theorem sI1 (μ : Mm) (c k : Nat) (v : Int32) (c' : Nat) : (sI μ c k v).1 c' = if c' = c then upd (μ.1 c) k v else μ.1 c' := rfl
theorem sI2 (μ : Mm) (c k : Nat) (v : Int32) : (sI μ c k v).2 = μ.2 := rfl
theorem sL1 (μ : Mm) (c k : Nat) (v : Int64) : (sL μ c k v).1 = μ.1 := rfl
theorem sL2 (μ : Mm) (c k : Nat) (v : Int64) (c' : Nat) : (sL μ c k v).2 c' = if c' = c then vp_updL (μ.2 c) k v else μ.2 c' := rfl
theorem sA1 (μ : Mm) (c : Nat) (f : Nat → Int32) (c' : Nat) : (sA μ c f).1 c' = if c' = c then f else μ.1 c' := rfl
theorem sA2 (μ : Mm) (c : Nat) (f : Nat → Int32) : (sA μ c f).2 = μ.2 := rfl
theorem upd_at (f : Nat → Int32) (k : Nat) (v : Int32) (j : Nat) : upd f k v j = if j = k then v else f j := rfl
theorem updL_at (f : Nat → Int64) (k : Nat) (v : Int64) (j : Nat) : vp_updL f k v j = if j = k then v else f j := rfl
theorem bnS {α β : Type} (r : α) (μ : Mm) (k : α → Mm → Option β) : bn (some (r, μ)) k = k r μ := rfl
theorem bvS {β : Type} (μ : Mm) (k : Mm → Option β) : bv (some μ) k = k μ := rfl
theorem sA_sI (μ : Mm) (c k : Nat) (v : Int32) (f : Nat → Int32) : sA (sI μ c k v) c f = sA μ c f := by
  unfold sA sI
  refine Prod.ext ?_ rfl
  funext c'
  by_cases h : c' = c <;> simp [h]
theorem sA_sA (μ : Mm) (c : Nat) (f g : Nat → Int32) : sA (sA μ c f) c g = sA μ c g := by
  unfold sA
  refine Prod.ext ?_ rfl
  funext c'
  by_cases h : c' = c <;> simp [h]
theorem sA_id (μ : Mm) (c : Nat) : sA μ c (μ.1 c) = μ := by
  unfold sA
  refine Prod.ext ?_ rfl
  funext c'
  by_cases h : c' = c <;> simp [h]
theorem sI_sA (μ : Mm) (c k : Nat) (v : Int32) : sI μ c k v = sA μ c (upd (μ.1 c) k v) := rfl
theorem sA_comm (μ : Mm) {c d : Nat} (h : c ≠ d) (f g : Nat → Int32) : sA (sA μ c f) d g = sA (sA μ d g) c f := by
  unfold sA
  refine Prod.ext ?_ rfl
  funext c'
  by_cases h1 : c' = d
  · subst h1
    simp [Ne.symm h]
  · by_cases h2 : c' = c <;> simp [h1, h2, h]
theorem ixb_nI {j n : Nat} (hj : j < 2 ^ 31) : ixb (nI j) n = decide (j < n) := by
  unfold ixb
  rw [nI_clamp hj]
  have h1 := nI_pos (n := j) hj
  by_cases h : j < n
  · simp [h1, h]
  · simp [h1, h]
theorem ixb_t {j n : Nat} (hj : j < n) (hn : n < 2 ^ 31) : ixb (nI j) n = true := by
  rw [ixb_nI (by omega)]
  simpa using hj
/-- any int is small, large, or one of few -/
theorem three (x : Int32) (n : Nat) (hn : n < 2 ^ 31) : x < 0 ∨ nI n ≤ x ∨ ∃ j : Nat, j < n ∧ x = nI j := pk_ix x hn
theorem lt_I {x y : Int32} : x < y ↔ x.toInt < y.toInt := Int32.lt_iff_toInt_lt
theorem le_I {x y : Int32} : x ≤ y ↔ x.toInt ≤ y.toInt := Int32.le_iff_toInt_le
theorem eq_I {x y : Int32} : x = y ↔ x.toInt = y.toInt := Int32.toInt_inj.symm
theorem tI {n : Nat} (h : n < 2 ^ 31) : (nI n).toInt = (n : Int) := nI_toInt h
theorem f_W_isRow_eq (N : Nat) (r : Int32) (μ : Mm) : f_W_isRow N r μ = some (if 0 ≤ r.toInt ∧ r.toInt < 8 then 1 else 0, μ) := by
  unfold f_W_isRow
  by_cases h1 : r < 0
  · rw [if_pos h1, if_neg]
    have : r.toInt < 0 := lt_I.mp h1
    omega
  · have h1' : ¬ r.toInt < 0 := fun q => h1 (lt_I.mpr q)
    rw [if_neg h1]
    by_cases h2 : (8 : Int32) ≤ r
    · rw [if_pos h2, if_neg]
      have : (8 : Int) ≤ r.toInt := le_I.mp h2
      omega
    · have h2' : ¬ (8 : Int) ≤ r.toInt := fun q => h2 (le_I.mpr q)
      rw [if_neg h2, if_pos (by omega)]
theorem f_M_in_eq (N : Nat) (v a b : Int32) (μ : Mm) : f_M_in N v a b μ = some (if a.toInt ≤ v.toInt ∧ v.toInt ≤ b.toInt then 1 else 0, μ) := by
  unfold f_M_in
  by_cases h1 : v < a
  · rw [if_pos h1, if_neg]
    have := lt_I.mp h1
    omega
  · have h1' : ¬ v.toInt < a.toInt := fun q => h1 (lt_I.mpr q)
    rw [if_neg h1]
    by_cases h2 : b < v
    · rw [if_pos h2, if_neg]
      have := lt_I.mp h2
      omega
    · have h2' : ¬ b.toInt < v.toInt := fun q => h2 (lt_I.mpr q)
      rw [if_neg h2, if_pos (by omega)]
theorem zb01 (c : Prop) (i : Decidable c) : zb (@ite Int32 c i 1 0) = true := by
  by_cases h : c <;> simp [h, zb]
theorem if01 {α : Type} (c : Prop) (i : Decidable c) (A B : α) : (if (@ite Int32 c i 1 0) = 0 then A else B) = if c then B else A := by
  by_cases h : c <;> simp [h]
theorem f_M_isRow_eq (N : Nat) (r : Int32) (μ : Mm) : f_M_isRow N r μ = some (if 0 ≤ r.toInt ∧ r.toInt < 8 then 1 else 0, μ) := by
  unfold f_M_isRow
  rw [f_M_in_eq, bnS, if_pos (zb01 _ _)]
  have e : ((0 : Int32).toInt ≤ r.toInt ∧ r.toInt ≤ (7 : Int32).toInt) ↔ (0 ≤ r.toInt ∧ r.toInt < 8) := by
    rw [show (0 : Int32).toInt = 0 from rfl, show (7 : Int32).toInt = 7 from rfl]
    omega
  by_cases h : 0 ≤ r.toInt ∧ r.toInt < 8
  · rw [if_pos h, if_pos (e.mpr h)]
  · rw [if_neg h, if_neg (fun q => h (e.mp q))]
/-- what a finding does on either side -/
def tf (μ : Mm) (f : Nat) : Mm := sI (sI μ 1 1 (nI f)) 2 f (μ.1 2 f + 1)
def mf (μ : Mm) (f : Nat) : Mm := sI (sI μ 0 0 (nI f)) 1 f (μ.1 1 f + 1)
theorem f_Ta_found_eq (N : Nat) {f : Nat} (hf : f < 6) (μ : Mm) : f_Ta_found N (nI f) μ = some (-3, tf μ f) := by
  unfold f_Ta_found
  simp only [ixb_t hf (by decide), if_true, nI_clamp (show f < 2 ^ 31 by omega), sI1, if_neg (show ¬ (2 : Nat) = 1 by decide)]
  rfl
theorem f_M_meets_eq (N : Nat) {f : Nat} (hf : f < 6) (μ : Mm) : f_M_meets N (nI f) μ = some (-3, mf μ f) := by
  unfold f_M_meets
  simp only [ixb_t hf (by decide), if_true, nI_clamp (show f < 2 ^ 31 by omega), sI1, if_neg (show ¬ (1 : Nat) = 0 by decide)]
  rfl
