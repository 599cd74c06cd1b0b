/-! PURE 2: tally and shelf: asked, upper, lower, finding, findings, partOf, row, lay, tear, copy, mean -/
theorem ixb_iff {i : Int32} {n : Nat} : ixb i n = true ↔ 0 ≤ i.toInt ∧ i.toInt < n := by
  unfold ixb
  rw [decide_eq_true_eq]
  exact vp_in_iff
theorem clamp_toNat (x : Int32) : x.toNatClampNeg = x.toInt.toNat := rfl
theorem sm_asked {RC : Nat → Mm → Prop} (hR : RCok RC) (N : Nat) : Sm_asked (Rel RC) N := fun k _ μx μm h => ⟨μx.1 1 2, μx, μm, rfl, by rw [h.1.2.1]; rfl, h.next hR⟩
theorem sm_finding {RC : Nat → Mm → Prop} (hR : RCok RC) (N : Nat) : Sm_finding (Rel RC) N := fun k _ μx μm h => ⟨μx.1 1 1, μx, μm, rfl, by rw [h.1.1]; rfl, h.next hR⟩
theorem sm_upper {RC : Nat → Mm → Prop} (hR : RCok RC) (N : Nat) : Sm_upper (Rel RC) N := fun k _ μx μm h => ⟨μx.2 1 3, μx, μm, rfl, by rw [h.1.2.2.1]; rfl, h.next hR⟩
theorem sm_lower {RC : Nat → Mm → Prop} (hR : RCok RC) (N : Nat) : Sm_lower (Rel RC) N := fun k _ μx μm h => ⟨μx.2 1 4, μx, μm, rfl, by rw [h.1.2.2.2.1]; rfl, h.next hR⟩
theorem W_findings_eq (N : Nat) (f : Int32) (μ : Mm) : f_W_findings N f μ = some (if 1 ≤ f.toInt ∧ f.toInt ≤ 5 then μ.1 2 f.toNatClampNeg else -1, μ) := by
  unfold f_W_findings f_W_findings_B10
  repeat' split
  all_goals first | rfl | (exfalso; simp only [lt_I, le_I, eq_I, ixb_iff, Int32.reduceToInt] at *; omega)
theorem M_findings_eq (N : Nat) (f : Int32) (μ : Mm) : f_M_findings N f μ = some (if 1 ≤ f.toInt ∧ f.toInt ≤ 5 then μ.1 1 f.toNatClampNeg else -1, μ) := by
  unfold f_M_findings
  simp only [f_M_in_eq, bnS, if01, Int32.reduceToInt]
  repeat' split
  all_goals first | rfl | (exfalso; simp only [lt_I, le_I, eq_I, ixb_iff, Int32.reduceToInt] at *; omega)
theorem sm_findings {RC : Nat → Mm → Prop} (hR : RCok RC) (N : Nat) : Sm_findings (Rel RC) N := by
  intro k _ f μx μm h
  refine ⟨_, _, _, W_findings_eq N f μx, ?_, h.next hR⟩
  rw [M_findings_eq]
  by_cases c : 1 ≤ f.toInt ∧ f.toInt ≤ 5
  · rw [if_pos c, if_pos c, h.1.2.2.2.2 f.toNatClampNeg (by rw [clamp_toNat]; omega)]
  · rw [if_neg c, if_neg c]
theorem W_partOf_eq (N : Nat) (w l : Int32) (μ : Mm) : f_W_partOf N w l μ = some (if 0 ≤ w.toInt ∧ w.toInt < 8 then (if l = 0 then μ.1 80 w.toNatClampNeg else μ.1 81 w.toNatClampNeg) else -1, μ) := by
  unfold f_W_partOf
  repeat' split
  all_goals first | rfl | (exfalso; simp only [lt_I, le_I, eq_I, ixb_iff, Int32.reduceToInt] at *; omega)
theorem M_partOf_eq (N : Nat) (w l : Int32) (μ : Mm) : f_M_partOf N w l μ = some (if 0 ≤ w.toInt ∧ w.toInt < 8 then (if l = 0 then μ.1 29 w.toNatClampNeg else μ.1 30 w.toNatClampNeg) else -1, μ) := by
  unfold f_M_partOf
  simp only [f_M_in_eq, bnS, if01, Int32.reduceToInt]
  repeat' split
  all_goals first | rfl | (exfalso; simp only [lt_I, le_I, eq_I, ixb_iff, Int32.reduceToInt] at *; omega)
theorem sm_partOf {RC : Nat → Mm → Prop} (hR : RCok RC) (N : Nat) : Sm_partOf (Rel RC) N := by
  intro k _ w l _ μx μm h
  refine ⟨_, _, _, W_partOf_eq N w l μx, ?_, h.next hR⟩
  rw [M_partOf_eq]
  by_cases c : 0 ≤ w.toInt ∧ w.toInt < 8
  · have e := h.2.2.2.2.1 w.toNatClampNeg (by rw [clamp_toNat]; omega)
    rw [if_pos c, if_pos c, e.1, e.2]
  · rw [if_neg c, if_neg c]
/-! the rows -/
def fil (f : Nat → Int32) (lo hi : Nat) (v : Int32) : Nat → Int32 := fun j => if lo ≤ j ∧ j < hi then v else f j
theorem fil_nil (f : Nat → Int32) {lo hi : Nat} (h : hi ≤ lo) (v : Int32) : fil f lo hi v = f := by
  funext j
  unfold fil
  rw [if_neg (by omega)]
theorem fil_step (f : Nat → Int32) {lo hi : Nat} (h : lo < hi) (v : Int32) : fil (upd f lo v) (lo + 1) hi v = fil f lo hi v := by
  funext j
  unfold fil upd
  by_cases h1 : lo + 1 ≤ j ∧ j < hi
  · rw [if_pos h1, if_pos (by omega)]
  · rw [if_neg h1]
    by_cases h2 : j = lo
    · rw [if_pos h2, if_pos (by omega)]
    · rw [if_neg h2, if_neg (by omega)]
theorem ix40 (r i : Nat) : nI r * 40 + nI i = nI (40 * r + i) := by
  rw [show (40 : Int32) = nI 40 from rfl, pk_mul, nI_add, Nat.mul_comm]
theorem ix40' (r i : Nat) : 40 * nI r + nI i = nI (40 * r + i) := by
  rw [show (40 : Int32) = nI 40 from rfl, pk_mul, nI_add]
theorem nar0 : vp_nar .byte 0 = 0 := by decide
theorem Sf_put_loop (N r s : Nat) (hr : r < 8) (hs : s ≤ 40) : ∀ (n i : Nat) (μ : Mm), i ≤ s → s < n + i → f_Sf_put_L9 N n (nI r) (nI s) (nI i) μ = some (sA μ 4 (fil (μ.1 4) (40 * r + i) (40 * r + s) 0)) := by
  intro n
  induction n with
  | zero => intro i μ h1 h2; omega
  | succ n ih =>
    intro i μ h1 h2
    unfold f_Sf_put_L9
    by_cases h : i = s
    · subst h
      rw [if_pos (nI_le (Nat.le_refl _) (by omega)), fil_nil _ (Nat.le_refl _), sA_id]
    · rw [if_neg (nI_ge (by omega) (by omega))]
      unfold f_Sf_write
      simp only [ix40]
      rw [if_pos (ixb_t (by omega) (by decide)), bvS, nI_clamp (by omega), nI_1]
      rw [ih (i + 1) _ (by omega) (by omega), show ((0 : Int32).toInt8.toInt32) = 0 from rfl, nar0]
      rw [sA_sI, sI1, if_pos rfl, show 40 * r + (i + 1) = 40 * r + i + 1 by omega, fil_step _ (by omega)]
theorem M_row_loop (N r : Nat) (v : Int32) (hr : r < 8) : ∀ (n i : Nat) (μ : Mm), i ≤ 40 → 40 < n + i → f_M_row_L34 N n (nI r) v (nI i) μ = some (v, sA μ 3 (fil (μ.1 3) (40 * r + i) (40 * r + 40) 0)) := by
  intro n
  induction n with
  | zero => intro i μ h1 h2; omega
  | succ n ih =>
    intro i μ h1 h2
    unfold f_M_row_L34
    by_cases h : i = 40
    · subst h
      rw [if_pos (show (40 : Int32) ≤ nI 40 by decide), fil_nil _ (Nat.le_refl _), sA_id]
    · rw [if_neg (show ¬ (40 : Int32) ≤ nI i from nI_ge (b := 40) (by omega) (by omega))]
      simp only [ix40']
      rw [if_pos (ixb_t (by omega) (by decide)), nI_clamp (by omega), nI_1]
      rw [ih (i + 1) _ (by omega) (by omega), nar0]
      rw [sA_sI, sI1, if_pos rfl, show 40 * r + (i + 1) = 40 * r + i + 1 by omega, fil_step _ (by omega)]
theorem nI_tI {x : Int32} {n : Nat} (h0 : 0 ≤ x.toInt) (hn : x.toInt = n) : x = nI n := by
  have h1 : n < 2 ^ 31 := by have := x.toInt_lt; omega
  exact Int32.toInt_inj.mp (hn.trans (tI h1).symm)
theorem row_of {x : Int32} (n : Nat) (h : 0 ≤ x.toInt ∧ x.toInt < n) : ∃ j : Nat, j < n ∧ x = nI j := ⟨x.toInt.toNat, by omega, nI_tI h.1 (by omega)⟩
