/-! PURE 4: lay, mean -/
theorem byte_in (v : Int32) : -128 ≤ (vp_nar .byte v).toInt ∧ (vp_nar .byte v).toInt ≤ 127 := by
  rw [vp_nar_byte]
  have h1 := v.toInt8.toInt_lt
  have h2 := v.toInt8.le_toInt
  have e : (v.toInt8.toInt32).toInt = v.toInt8.toInt := Int8.toInt_toInt32 _
  omega
theorem Sf_byteAt_eq (N : Nat) {r i : Nat} (hr : r < 8) (hi : i < 40) (μ : Mm) : f_Sf_byteAt N (nI r) (nI i) μ = some (μ.1 4 (40 * r + i), μ) := by
  unfold f_Sf_byteAt
  simp only [ix40]
  rw [if_pos (ixb_t (by omega) (by decide)), nI_clamp (by omega)]
theorem M_at_eq (N : Nat) {r i : Nat} (hr : r < 8) (hi : i < 40) (μ : Mm) : f_M_at N (nI r) (nI i) μ = some (μ.1 3 (40 * r + i), μ) := by
  unfold f_M_at
  simp only [ix40']
  rw [if_pos (ixb_t (by omega) (by decide)), nI_clamp (by omega)]
theorem Sf_write_eq (N : Nat) {r i : Nat} (hr : r < 8) (hi : i < 40) (v : Int32) (μ : Mm) : f_Sf_write N (nI r) (nI i) v μ = some (sI μ 4 (40 * r + i) (vp_nar .byte v.toInt8.toInt32)) := by
  unfold f_Sf_write
  simp only [ix40]
  rw [if_pos (ixb_t (by omega) (by decide)), nI_clamp (by omega)]
theorem Sf_sizeOf_eq (N : Nat) {r : Nat} (hr : r < 8) (μ : Mm) : f_Sf_sizeOf N (nI r) μ = some (μ.1 5 r, μ) := by
  unfold f_Sf_sizeOf
  rw [if_pos (ixb_t hr (by decide)), nI_clamp (by omega)]
theorem size_nI {x : Int32} (h0 : (0 : Int32) ≤ x) (h4 : x.toInt ≤ 40) : ∃ s : Nat, s ≤ 40 ∧ x = nI s := by
  have := le_I.mp h0
  rw [show (0 : Int32).toInt = 0 from rfl] at this
  obtain ⟨s, hs, e⟩ := row_of (x := x) 41 ⟨this, by omega⟩
  exact ⟨s, by omega, e⟩
theorem sm_lay {RC : Nat → Mm → Prop} (hR : RCok RC) (N : Nat) : Sm_lay (Rel RC) N := by
  intro k _ a1 a2 a3 μx μm h
  unfold f_W_lay f_M_lay f_W_lay_B45
  rw [f_W_isRow_eq, f_M_isRow_eq]
  simp only [bnS, if01]
  by_cases c : 0 ≤ a1.toInt ∧ a1.toInt < 8
  · rw [if_pos c, if_pos c]
    obtain ⟨r, hr, rfl⟩ := row_of 8 c
    obtain ⟨s1, s2, s3⟩ := id h.2.1
    obtain ⟨t1, t2, t3, t4⟩ := s1 r hr
    rw [Sf_lacks_eq N hr, if_pos (ixb_t hr (by decide)), nI_clamp (by omega)]
    simp only [bnS, if01]
    by_cases c2 : (0 : Int32) ≤ μm.1 2 r
    · rw [if_neg (show ¬ μx.1 5 r = -1 by rw [t1, neg1 t2]; exact fun q => q c2), if_pos c2, Sf_sizeOf_eq N hr, if_pos (ixb_t hr (by decide))]
      obtain ⟨s, hs, es⟩ := size_nI c2 t3
      simp only [bnS, f_M_in_eq, if01, t1, es]
      have e9 : ((0 : Int32).toInt ≤ a2.toInt ∧ a2.toInt ≤ (nI s - 1).toInt) ↔ (0 ≤ a2.toInt ∧ a2.toInt < s) := by
        rw [show (1 : Int32) = nI 1 from rfl, pk_sub_toInt (by omega) (by decide), show (0 : Int32).toInt = 0 from rfl]
        omega
      by_cases c3 : 0 ≤ a2.toInt ∧ a2.toInt < s
      · obtain ⟨i, hi, rfl⟩ := row_of (x := a2) s c3
        rw [if_neg (nI_pos (by omega)), if_pos (nI_lt hi (by omega)), if_pos (e9.mpr c3), Sf_byteAt_eq N hr (by omega), M_at_eq N hr (by omega)]
        simp only [bnS]
        rw [Sf_write_eq N hr (by omega)]
        simp only [bvS, ix40']
        rw [if_pos (ixb_t (by omega) (by decide)), nI_clamp (by omega)]
        refine ⟨_, _, sI μm 3 (40 * r + i) (vp_nar .byte a3.toInt8.toInt32), rfl, ?_, h.shelf hR (fun c h4 h5 => by rw [sI1, if_neg h4]) rfl (fun c h2 h3 _ => by rw [sI1, if_neg h3]) rfl ?_⟩
        · rw [← t4 i (by rw [es, tI (by omega)]; omega), Int32.add_comm]
        · refine ⟨fun q hq => ?_, fun j => ?_, fun j => ?_⟩
          · show μx.1 5 q = μm.1 2 q ∧ -1 ≤ (μm.1 2 q).toInt ∧ (μm.1 2 q).toInt ≤ 40 ∧ ∀ j : Nat, (j : Int) < (μm.1 2 q).toInt → upd (μx.1 4) (40 * r + i) _ (40 * q + j) = upd (μm.1 3) (40 * r + i) _ (40 * q + j)
            obtain ⟨u1, u2, u3, u4⟩ := s1 q hq
            refine ⟨u1, u2, u3, fun j hj => ?_⟩
            rw [upd_at, upd_at]
            by_cases e : 40 * q + j = 40 * r + i
            · rw [if_pos e, if_pos e]
            · rw [if_neg e, if_neg e]
              exact u4 j hj
          · show -128 ≤ (upd (μx.1 4) (40 * r + i) _ j).toInt ∧ (upd (μx.1 4) (40 * r + i) _ j).toInt ≤ 127
            rw [upd_at]
            split
            · exact byte_in _
            · exact s2 j
          · show -128 ≤ (upd (μm.1 3) (40 * r + i) _ j).toInt ∧ (upd (μm.1 3) (40 * r + i) _ j).toInt ≤ 127
            rw [upd_at]
            split
            · exact byte_in _
            · exact s3 j
      · rw [if_neg (fun q => c3 (e9.mp q)), show (2 : Int32) = nI 2 from rfl, f_Ta_found_eq N (by decide), f_M_meets_eq N (by decide)]
        simp only [bnS]
        by_cases c4 : a2 < 0
        · rw [if_pos c4]
          exact ⟨_, _, _, rfl, rfl, h.found hR 2⟩
        · rw [if_neg c4, if_neg (show ¬ a2 < nI s from fun q => c3 (by
            have q1 := lt_I.mp q
            rw [tI (by omega)] at q1
            have q2 : ¬ a2.toInt < 0 := fun z => c4 (lt_I.mpr z)
            omega))]
          exact ⟨_, _, _, rfl, rfl, h.found hR 2⟩
    · rw [if_pos (show μx.1 5 r = -1 by rw [t1, neg1 t2]; exact c2), if_neg c2, show (1 : Int32) = nI 1 from rfl, f_Ta_found_eq N (by decide), f_M_meets_eq N (by decide)]
      exact ⟨_, _, _, rfl, rfl, h.found hR 1⟩
  · rw [if_neg c, if_neg c]
    exact ⟨_, _, _, rfl, rfl, h.next hR⟩
/-- the sum of places a .. a + n - 1 -/
def sumF (f : Nat → Int32) (a : Nat) : Nat → Int32
  | 0 => 0
  | n + 1 => sumF f a n + f (a + n)
theorem Sf_sum_loop (N r s : Nat) (hr : r < 8) (hs : s ≤ 40) (μ : Mm) (hz : μ.1 5 r = nI s) : ∀ (n i : Nat), i ≤ s → s < n + i → f_Sf_sumOf_L4 N n (nI r) (sumF (μ.1 4) (40 * r) i) (nI i) μ = some (sumF (μ.1 4) (40 * r) s, μ) := by
  intro n
  induction n with
  | zero => intro i h1 h2; omega
  | succ n ih =>
    intro i h1 h2
    unfold f_Sf_sumOf_L4
    rw [if_pos (ixb_t hr (by decide)), nI_clamp (by omega), hz]
    by_cases h : i = s
    · subst h
      rw [if_pos (nI_le (Nat.le_refl _) (by omega))]
    · rw [if_neg (nI_ge (by omega) (by omega)), Sf_byteAt_eq N hr (by omega)]
      simp only [bnS, nI_1]
      exact ih (i + 1) (by omega) (by omega)
theorem M_mean_loop (N r s : Nat) (hr : r < 8) (hs : s ≤ 40) (μ : Mm) (hz : μ.1 2 r = nI s) : ∀ (n i : Nat), i ≤ s → s < n + i → f_M_mean_L28 N n (nI r) (sumF (μ.1 3) (40 * r) i) (nI i) μ = f_M_mean_B53 N (nI r) (sumF (μ.1 3) (40 * r) s) μ := by
  intro n
  induction n with
  | zero => intro i h1 h2; omega
  | succ n ih =>
    intro i h1 h2
    rw [f_M_mean_L28]
    rw [if_pos (ixb_t hr (by decide)), nI_clamp (by omega), hz]
    by_cases h : i = s
    · subst h
      rw [if_pos (nI_le (Nat.le_refl _) (by omega))]
    · rw [if_neg (nI_ge (by omega) (by omega)), M_at_eq N hr (by omega)]
      simp only [bnS, nI_1]
      exact ih (i + 1) (by omega) (by omega)
theorem sumF_eq {f g : Nat → Int32} {a : Nat} : ∀ {n : Nat}, (∀ i, i < n → f (a + i) = g (a + i)) → sumF f a n = sumF g a n
  | 0, _ => rfl
  | n + 1, h => by
    unfold sumF
    rw [sumF_eq (fun i hi => h i (by omega)), h n (by omega)]
theorem sm_mean {RC : Nat → Mm → Prop} (hR : RCok RC) {N : Nat} (hN : 100 ≤ N) : Sm_mean (Rel RC) N := by
  intro k _ a1 μx μm h
  unfold f_W_mean f_M_mean
  rw [f_W_isRow_eq, f_M_isRow_eq]
  simp only [bnS, if01]
  by_cases c : 0 ≤ a1.toInt ∧ a1.toInt < 8
  · rw [if_pos c, if_pos c]
    obtain ⟨r, hr, rfl⟩ := row_of 8 c
    obtain ⟨s1, s2, s3⟩ := id h.2.1
    obtain ⟨t1, t2, t3, t4⟩ := s1 r hr
    rw [Sf_lacks_eq N hr, if_pos (ixb_t hr (by decide)), nI_clamp (by omega)]
    simp only [bnS, if01]
    by_cases c2 : (0 : Int32) ≤ μm.1 2 r
    · rw [if_neg (show ¬ μx.1 5 r = -1 by rw [t1, neg1 t2]; exact fun q => q c2), if_pos c2, Sf_sizeOf_eq N hr]
      obtain ⟨s, hs, es⟩ := size_nI c2 t3
      have ex : μx.1 5 r = nI s := t1.trans es
      have hl := M_mean_loop N r s hr hs μm es N 0 (by omega) (by omega)
      rw [show sumF (μm.1 3) (40 * r) 0 = 0 from rfl, show nI 0 = 0 from rfl] at hl
      rw [hl]
      unfold f_M_mean_B53
      rw [if_pos (ixb_t hr (by decide)), nI_clamp (by omega), es, if_pos (ixb_t hr (by decide))]
      simp only [bnS, ex]
      by_cases c3 : s = 0
      · subst c3
        rw [if_neg (show ¬ (1 : Int32) ≤ nI 0 by decide), if_pos (show nI 0 = 0 from rfl), show (4 : Int32) = nI 4 from rfl, f_Ta_found_eq N (by decide), f_M_meets_eq N (by decide)]
        exact ⟨_, _, _, rfl, rfl, h.found hR 4⟩
      · have n0 : ¬ nI s = 0 := nI_ne0 (by omega) (by omega)
        rw [if_pos (show (1 : Int32) ≤ nI s from nI_le (a := 1) (by omega) (by omega)), if_neg n0, if_neg n0]
        unfold f_Sf_sumOf
        have hl2 := Sf_sum_loop N r s hr hs μx ex N 0 (by omega) (by omega)
        rw [show sumF (μx.1 4) (40 * r) 0 = 0 from rfl, show nI 0 = 0 from rfl] at hl2
        rw [hl2]
        simp only [bnS]
        rw [if_neg n0]
        refine ⟨_, _, _, rfl, ?_, h.next hR⟩
        rw [sumF_eq (fun i hi => (t4 i (by rw [es, tI (by omega)]; omega)))]
    · rw [if_pos (show μx.1 5 r = -1 by rw [t1, neg1 t2]; exact c2), if_neg c2, show (1 : Int32) = nI 1 from rfl, f_Ta_found_eq N (by decide), f_M_meets_eq N (by decide)]
      exact ⟨_, _, _, rfl, rfl, h.found hR 1⟩
  · rw [if_neg c, if_neg c]
    exact ⟨_, _, _, rfl, rfl, h.next hR⟩
