/-! PURE 5: copy -/
theorem fd1 (N : Nat) (μ : Mm) : f_Ta_found N 1 μ = some (-3, tf μ 1) := f_Ta_found_eq N (f := 1) (by decide) μ
theorem md1 (N : Nat) (μ : Mm) : f_M_meets N 1 μ = some (-3, mf μ 1) := f_M_meets_eq N (f := 1) (by decide) μ
theorem fd2 (N : Nat) (μ : Mm) : f_Ta_found N 2 μ = some (-3, tf μ 2) := f_Ta_found_eq N (f := 2) (by decide) μ
theorem md2 (N : Nat) (μ : Mm) : f_M_meets N 2 μ = some (-3, mf μ 2) := f_M_meets_eq N (f := 2) (by decide) μ
theorem fd3 (N : Nat) (μ : Mm) : f_Ta_found N 3 μ = some (-3, tf μ 3) := f_Ta_found_eq N (f := 3) (by decide) μ
theorem md3 (N : Nat) (μ : Mm) : f_M_meets N 3 μ = some (-3, mf μ 3) := f_M_meets_eq N (f := 3) (by decide) μ
theorem fd4 (N : Nat) (μ : Mm) : f_Ta_found N 4 μ = some (-3, tf μ 4) := f_Ta_found_eq N (f := 4) (by decide) μ
theorem md4 (N : Nat) (μ : Mm) : f_M_meets N 4 μ = some (-3, mf μ 4) := f_M_meets_eq N (f := 4) (by decide) μ
theorem fd5 (N : Nat) (μ : Mm) : f_Ta_found N 5 μ = some (-3, tf μ 5) := f_Ta_found_eq N (f := 5) (by decide) μ
theorem md5 (N : Nat) (μ : Mm) : f_M_meets N 5 μ = some (-3, mf μ 5) := f_M_meets_eq N (f := 5) (by decide) μ
theorem l64 (a : Int32) : a.toInt64.toInt = a.toInt := Int32.toInt_toInt64 a
theorem l64add (a b : Int32) : (a.toInt64 + b.toInt64).toInt = a.toInt + b.toInt := by
  rw [Int64.toInt_add, l64, l64]
  have h1 := a.toInt_lt
  have h2 := a.le_toInt
  have h3 := b.toInt_lt
  have h4 := b.le_toInt
  rw [Int.bmod_eq_of_le] <;> omega
theorem cmp_gt (x y : Int64) : (0 : Int32) < lg_cmp x y ↔ y.toInt < x.toInt := (lg_cmp_gt x y).trans Int64.lt_iff_toInt_lt
theorem cmp_le (x y : Int64) : lg_cmp x y ≤ (0 : Int32) ↔ x.toInt ≤ y.toInt := (lg_cmp_le x y).trans Int64.le_iff_toInt_le
theorem Sf_holds_eq (N : Nat) {r s : Nat} (hr : r < 8) (hs : s ≤ 40) (i n : Int32) (μ : Mm) (e : μ.1 5 r = nI s) : f_Sf_holds N (nI r) i n μ = some (if 0 ≤ i.toInt ∧ 0 ≤ n.toInt ∧ i.toInt + n.toInt ≤ s then 1 else 0, μ) := by
  unfold f_Sf_holds
  rw [nI_clamp (show r < 2 ^ 31 by omega), e]
  have h9 := tI (show s < 2 ^ 31 by omega)
  have hx : 0 ≤ i.toInt → i.toInt ≤ s → (nI s - i).toInt = s - i.toInt := fun h1 h2 => by
    rw [Int32.toInt_sub, h9]
    rw [Int.bmod_eq_of_le] <;> omega
  repeat' split
  all_goals first | rfl | (exfalso; simp only [lt_I, le_I, eq_I, ixb_iff, Int32.reduceToInt, h9] at *; rw [tI (by omega)] at *; omega) | (exfalso; simp only [lt_I, le_I, eq_I, ixb_iff, Int32.reduceToInt, h9] at *; omega) | (exfalso; simp only [lt_I, le_I, eq_I, ixb_iff, Int32.reduceToInt, h9] at *; rw [hx (by omega) (by omega)] at *; omega) | (exfalso; rename_i q1 q2 q3 q4; rw [ixb_t hr (by decide)] at *; simp at *; done)
def gfil (f g : Nat → Int32) (lo hi : Nat) : Nat → Int32 := fun j => if lo ≤ j ∧ j < hi then g j else f j
theorem gfil_nil (f g : Nat → Int32) {lo hi : Nat} (h : hi ≤ lo) : gfil f g lo hi = f := by
  funext j
  unfold gfil
  rw [if_neg (by omega)]
theorem gfil_step (f g : Nat → Int32) {lo hi : Nat} (h : lo < hi) : gfil (upd f lo (g lo)) g (lo + 1) hi = gfil f g lo hi := by
  funext j
  unfold gfil upd
  by_cases h1 : lo + 1 ≤ j ∧ j < hi
  · rw [if_pos h1, if_pos (by omega)]
  · rw [if_neg h1]
    by_cases h2 : j = lo
    · rw [if_pos h2, if_pos (by omega), h2]
    · rw [if_neg h2, if_neg (by omega)]
theorem M_copy1 (N r i t j c : Nat) (hr : r < 8) (hc : i + c ≤ 40) : ∀ (n q : Nat) (μ : Mm), q ≤ c → c < n + q → f_M_copy_L98 N n (nI r) (nI i) (nI t) (nI j) (nI c) (nI q) μ = f_M_copy_B132 N (nI t) (nI j) (nI c) (sA μ 4 (gfil (μ.1 4) (fun x => vp_nar .byte (μ.1 3 (40 * r + i + x))) q c)) := by
  intro n
  induction n with
  | zero => intro q μ h1 h2; omega
  | succ n ih =>
    intro q μ h1 h2
    rw [f_M_copy_L98]
    by_cases h : q = c
    · subst h
      rw [if_pos (nI_le (Nat.le_refl _) (by omega)), gfil_nil _ _ (Nat.le_refl _), sA_id]
    · rw [if_neg (nI_ge (by omega) (by omega))]
      simp only [ix40', nI_add]
      rw [if_pos (ixb_t (by omega) (by decide)), if_pos (ixb_t (by omega) (by decide)), nI_clamp (by omega), nI_clamp (by omega), nI_1]
      rw [ih (q + 1) _ (by omega) (by omega), sA_sI]
      congr 2
      rw [sI1, if_pos rfl, sI1, if_neg (show ¬ (3 : Nat) = 4 by decide)]
      exact gfil_step (μ.1 4) (fun x => vp_nar .byte (μ.1 3 (40 * r + i + x))) (by omega)
theorem M_copy2 (N t j c : Nat) (ht : t < 8) (hc : j + c ≤ 40) : ∀ (n q : Nat) (μ : Mm), q ≤ c → c < n + q → f_M_copy_L135 N n (nI t) (nI j) (nI c) (nI q) μ = some (1, sA μ 3 (gfil (μ.1 3) (fun x => vp_nar .byte (μ.1 4 (x - (40 * t + j)))) (40 * t + j + q) (40 * t + j + c))) := by
  intro n
  induction n with
  | zero => intro q μ h1 h2; omega
  | succ n ih =>
    intro q μ h1 h2
    rw [f_M_copy_L135]
    by_cases h : q = c
    · subst h
      rw [if_pos (nI_le (Nat.le_refl _) (by omega)), gfil_nil _ _ (Nat.le_refl _), sA_id]
    · rw [if_neg (nI_ge (by omega) (by omega))]
      simp only [ix40', nI_add]
      rw [if_pos (ixb_t (by omega) (by decide)), if_pos (ixb_t (by omega) (by decide)), nI_clamp (by omega), nI_clamp (by omega), nI_1]
      rw [ih (q + 1) _ (by omega) (by omega), sA_sI]
      congr 3
      rw [sI1, if_pos rfl, sI1, if_neg (show ¬ (4 : Nat) = 3 by decide)]
      have e := gfil_step (μ.1 3) (fun x => vp_nar .byte (μ.1 4 (x - (40 * t + j)))) (lo := 40 * t + j + q) (hi := 40 * t + j + c) (by omega)
      rw [show 40 * t + j + q - (40 * t + j) = q by omega] at e
      exact e
theorem nar_id {v : Int32} (h : -128 ≤ v.toInt ∧ v.toInt ≤ 127) : vp_nar .byte v = v := by
  rw [vp_nar_byte]
  apply Int32.toInt_inj.mp
  rw [Int8.toInt_toInt32, Int32.toInt_toInt8]
  rw [Int.bmod_eq_of_le] <;> omega
theorem fit_byte {v : Int32} (h : -128 ≤ v.toInt ∧ v.toInt ≤ 127) : fits .byte (.int v) = true := by
  have h1 : (-128 : Int32) ≤ v := le_I.mpr (by rw [show (-128 : Int32).toInt = -128 from rfl]; exact h.1)
  have h2 : v ≤ 127 := le_I.mpr (by rw [show (127 : Int32).toInt = 127 from rfl]; exact h.2)
  simp [fits, h1, h2]
theorem cpy_at (f : Nat → Int32) (sp dp n x : Nat) : va_cpy f f sp dp n x = if dp ≤ x ∧ x < dp + n then f (sp + (x - dp)) else f x := rfl
theorem sm_copy {RC : Nat → Mm → Prop} (hR : RCok RC) {N : Nat} (hN : 100 ≤ N) : Sm_copy (Rel RC) N := by
  intro k _ a1 a2 a3 a4 a5 μx μm h
  unfold f_W_copy f_M_copy f_W_copy_B76 f_W_copy_B38 f_M_copy_B89 f_M_copy_B34
  simp only [f_W_isRow_eq, f_M_isRow_eq, bnS, if01]
  by_cases c : 0 ≤ a1.toInt ∧ a1.toInt < 8
  · rw [if_pos c, if_pos c]
    obtain ⟨r, hr, rfl⟩ := row_of 8 c
    by_cases c' : 0 ≤ a3.toInt ∧ a3.toInt < 8
    · rw [if_pos c', if_pos c']
      obtain ⟨t, ht, rfl⟩ := row_of 8 c'
      obtain ⟨s1, s2, s3⟩ := id h.2.1
      obtain ⟨t1, t2, t3, t4⟩ := s1 r hr
      obtain ⟨u1, u2, u3, u4⟩ := s1 t ht
      simp only [Sf_lacks_eq N hr, Sf_lacks_eq N ht, bnS, if01]
      simp only [if_pos (ixb_t hr (show 8 < 2 ^ 31 by decide)), if_pos (ixb_t ht (show 8 < 2 ^ 31 by decide)), nI_clamp (show r < 2 ^ 31 by omega), nI_clamp (show t < 2 ^ 31 by omega)]
      simp only [fd1, fd2, md1, md2, bnS]
      by_cases c2 : (0 : Int32) ≤ μm.1 2 r
      · rw [if_neg (show ¬ μx.1 5 r = -1 by rw [t1, neg1 t2]; exact fun q => q c2), if_neg (show ¬ μm.1 2 r < 0 by rw [lt_I]; have := le_I.mp c2; omega)]
        by_cases c3 : (0 : Int32) ≤ μm.1 2 t
        · rw [if_neg (show ¬ μx.1 5 t = -1 by rw [u1, neg1 u2]; exact fun q => q c3), if_pos c3]
          obtain ⟨s, hs, es⟩ := size_nI c2 t3
          obtain ⟨z, hz, ez⟩ := size_nI c3 u3
          simp only [Sf_holds_eq N hr hs a2 a5 μx (t1.trans es), Sf_holds_eq N ht hz a4 a5 μx (u1.trans ez), bnS, if01, cmp_gt, cmp_le, l64add, l64, es, ez, tI (show s < 2 ^ 31 by omega), tI (show z < 2 ^ 31 by omega)]
          by_cases d : 0 ≤ a2.toInt ∧ 0 ≤ a4.toInt ∧ 0 ≤ a5.toInt ∧ a2.toInt + a5.toInt ≤ s ∧ a4.toInt + a5.toInt ≤ z
          · obtain ⟨d1, d2, d3, d4, d5⟩ := d
            obtain ⟨i, hi, rfl⟩ := row_of (x := a2) 41 ⟨d1, by omega⟩
            obtain ⟨j, hj, rfl⟩ := row_of (x := a4) 41 ⟨d2, by omega⟩
            obtain ⟨n, hn, rfl⟩ := row_of (x := a5) 41 ⟨d3, by omega⟩
            have ei := tI (show i < 2 ^ 31 by omega)
            have ej := tI (show j < 2 ^ 31 by omega)
            have en := tI (show n < 2 ^ 31 by omega)
            rw [if_pos ⟨d1, d3, d4⟩, if_pos ⟨d2, d3, d5⟩, if_neg (nI_pos (by omega)), if_neg (nI_pos (by omega)), if_neg (nI_pos (by omega)), if_neg (by omega), if_pos d5]
            unfold f_Sf_move
            simp only [ix40]
            rw [if_pos (by
              unfold cpb
              rw [decide_eq_true_eq, nI_clamp (by omega), nI_clamp (by omega), nI_clamp (by omega)]
              exact ⟨nI_pos (by omega), nI_pos (by omega), nI_pos (by omega), by omega, by omega, fun x _ => fit_byte (s2 _)⟩)]
            rw [show (0 : Int32) = nI 0 from rfl, M_copy1 N r i t j n hr (by omega) N 0 μm (by omega) (by omega)]
            unfold f_M_copy_B132
            rw [show (0 : Int32) = nI 0 from rfl, M_copy2 N t j n ht (by omega) N 0 _ (by omega) (by omega), bvS, nI_clamp (by omega), nI_clamp (by omega), nI_clamp (by omega)]
            refine ⟨_, _, _, rfl, rfl, h.shelf hR (fun c h4 h5 => by rw [sA1, if_neg h4]) rfl (fun c h2 h3 h4 => by rw [sA1, if_neg h3, sA1, if_neg h4]) rfl ?_⟩
            have key : ∀ x, (sA (sA μm 4 (gfil (μm.1 4) (fun x => vp_nar .byte (μm.1 3 (40 * r + i + x))) 0 n)) 3 (gfil ((sA μm 4 (gfil (μm.1 4) (fun x => vp_nar .byte (μm.1 3 (40 * r + i + x))) 0 n)).1 3) (fun x => vp_nar .byte ((sA μm 4 (gfil (μm.1 4) (fun x => vp_nar .byte (μm.1 3 (40 * r + i + x))) 0 n)).1 4 (x - (40 * t + j)))) (40 * t + j + 0) (40 * t + j + n))).1 3 x = va_cpy (μm.1 3) (μm.1 3) (40 * r + i) (40 * t + j) n x := by
              intro x
              rw [sA1, if_pos rfl, cpy_at]
              show (if 40 * t + j + 0 ≤ x ∧ x < 40 * t + j + n then vp_nar .byte (if 0 ≤ x - (40 * t + j) ∧ x - (40 * t + j) < n then vp_nar .byte (μm.1 3 (40 * r + i + (x - (40 * t + j)))) else μm.1 4 (x - (40 * t + j))) else μm.1 3 x) = _
              by_cases e : 40 * t + j ≤ x ∧ x < 40 * t + j + n
              · rw [if_pos (by omega), if_pos e, if_pos (by omega), nar_id (byte_in _), nar_id (s3 _)]
              · rw [if_neg (by omega), if_neg e]
            refine ⟨fun q hq => ?_, fun x => ?_, fun x => ?_⟩
            · obtain ⟨v1, v2, v3, v4⟩ := s1 q hq
              refine ⟨v1, v2, v3, fun x hx => ?_⟩
              rw [key]
              show va_cpy (μx.1 4) (μx.1 4) (40 * r + i) (40 * t + j) n (40 * q + x) = _
              rw [cpy_at, cpy_at]
              by_cases e : 40 * t + j ≤ 40 * q + x ∧ 40 * q + x < 40 * t + j + n
              · rw [if_pos e, if_pos e]
                have hx' : (x : Int) < (μm.1 2 q).toInt := hx
                have := t4 (i + (40 * q + x - (40 * t + j))) (by rw [es, tI (by omega)]; omega)
                rw [show 40 * r + i + (40 * q + x - (40 * t + j)) = 40 * r + (i + (40 * q + x - (40 * t + j))) by omega]
                exact this
              · rw [if_neg e, if_neg e]
                exact v4 x hx
            · show -128 ≤ (va_cpy (μx.1 4) (μx.1 4) (40 * r + i) (40 * t + j) n x).toInt ∧ (va_cpy (μx.1 4) (μx.1 4) (40 * r + i) (40 * t + j) n x).toInt ≤ 127
              rw [cpy_at]
              split <;> exact s2 _
            · rw [key, cpy_at]
              split <;> exact s3 _
          · have hF : Rel RC (k + 1) (tf μx 2) (mf μm 2) := h.found hR 2
            clear h s1 s2 s3 t4 u4
            repeat' split
            all_goals first | exact ⟨_, _, _, rfl, rfl, hF⟩ | (exfalso; simp only [lt_I, le_I, eq_I, ixb_iff, Int32.reduceToInt] at *; omega)
        · rw [if_pos (show μx.1 5 t = -1 by rw [u1, neg1 u2]; exact c3), if_neg c3]
          exact ⟨_, _, _, rfl, rfl, h.found hR 1⟩
      · rw [if_pos (show μx.1 5 r = -1 by rw [t1, neg1 t2]; exact c2), if_pos (show μm.1 2 r < 0 by
          have q9 : ¬ (0 : Int32).toInt ≤ (μm.1 2 r).toInt := fun q => c2 (le_I.mpr q)
          rw [lt_I]
          omega)]
        exact ⟨_, _, _, rfl, rfl, h.found hR 1⟩
    · rw [if_neg c', if_neg c']
      exact ⟨_, _, _, rfl, rfl, h.next hR⟩
  · rw [if_neg c, if_neg c]
    exact ⟨_, _, _, rfl, rfl, h.next hR⟩
