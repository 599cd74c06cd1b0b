/-! PURE 3: row, lay, tear, mean -/
theorem RT_cells {μx μx' μm μm' : Mm} (h1 : μx'.1 1 = μx.1 1) (h2 : μx'.1 2 = μx.1 2) (h3 : μx'.2 1 = μx.2 1) (g0 : μm'.1 0 0 = μm.1 0 0) (g2 : μm'.1 0 2 = μm.1 0 2) (g1 : μm'.1 1 = μm.1 1) (g3 : μm'.2 0 = μm.2 0) (h : RTx μx μm) : RTx μx' μm' := by
  unfold RTx at h ⊢
  rw [h1, h2, h3, g0, g2, g1, g3]
  exact h
theorem RG_cells {μx μx' μm μm' : Mm} (h0 : μx'.1 6 0 = μx.1 6 0) (h1 : μx'.1 6 1 = μx.1 6 1) (h2 : μx'.1 6 2 = μx.1 6 2) (h3 : μx'.1 6 3 = μx.1 6 3) (h7 : μx'.1 7 = μx.1 7) (h8 : μx'.1 8 = μx.1 8) (h9 : μx'.1 9 = μx.1 9) (g8 : μm'.1 0 8 = μm.1 0 8) (g9 : μm'.1 0 9 = μm.1 0 9) (k5 : μm'.1 5 = μm.1 5) (k6 : μm'.1 6 = μm.1 6) (k7 : μm'.1 7 = μm.1 7) (k8 : μm'.1 8 = μm.1 8) (h : RGx μx μm) : RGx μx' μm' := by
  unfold RGx at h ⊢
  rw [h0, h1, h2, h3, h7, h8, h9, g8, g9, k5, k6, k7, k8]
  exact h
theorem RP_cells {μx μx' μm μm' : Mm} (h0 : μx'.1 80 = μx.1 80) (h1 : μx'.1 81 = μx.1 81) (g0 : μm'.1 29 = μm.1 29) (g1 : μm'.1 30 = μm.1 30) (h : RPx μx μm) : RPx μx' μm' := by
  unfold RPx at h ⊢
  rw [h0, h1, g0, g1]
  exact h
theorem Rel.shelf {RC : Nat → Mm → Prop} (hR : RCok RC) {k : Nat} {μx μm μx' μm' : Mm} (h : Rel RC k μx μm) (hx : ∀ c, c ≠ 4 → c ≠ 5 → μx'.1 c = μx.1 c) (hx2 : μx'.2 = μx.2) (hm : ∀ c, c ≠ 2 → c ≠ 3 → c ≠ 4 → μm'.1 c = μm.1 c) (hm2 : μm'.2 = μm.2) (hS : RSx μx' μm') : Rel RC (k + 1) μx' μm' := by
  obtain ⟨hT, _, hG, hW, hP, h0, hC⟩ := h
  have m0 := hm 0 (by decide) (by decide) (by decide)
  refine ⟨RT_cells (hx 1 (by decide) (by decide)) (hx 2 (by decide) (by decide)) (by rw [hx2]) (by rw [m0]) (by rw [m0]) (hm 1 (by decide) (by decide) (by decide)) (by rw [hm2]) hT, hS, ?_, RW_cells (fun c a b => hx c (by omega) (by omega)) (by rw [m0]) (fun c a b => hm c (by omega) (by omega) (by omega)) hW, RP_cells (hx 80 (by decide) (by decide)) (hx 81 (by decide) (by decide)) (hm 29 (by decide) (by decide) (by decide)) (hm 30 (by decide) (by decide) (by decide)) hP, by rw [m0]; exact h0, hR.1 k _ (hR.2.1 k μx _ (fun c hc => hx c (by omega) (by omega)) hC)⟩
  have x6 := hx 6 (by decide) (by decide)
  exact RG_cells (by rw [x6]) (by rw [x6]) (by rw [x6]) (by rw [x6]) (hx 7 (by decide) (by decide)) (hx 8 (by decide) (by decide)) (hx 9 (by decide) (by decide)) (by rw [m0]) (by rw [m0]) (hm 5 (by decide) (by decide) (by decide)) (hm 6 (by decide) (by decide) (by decide)) (hm 7 (by decide) (by decide) (by decide)) (hm 8 (by decide) (by decide) (by decide)) hG
theorem sm_row {RC : Nat → Mm → Prop} (hR : RCok RC) {N : Nat} (hN : 100 ≤ N) : Sm_row (Rel RC) N := by
  intro k _ a1 a2 μx μm h
  unfold f_W_row f_M_row
  rw [f_W_isRow_eq, f_M_isRow_eq]
  simp only [bnS, if01]
  by_cases c : 0 ≤ a1.toInt ∧ a1.toInt < 8
  · rw [if_pos c, if_pos c]
    obtain ⟨r, hr, rfl⟩ := row_of 8 c
    by_cases c2 : a2 ≤ 40
    · rw [if_pos c2, if_pos c2]
      by_cases c3 : 0 ≤ a2
      · rw [if_pos c3, if_pos c3]
        have d2 := le_I.mp c2
        have d3 := le_I.mp c3
        rw [show (0 : Int32).toInt = 0 from rfl] at d3
        rw [show (40 : Int32).toInt = 40 from rfl] at d2
        obtain ⟨s, hs, rfl⟩ := row_of (x := a2) 41 ⟨d3, by omega⟩
        unfold f_Sf_put
        rw [if_pos (ixb_t hr (by decide)), if_pos (ixb_t hr (by decide)), nI_clamp (by omega), show (0 : Int32) = nI 0 from rfl, Sf_put_loop N r s hr (by omega) N 0 _ (by omega) (by omega), M_row_loop N r (nI s) hr N 0 _ (by omega) (by omega), bvS]
        refine ⟨_, _, _, rfl, rfl, h.shelf hR (fun c h4 h5 => ?_) rfl (fun c h2 h3 _ => ?_) rfl ?_⟩
        · rw [sA1, if_neg h4, sI1, if_neg h5]
        · rw [sA1, if_neg h3, sI1, if_neg h2]
        · obtain ⟨s1, s2, s3⟩ := h.2.1
          refine ⟨fun q hq => ?_, fun j => ?_, fun j => ?_⟩
          · show upd (μx.1 5) r (nI s) q = upd (μm.1 2) r (nI s) q ∧ -1 ≤ (upd (μm.1 2) r (nI s) q).toInt ∧ (upd (μm.1 2) r (nI s) q).toInt ≤ 40 ∧ ∀ i : Nat, (i : Int) < (upd (μm.1 2) r (nI s) q).toInt → fil (μx.1 4) (40 * r + 0) (40 * r + s) 0 (40 * q + i) = fil (μm.1 3) (40 * r + 0) (40 * r + 40) 0 (40 * q + i)
            obtain ⟨t1, t2, t3, t4⟩ := s1 q hq
            rw [upd_at, upd_at]
            by_cases e : q = r
            · subst e
              rw [if_pos rfl, if_pos rfl, tI (by omega)]
              refine ⟨rfl, by omega, by omega, fun i hi => ?_⟩
              unfold fil
              rw [if_pos (by omega), if_pos (by omega)]
            · rw [if_neg e, if_neg e]
              refine ⟨t1, t2, t3, fun i hi => ?_⟩
              unfold fil
              rw [if_neg (by omega), if_neg (by omega)]
              exact t4 i hi
          · show -128 ≤ (fil (μx.1 4) (40 * r + 0) (40 * r + s) 0 j).toInt ∧ (fil (μx.1 4) (40 * r + 0) (40 * r + s) 0 j).toInt ≤ 127
            unfold fil
            split
            · exact ⟨by decide, by decide⟩
            · exact s2 j
          · show -128 ≤ (fil (μm.1 3) (40 * r + 0) (40 * r + 40) 0 j).toInt ∧ (fil (μm.1 3) (40 * r + 0) (40 * r + 40) 0 j).toInt ≤ 127
            unfold fil
            split
            · exact ⟨by decide, by decide⟩
            · exact s3 j
      · rw [if_neg c3, if_neg c3, show (5 : Int32) = nI 5 from rfl, f_Ta_found_eq N (by decide), f_M_meets_eq N (by decide)]
        exact ⟨_, _, _, rfl, rfl, h.found hR 5⟩
    · rw [if_neg c2, if_neg c2]
      exact ⟨_, _, _, rfl, rfl, h.next hR⟩
  · rw [if_neg c, if_neg c]
    exact ⟨_, _, _, rfl, rfl, h.next hR⟩
theorem Sf_lacks_eq (N : Nat) {r : Nat} (hr : r < 8) (μ : Mm) : f_Sf_lacks N (nI r) μ = some (if μ.1 5 r = -1 then 1 else 0, μ) := by
  unfold f_Sf_lacks
  rw [if_pos (ixb_t hr (by decide)), nI_clamp (by omega)]
  split <;> rfl
theorem neg1 {x : Int32} (h : -1 ≤ x.toInt) : x = -1 ↔ ¬ (0 : Int32) ≤ x := by
  rw [eq_I, le_I, show (-1 : Int32).toInt = -1 from rfl, show (0 : Int32).toInt = 0 from rfl]
  omega
theorem sm_tear {RC : Nat → Mm → Prop} (hR : RCok RC) (N : Nat) : Sm_tear (Rel RC) N := by
  intro k _ a1 μx μm h
  unfold f_W_tear f_M_tear
  rw [f_W_isRow_eq, f_M_isRow_eq]
  simp only [bnS, if01]
  by_cases c : 0 ≤ a1.toInt ∧ a1.toInt < 8
  · rw [if_pos c, if_pos c]
    obtain ⟨r, hr, rfl⟩ := row_of 8 c
    obtain ⟨s1, s2, s3⟩ := id h.2.1
    obtain ⟨t1, t2, t3, t4⟩ := s1 r hr
    rw [Sf_lacks_eq N hr, if_pos (ixb_t hr (by decide)), nI_clamp (by omega)]
    simp only [bnS, if01]
    by_cases c2 : (0 : Int32) ≤ μm.1 2 r
    · rw [if_neg (show ¬ μx.1 5 r = -1 by rw [t1, neg1 t2]; exact fun q => q c2), if_pos c2]
      unfold f_Sf_remove
      rw [if_pos (ixb_t hr (by decide)), if_pos (ixb_t hr (by decide)), nI_clamp (by omega), bvS]
      refine ⟨_, _, _, rfl, rfl, h.shelf hR (fun c h4 h5 => by rw [sI1, if_neg h5]) rfl (fun c h2 h3 _ => by rw [sI1, if_neg h2]) rfl ?_⟩
      refine ⟨fun q hq => ?_, s2, s3⟩
      show upd (μx.1 5) r (-1) q = upd (μm.1 2) r (-1) q ∧ -1 ≤ (upd (μm.1 2) r (-1) q).toInt ∧ (upd (μm.1 2) r (-1) q).toInt ≤ 40 ∧ ∀ i : Nat, (i : Int) < (upd (μm.1 2) r (-1) q).toInt → μx.1 4 (40 * q + i) = μm.1 3 (40 * q + i)
      rw [upd_at, upd_at]
      by_cases e : q = r
      · subst e
        rw [if_pos rfl, if_pos rfl]
        exact ⟨rfl, by decide, by decide, fun i hi => by rw [show (-1 : Int32).toInt = -1 from rfl] at hi; omega⟩
      · rw [if_neg e, if_neg e]
        exact s1 q hq
    · rw [if_pos (show μx.1 5 r = -1 by rw [t1, neg1 t2]; exact c2), if_neg c2, show (1 : Int32) = nI 1 from rfl, f_Ta_found_eq N (by decide), f_M_meets_eq N (by decide)]
      exact ⟨_, _, _, rfl, rfl, h.found hR 1⟩
  · rw [if_neg c, if_neg c]
    exact ⟨_, _, _, rfl, rfl, h.next hR⟩
