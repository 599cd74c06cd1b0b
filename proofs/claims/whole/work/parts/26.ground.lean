/-! PURE 6: the ground: worth, base -/
theorem ix16 (a b : Nat) : nI a * 16 + nI b = nI (16 * a + b) := by
  rw [show (16 : Int32) = nI 16 from rfl, pk_mul, nI_add, Nat.mul_comm]
theorem ix16' (a b : Nat) : 16 * nI a + nI b = nI (16 * a + b) := by
  rw [show (16 : Int32) = nI 16 from rfl, pk_mul, nI_add]
theorem Gr_has_eq (N : Nat) {n : Nat} (hn : n ≤ 16) (a : Int32) (μ : Mm) (e : μ.1 6 1 = nI n) : f_Gr_has N a μ = some (if 0 ≤ a.toInt ∧ a.toInt < n then 1 else 0, μ) := by
  unfold f_Gr_has
  rw [e]
  have h9 := tI (show n < 2 ^ 31 by omega)
  repeat' split
  all_goals first | rfl | (exfalso; simp only [lt_I, le_I, eq_I, ixb_iff, Int32.reduceToInt, h9] at *; omega)
theorem M_isPost_eq (N : Nat) {n : Nat} (hn : n ≤ 16) (a : Int32) (μ : Mm) (e : μ.1 0 9 = nI n) : f_M_isPost N a μ = some (if 0 ≤ a.toInt ∧ a.toInt < n then 1 else 0, μ) := by
  unfold f_M_isPost
  rw [e, f_M_in_eq, bnS, if_pos (zb01 _ _)]
  have e9 : ((0 : Int32).toInt ≤ a.toInt ∧ a.toInt ≤ (nI n - 1).toInt) ↔ (0 ≤ a.toInt ∧ a.toInt < n) := by
    rw [show (1 : Int32) = nI 1 from rfl, pk_sub_toInt (by omega) (by decide), show (0 : Int32).toInt = 0 from rfl]
    omega
  by_cases c : 0 ≤ a.toInt ∧ a.toInt < n
  · rw [if_pos c, if_pos (e9.mpr c)]
  · rw [if_neg c, if_neg (fun q => c (e9.mp q))]
theorem Rel.ground {RC : Nat → Mm → Prop} (hR : RCok RC) {k : Nat} {μx μm μx' μm' : Mm} (h : Rel RC k μx μm) (hx : ∀ c, c < 6 ∨ 9 < c → μx'.1 c = μx.1 c) (hx2 : μx'.2 = μx.2) (hm : ∀ c, c ≠ 0 → c ≠ 5 → c ≠ 6 → c ≠ 7 → c ≠ 8 → μm'.1 c = μm.1 c) (h0 : ∀ f, f ≠ 8 → f ≠ 9 → μm'.1 0 f = μm.1 0 f) (hm2 : μm'.2 = μm.2) (hG : RGx μx' μm') (v v' : Nat) (e1 : μx.1 6 4 = nI v) (e2 : v ≤ 17 * k) (e3 : μx'.1 6 4 = nI v') (e4 : v < v') (e5 : v' ≤ v + 17) (e6 : μx'.1 6 9 = 1 ∨ (μx'.1 6 9 = μx.1 6 9 ∧ μx'.1 6 1 = μx.1 6 1 ∧ μx'.1 7 = μx.1 7)) : Rel RC (k + 1) μx' μm' := by
  obtain ⟨hT, hS, _, hW, hP, hl, hC⟩ := h
  refine ⟨RT_cells (hx 1 (by decide)) (hx 2 (by decide)) (by rw [hx2]) (h0 0 (by decide) (by decide)) (h0 2 (by decide) (by decide)) (hm 1 (by decide) (by decide) (by decide) (by decide) (by decide)) (by rw [hm2]) hT, ?_, hG, RW_cells (fun c a b => hx c (by omega)) (h0 15 (by decide) (by decide)) (fun c a b => hm c (by omega) (by omega) (by omega) (by omega) (by omega)) hW, RP_cells (hx 80 (by decide)) (hx 81 (by decide)) (hm 29 (by decide) (by decide) (by decide) (by decide) (by decide)) (hm 30 (by decide) (by decide) (by decide) (by decide) (by decide)) hP, by rw [h0 27 (by decide) (by decide)]; exact hl, hR.2.2.2.1 k μx μx' v v' hC (fun c hc => hx c (by omega)) e1 e2 e3 e4 (by omega) e6⟩
  unfold RSx at hS ⊢
  rw [hx 4 (by decide), hx 5 (by decide), hm 3 (by decide) (by decide) (by decide) (by decide) (by decide), hm 2 (by decide) (by decide) (by decide) (by decide) (by decide)]
  exact hS
theorem sm_worth {RC : Nat → Mm → Prop} (hR : RCok RC) (N : Nat) : Sm_worth (Rel RC) N := by
  intro k _ a1 a2 μx μm h
  obtain ⟨g1, g2, g3, n, n1, n16, en, gL, gW, gB, gw, gb, g40, gF⟩ := id h.2.2.1
  obtain ⟨v, ev, hv⟩ := hR.2.2.1 k μx h.2.2.2.2.2.2
  unfold f_W_worth f_M_worth
  simp only [Gr_has_eq N n16 a1 μx (g3.trans en), M_isPost_eq N n16 a1 μm en, bnS, if01, f_M_in_eq]
  by_cases c : 0 ≤ a1.toInt ∧ a1.toInt < n
  · obtain ⟨p, hp, rfl⟩ := row_of n c
    have hp' : p < 16 := by omega
    rw [if_pos c, if_pos c]
    by_cases c2 : 0 ≤ a2.toInt ∧ a2.toInt ≤ 9
    · rw [if_neg (show ¬ a2 < 0 by rw [lt_I, show (0 : Int32).toInt = 0 from rfl]; omega), if_pos (show a2 ≤ 9 by rw [le_I, show (9 : Int32).toInt = 9 from rfl]; omega), if_pos (show (0 : Int32).toInt ≤ a2.toInt ∧ a2.toInt ≤ (9 : Int32).toInt by rw [show (9 : Int32).toInt = 9 from rfl, show (0 : Int32).toInt = 0 from rfl]; omega)]
      unfold f_Gr_changeWorth
      simp only [if_pos (ixb_t hp' (show 16 < 2 ^ 31 by decide)), nI_clamp (show p < 2 ^ 31 by omega), bnS]
      refine ⟨_, _, sI μm 7 p a2, rfl, by rw [(gW p hp).1], h.ground hR (v := v) (v' := v + 1) (fun c hc => ?_) rfl (fun c _ _ _ h7 _ => by rw [sI1, if_neg h7]) (fun f _ _ => rfl) rfl ⟨g1, g2, g3, n, n1, n16, en, gL, ?_, gB, gw, gb, g40, gF⟩ ev hv ?_ (by omega) (by omega) (Or.inr ⟨rfl, rfl, rfl⟩)⟩
      · rw [sI1, if_neg (by omega), sI1, if_neg (by omega)]
      · intro q hq
        show upd (μx.1 8) p a2 q = upd (μm.1 7) p a2 q ∧ 0 ≤ (upd (μm.1 7) p a2 q).toInt ∧ (upd (μm.1 7) p a2 q).toInt ≤ 9
        rw [upd_at, upd_at]
        by_cases e : q = p
        · rw [if_pos e, if_pos e]
          exact ⟨rfl, c2.1, c2.2⟩
        · rw [if_neg e, if_neg e]
          exact gW q hq
      · show μx.1 6 4 + 1 = nI (v + 1)
        rw [ev, nI_1]
    · rw [if_neg (show ¬ ((0 : Int32).toInt ≤ a2.toInt ∧ a2.toInt ≤ (9 : Int32).toInt) by rw [show (9 : Int32).toInt = 9 from rfl, show (0 : Int32).toInt = 0 from rfl]; omega)]
      have hF := h.next hR
      clear h
      repeat' split
      all_goals first | exact ⟨_, _, _, rfl, rfl, hF⟩ | (exfalso; simp only [lt_I, le_I, eq_I, ixb_iff, Int32.reduceToInt] at *; omega)
  · rw [if_neg c, if_neg c]
    exact ⟨_, _, _, rfl, rfl, h.next hR⟩
theorem narZ {z : Int32} (h : z = 0 ∨ z = 1) : vp_nar .boolean z = z := by
  rcases h with rfl | rfl <;> decide
theorem zb_of {z : Int32} (h : z = 0 ∨ z = 1) : zb z = true := by
  rcases h with rfl | rfl <;> decide
theorem sm_base {RC : Nat → Mm → Prop} (hR : RCok RC) (N : Nat) : Sm_base (Rel RC) N := by
  intro k _ a1 a2 ha2 μx μm h
  obtain ⟨g1, g2, g3, n, n1, n16, en, gL, gW, gB, gw, gb, g40, gF⟩ := id h.2.2.1
  obtain ⟨v, ev, hv⟩ := hR.2.2.1 k μx h.2.2.2.2.2.2
  unfold f_W_base f_M_base f_M_base_B24
  simp only [Gr_has_eq N n16 a1 μx (g3.trans en), M_isPost_eq N n16 a1 μm en, bnS, if01]
  by_cases c : 0 ≤ a1.toInt ∧ a1.toInt < n
  · obtain ⟨p, hp, rfl⟩ := row_of n c
    have hp' : p < 16 := by omega
    rw [if_pos c, if_pos c]
    unfold f_Gr_changeBase
    have b1 := (gB p hp').1
    have b2 := (gB p hp').2
    have hZ : zb (μx.1 9 p) = true := by rw [b1]; exact zb_of b2
    simp only [if_pos (ixb_t hp' (show 16 < 2 ^ 31 by decide)), nI_clamp (show p < 2 ^ 31 by omega), if_pos hZ, bnS]
    have key : Rel RC (k + 1) (sI (sI μx 9 p (vp_nar .boolean a2)) 6 4 ((sI μx 9 p (vp_nar .boolean a2)).1 6 4 + 1)) (sI μm 8 p (vp_nar .boolean a2)) := by
      refine h.ground hR (v := v) (v' := v + 1) (fun c hc => ?_) rfl (fun c _ _ _ _ h8 => by rw [sI1, if_neg h8]) (fun f _ _ => rfl) rfl ⟨g1, g2, g3, n, n1, n16, en, gL, gW, ?_, gw, gb, g40, gF⟩ ev hv ?_ (by omega) (by omega) (Or.inr ⟨rfl, rfl, rfl⟩)
      · rw [sI1, if_neg (by omega), sI1, if_neg (by omega)]
      · intro q hq
        show upd (μx.1 9) p (vp_nar .boolean a2) q = upd (μm.1 8) p (vp_nar .boolean a2) q ∧ (upd (μm.1 8) p (vp_nar .boolean a2) q = 0 ∨ upd (μm.1 8) p (vp_nar .boolean a2) q = 1)
        rw [upd_at, upd_at]
        by_cases e : q = p
        · rw [if_pos e, if_pos e, narZ ha2]
          exact ⟨rfl, ha2⟩
        · rw [if_neg e, if_neg e]
          exact gB q hq
      · show μx.1 6 4 + 1 = nI (v + 1)
        rw [ev, nI_1]
    rw [b1]
    by_cases e : μm.1 8 p = 0
    · rw [if_pos e, if_pos e]
      exact ⟨_, _, _, rfl, rfl, key⟩
    · rw [if_neg e, if_neg e]
      exact ⟨_, _, _, rfl, rfl, key⟩
  · rw [if_neg c, if_neg c]
    exact ⟨_, _, _, rfl, rfl, h.next hR⟩
