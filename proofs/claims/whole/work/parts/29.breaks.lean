/-! PURE 9: breaks -/
theorem upS2_id {m : Nat → Int32} {x y : Nat} {v : Int32} (h1 : m (16 * x + y) = v) (h2 : m (16 * y + x) = v) : upS2 m x y v = m := by
  funext j
  rw [upS2_at]
  by_cases c : j = 16 * y + x
  · rw [if_pos c, c, h2]
  · rw [if_neg c]
    by_cases c2 : j = 16 * x + y
    · rw [if_pos c2, c2, h1]
    · rw [if_neg c2]
theorem cnt_01 {n : Nat} {m : Nat → Int32} {x y : Nat} (hn : n ≤ 16) (hx : x < n) (hy : y < n) (hxy : x ≠ y) : cntP (fun a b => decide (upS2 m x y 1 (16 * a + b) ≠ 0)) n n = cntP (fun a b => decide (upS2 m x y 0 (16 * a + b) ≠ 0)) n n + 1 := by
  have key : ∀ (p q : Nat), p < q → q < n → ((p = x ∧ q = y) ∨ (p = y ∧ q = x)) → cntP (fun a b => decide (upS2 m x y 1 (16 * a + b) ≠ 0)) n n = cntP (fun a b => decide (upS2 m x y 0 (16 * a + b) ≠ 0)) n n + 1 := by
    intro p q hpq hq hor
    have e := cntP_one (f := fun a b => decide (a < n ∧ b < n ∧ upS2 m x y 0 (16 * a + b) ≠ 0)) (g := fun a b => decide (a < n ∧ b < n ∧ upS2 m x y 1 (16 * a + b) ≠ 0)) (n := n) (a := p) (b := q) hpq hq (by
      rw [decide_eq_false_iff_not, upS2_in (by omega) (by omega) (by omega) (by omega), if_pos hor]
      simp) (by
      rw [decide_eq_true_eq, upS2_in (by omega) (by omega) (by omega) (by omega), if_pos hor]
      exact ⟨by omega, hq, by decide⟩) (by
      intro u v huv hne
      by_cases hv : v < n
      · by_cases hc : (u = x ∧ v = y) ∨ (u = y ∧ v = x)
        · exact absurd (show u = p ∧ v = q by omega) hne
        · rw [upS2_in (by omega) (by omega) (by omega) (by omega), if_neg hc, upS2_in (by omega) (by omega) (by omega) (by omega), if_neg hc]
      · simp [hv]) n
    rw [if_pos (by omega)] at e
    have e1 : cntP (fun a b => decide (a < n ∧ b < n ∧ upS2 m x y 0 (16 * a + b) ≠ 0)) n n = cntP (fun a b => decide (upS2 m x y 0 (16 * a + b) ≠ 0)) n n := cntP_eq (fun u v hu hv _ => by simp [hu, hv])
    have e2 : cntP (fun a b => decide (a < n ∧ b < n ∧ upS2 m x y 1 (16 * a + b) ≠ 0)) n n = cntP (fun a b => decide (upS2 m x y 1 (16 * a + b) ≠ 0)) n n := cntP_eq (fun u v hu hv _ => by simp [hu, hv])
    rw [← e1, ← e2]
    exact e
  by_cases c : x < y
  · exact key x y c hy (Or.inl ⟨rfl, rfl⟩)
  · exact key y x (by omega) hx (Or.inr ⟨rfl, rfl⟩)
theorem neg_neg32 (x : Int32) : - -x = x := Int32.neg_neg
theorem len_break {n : Nat} {len mlen mbrk : Nat → Int32} {x y : Nat} {z : Int32} (hn : n ≤ 16) (hx : x < n) (hy : y < n) (h0 : mlen (16 * x + y) ≠ 0) (hz : z = 0 ∨ z = 1) (h : ∀ a b, a < 16 → b < 16 → LenOk n len mlen mbrk a b) : ∀ a b, a < 16 → b < 16 → LenOk n (upS2 len x y (if z = 0 then mlen (16 * x + y) else -mlen (16 * x + y))) mlen (upS2 mbrk x y z) a b := by
  intro a b ha hb
  obtain ⟨h1, h2, h3, h4, h5, h6, h7, h8⟩ := h a b ha hb
  obtain ⟨_, _, z3, z4, z5, _⟩ := h x y (by omega) (by omega)
  unfold LenOk
  rw [upS2_in (by omega) (by omega) ha hb, upS2_in (by omega) (by omega) hb ha, upS2_in (by omega) (by omega) ha hb]
  by_cases c : (a = x ∧ b = y) ∨ (a = y ∧ b = x)
  · have c' : (b = x ∧ a = y) ∨ (b = y ∧ a = x) := by omega
    rw [if_pos c, if_pos c', if_pos c]
    have hm : mlen (16 * a + b) = mlen (16 * x + y) := by
      rcases c with ⟨rfl, rfl⟩ | ⟨rfl, rfl⟩
      · rfl
      · exact z3.symm
    refine ⟨h1, hz, h3, rfl, fun q => absurd (hm ▸ q) h0, h6, h7, ?_⟩
    rw [hm]
  · have c' : ¬ ((b = x ∧ a = y) ∨ (b = y ∧ a = x)) := by omega
    rw [if_neg c, if_neg c', if_neg c]
    exact ⟨h1, h2, h3, h4, h5, h6, h7, h8⟩
theorem M_brk_eq (N : Nat) {a b : Nat} (ha : a < 16) (hb : b < 16) (z s0 : Int32) (hz : z = 0 ∨ z = 1) (μ : Mm) : f_M_breaks_B57 N (nI a) (nI b) z s0 μ = some (s0, sA μ 6 (upS2 (μ.1 6) a b z)) := by
  unfold f_M_breaks_B57
  simp only [ix16', narZ hz]
  rw [if_pos (ixb_t (by omega) (by decide)), if_pos (ixb_t (by omega) (by decide)), nI_clamp (by omega), nI_clamp (by omega)]
  rw [sI_sA, sI_sA, sA_sA, sA1, if_pos rfl]
  rfl
theorem sm_breaks {RC : Nat → Mm → Prop} (hR : RCok RC) (N : Nat) : Sm_breaks (Rel RC) N := by
  intro k _ a1 a2 a3 hz μx μm h
  obtain ⟨g1, g2, g3, n, n1, n16, en, gL, gW, gB, gw, gb, g40, gF⟩ := id h.2.2.1
  obtain ⟨v, ev, hv⟩ := hR.2.2.1 k μx h.2.2.2.2.2.2
  have hnx := h.next hR
  unfold f_W_breaks f_M_breaks
  simp only [Gr_has_eq N n16 a1 μx (g3.trans en), Gr_has_eq N n16 a2 μx (g3.trans en), M_isPost_eq N n16 a1 μm en, M_isPost_eq N n16 a2 μm en, bnS, if01]
  by_cases c1 : 0 ≤ a1.toInt ∧ a1.toInt < n
  · rw [if_pos c1, if_pos c1]
    obtain ⟨x, hx, rfl⟩ := row_of n c1
    by_cases c2 : 0 ≤ a2.toInt ∧ a2.toInt < n
    · rw [if_pos c2, if_pos c2]
      obtain ⟨y, hy, rfl⟩ := row_of n c2
      simp only [Gr_lengthOf_eq N (show x < 16 by omega) (show y < 16 by omega), bnS, ix16', if_pos (ixb_t (show 16 * x + y < 256 by omega) (show 256 < 2 ^ 31 by decide)), nI_clamp (show 16 * x + y < 2 ^ 31 by omega)]
      obtain ⟨l1, l2, l3, l4, l5, l6, l7, l8⟩ := gL x y (by omega) (by omega)
      by_cases c5 : μm.1 5 (16 * x + y) = 0
      · rw [if_pos (show μx.1 7 (16 * x + y) = 0 by rw [l8]; exact (len0 l1).mpr c5), if_pos c5]
        simp only [fd1, md1, bnS]
        exact ⟨_, _, _, rfl, rfl, h.found hR 1⟩
      · have hxy : x ≠ y := fun q => c5 (l6 q)
        have lpos : 1 ≤ (μm.1 5 (16 * x + y)).toInt := by
          have : (μm.1 5 (16 * x + y)).toInt ≠ 0 := fun q => c5 (eq_I.mpr q)
          omega
        have ngI : (-μm.1 5 (16 * x + y)).toInt = -(μm.1 5 (16 * x + y)).toInt := by
          rw [Int32.toInt_neg, Int.bmod_eq_of_le (by omega) (by omega)]
        rw [if_neg (show ¬ μx.1 7 (16 * x + y) = 0 by rw [l8]; exact fun q => c5 ((len0 l1).mp q)), if_neg c5]
        -- the change, when there is one
        have change : ∀ (was : Int32), (was = 0 ∨ was = 1) → μm.1 6 (16 * x + y) = was → was ≠ a3 → ∀ (b' : Int32), b' = nI (cntP (fun a b => decide (upS2 (μm.1 6) x y a3 (16 * a + b) ≠ 0)) n n) → Rel RC (k + 1) (glen (sI μx 6 3 b') x y (-μx.1 7 (16 * x + y))) (sA μm 6 (upS2 (μm.1 6) x y a3)) := by
          intro was hw ew hne b' hb'
          have hlb := len_break n16 hx hy c5 hz gL
          have el : -μx.1 7 (16 * x + y) = (if a3 = 0 then μm.1 5 (16 * x + y) else -μm.1 5 (16 * x + y)) := by
            rw [l8, ew]
            rcases hw with rfl | rfl <;> rcases hz with rfl | rfl
            · exact absurd rfl hne
            · rw [if_pos rfl, if_neg (by decide)]
            · rw [if_neg (by decide), if_pos rfl, neg_neg32]
            · exact absurd rfl hne
          rw [el]
          refine h.ground hR (v := v) (v' := v + 1) (μx' := glen (sI μx 6 3 b') x y (if a3 = 0 then μm.1 5 (16 * x + y) else -μm.1 5 (16 * x + y))) (μm' := sA μm 6 (upS2 (μm.1 6) x y a3)) (fun c hc => ?_) rfl (fun c _ _ h6 _ _ => by rw [sA1, if_neg h6]) (fun f _ _ => rfl) rfl ⟨g1, g2, g3, n, n1, n16, en, hlb, gW, gB, gw, hb', g40, gF⟩ ev hv ?_ (by omega) (by omega) (Or.inl rfl)
          · unfold glen
            rw [sI1, if_neg (by omega), sI1, if_neg (by omega), sA1, if_neg (by omega), sI1, if_neg (by omega)]
          · show μx.1 6 4 + 1 = nI (v + 1)
            rw [ev, nI_1]
        have same : ∀ (was : Int32), μm.1 6 (16 * x + y) = was → was = a3 → sA μm 6 (upS2 (μm.1 6) x y a3) = μm := by
          intro was ew e
          rw [upS2_id (ew.trans e) (by rw [← l4]; exact ew.trans e), sA_id]
        unfold f_W_breaks_B59 f_W_breaks_B76 f_Gr_turnBroken f_Gr_turnBroken_B21
        simp only [Gr_lengthOf_eq N (show x < 16 by omega) (show y < 16 by omega), bnS, Gr_setLength_eq N (show x < 16 by omega) (show y < 16 by omega), bvS, M_brk_eq N (show x < 16 by omega) (show y < 16 by omega) a3 _ hz]
        rcases l2 with e0 | e1
        · have el : μx.1 7 (16 * x + y) = μm.1 5 (16 * x + y) := by rw [l8, if_pos e0]
          rw [if_pos (show (0 : Int32) ≤ μx.1 7 (16 * x + y) by rw [el, le_I, show (0 : Int32).toInt = 0 from rfl]; omega), if_pos e0, if_neg (show ¬ μx.1 7 (16 * x + y) ≤ 0 by rw [el, le_I, show (0 : Int32).toInt = 0 from rfl]; omega)]
          rcases hz with rfl | rfl
          · rw [same 0 e0 rfl]
            exact ⟨0, μx, μm, rfl, rfl, hnx⟩
          · refine ⟨0, glen (sI μx 6 3 (μx.1 6 3 + 1)) x y (-μx.1 7 (16 * x + y)), _, rfl, rfl, change 0 (Or.inl rfl) e0 (by decide) _ ?_⟩
            rw [gb, cnt_01 n16 hx hy hxy, upS2_id e0 (by rw [← l4]; exact e0), nI_1]
        · have n0 : ¬ μm.1 6 (16 * x + y) = 0 := by rw [e1]; decide
          have el : μx.1 7 (16 * x + y) = -μm.1 5 (16 * x + y) := by rw [l8, if_neg n0]
          rw [if_neg (show ¬ (0 : Int32) ≤ μx.1 7 (16 * x + y) by rw [el, le_I, ngI, show (0 : Int32).toInt = 0 from rfl]; omega), if_neg n0, if_pos (show μx.1 7 (16 * x + y) ≤ 0 by rw [el, le_I, ngI, show (0 : Int32).toInt = 0 from rfl]; omega)]
          rcases hz with rfl | rfl
          · refine ⟨1, glen (sI μx 6 3 (μx.1 6 3 + -1)) x y (-μx.1 7 (16 * x + y)), _, rfl, rfl, change 1 (Or.inr rfl) e1 (by decide) _ ?_⟩
            have e9 := cnt_01 (m := μm.1 6) n16 hx hy hxy
            rw [upS2_id e1 (by rw [← l4]; exact e1)] at e9
            rw [gb, e9, pk_m1]
          · rw [same 1 e1 rfl]
            exact ⟨1, μx, μm, rfl, rfl, hnx⟩
    · rw [if_neg c2, if_neg c2]
      exact ⟨_, _, _, rfl, rfl, hnx⟩
  · rw [if_neg c1, if_neg c1]
    exact ⟨_, _, _, rfl, rfl, hnx⟩
