/-! PURE 8: wall, breaks -/
def LenOk (n : Nat) (len mlen mbrk : Nat → Int32) (a b : Nat) : Prop := (0 ≤ (mlen (16 * a + b)).toInt ∧ (mlen (16 * a + b)).toInt ≤ 30) ∧ (mbrk (16 * a + b) = 0 ∨ mbrk (16 * a + b) = 1) ∧ mlen (16 * a + b) = mlen (16 * b + a) ∧ mbrk (16 * a + b) = mbrk (16 * b + a) ∧ (mlen (16 * a + b) = 0 → mbrk (16 * a + b) = 0) ∧ (a = b → mlen (16 * a + b) = 0) ∧ (n ≤ a ∨ n ≤ b → mlen (16 * a + b) = 0) ∧ len (16 * a + b) = (if mbrk (16 * a + b) = 0 then mlen (16 * a + b) else -mlen (16 * a + b))
def upS2 (f : Nat → Int32) (x y : Nat) (L : Int32) : Nat → Int32 := upd (upd f (16 * x + y) L) (16 * y + x) L
theorem upS2_at (f : Nat → Int32) (x y : Nat) (L : Int32) (j : Nat) : upS2 f x y L j = if j = 16 * y + x then L else if j = 16 * x + y then L else f j := rfl
theorem upS2_in {f : Nat → Int32} {x y a b : Nat} {L : Int32} (hx : x < 16) (hy : y < 16) (ha : a < 16) (hb : b < 16) : upS2 f x y L (16 * a + b) = if (a = x ∧ b = y) ∨ (a = y ∧ b = x) then L else f (16 * a + b) := by
  rw [upS2_at]
  by_cases h1 : a = y ∧ b = x
  · rw [if_pos (by omega), if_pos (Or.inr h1)]
  · rw [if_neg (by omega)]
    by_cases h2 : a = x ∧ b = y
    · rw [if_pos (by omega), if_pos (Or.inl h2)]
    · rw [if_neg (by omega), if_neg (by omega)]
theorem len_build {n : Nat} {len mlen mbrk : Nat → Int32} {x y : Nat} {L : Int32} (hn : n ≤ 16) (hx : x < n) (hy : y < n) (hxy : x ≠ y) (h0 : mlen (16 * x + y) = 0) (hL : 1 ≤ L.toInt ∧ L.toInt ≤ 30) (h : ∀ a b, a < 16 → b < 16 → LenOk n len mlen mbrk a b) : ∀ a b, a < 16 → b < 16 → LenOk n (upS2 len x y L) (upS2 mlen x y L) mbrk a b := by
  intro a b ha hb
  obtain ⟨h1, h2, h3, h4, h5, h6, h7, h8⟩ := h a b ha hb
  have L0 : L ≠ 0 := fun q => by
    rw [q, show (0 : Int32).toInt = 0 from rfl] at hL
    omega
  obtain ⟨_, _, z3, z4, z5, _⟩ := h x y (by omega) (by omega)
  unfold LenOk
  rw [upS2_in (by omega) (by omega) ha hb, upS2_in (by omega) (by omega) hb ha, upS2_in (by omega) (by omega) ha hb]
  by_cases c : (a = x ∧ b = y) ∨ (a = y ∧ b = x)
  · have c' : (b = x ∧ a = y) ∨ (b = y ∧ a = x) := by omega
    rw [if_pos c, if_pos c', if_pos c]
    have hb0 : mbrk (16 * a + b) = 0 := by
      rcases c with ⟨rfl, rfl⟩ | ⟨rfl, rfl⟩
      · exact z5 h0
      · rw [← z4]; exact z5 h0
    refine ⟨⟨by omega, hL.2⟩, h2, rfl, h4, fun q => absurd q L0, fun q => by omega, fun q => by omega, ?_⟩
    rw [if_pos hb0]
  · have c' : ¬ ((b = x ∧ a = y) ∨ (b = y ∧ a = x)) := by omega
    rw [if_neg c, if_neg c', if_neg c]
    exact ⟨h1, h2, h3, h4, h5, h6, h7, h8⟩
theorem cnt_build {n : Nat} {len mlen mbrk : Nat → Int32} {x y : Nat} {L : Int32} (hn : n ≤ 16) (hx : x < n) (hy : y < n) (hxy : x ≠ y) (h0 : mlen (16 * x + y) = 0) (hL : 1 ≤ L.toInt ∧ L.toInt ≤ 30) (h : ∀ a b, a < 16 → b < 16 → LenOk n len mlen mbrk a b) : cntP (fun a b => decide (upS2 mlen x y L (16 * a + b) ≠ 0)) n n = cntP (fun a b => decide (mlen (16 * a + b) ≠ 0)) n n + 1 := by
  have L0 : L ≠ 0 := fun q => by
    rw [q, show (0 : Int32).toInt = 0 from rfl] at hL
    omega
  have h0' : mlen (16 * y + x) = 0 := by rw [← (h x y (by omega) (by omega)).2.2.1]; exact h0
  -- the two functions, made alike beyond the ground
  have key : ∀ (p q : Nat), p < q → q < n → (mlen (16 * p + q) = 0) → ((p = x ∧ q = y) ∨ (p = y ∧ q = x)) → cntP (fun a b => decide (upS2 mlen x y L (16 * a + b) ≠ 0)) n n = cntP (fun a b => decide (mlen (16 * a + b) ≠ 0)) n n + 1 := by
    intro p q hpq hq hm hor
    have e := cntP_one (f := fun a b => decide (a < n ∧ b < n ∧ mlen (16 * a + b) ≠ 0)) (g := fun a b => decide (a < n ∧ b < n ∧ upS2 mlen x y L (16 * a + b) ≠ 0)) (n := n) (a := p) (b := q) hpq hq (by simp [hm]) (by
      rw [decide_eq_true_eq, upS2_in (by omega) (by omega) (by omega) (by omega), if_pos hor]
      exact ⟨by omega, hq, L0⟩) (by
      intro u v huv hne
      by_cases hv : v < n
      · by_cases hc : (u = x ∧ v = y) ∨ (u = y ∧ v = x)
        · exact absurd (show u = p ∧ v = q by omega) hne
        · rw [upS2_in (by omega) (by omega) (by omega) (by omega), if_neg hc]
      · simp [hv]) n
    rw [if_pos (by omega)] at e
    have e1 : cntP (fun a b => decide (a < n ∧ b < n ∧ mlen (16 * a + b) ≠ 0)) n n = cntP (fun a b => decide (mlen (16 * a + b) ≠ 0)) n n := cntP_eq (fun u v hu hv _ => by simp [hu, hv])
    have e2 : cntP (fun a b => decide (a < n ∧ b < n ∧ upS2 mlen x y L (16 * a + b) ≠ 0)) n n = cntP (fun a b => decide (upS2 mlen x y L (16 * a + b) ≠ 0)) n n := cntP_eq (fun u v hu hv _ => by simp [hu, hv])
    rw [← e1, ← e2]
    exact e
  by_cases c : x < y
  · exact key x y c hy h0 (Or.inl ⟨rfl, rfl⟩)
  · exact key y x (by omega) hx h0' (Or.inr ⟨rfl, rfl⟩)
theorem Gr_lengthOf_eq (N : Nat) {a b : Nat} (ha : a < 16) (hb : b < 16) (μ : Mm) : f_Gr_lengthOf N (nI a) (nI b) μ = some (μ.1 7 (16 * a + b), μ) := by
  unfold f_Gr_lengthOf
  simp only [ix16]
  rw [if_pos (ixb_t (by omega) (by decide)), nI_clamp (by omega)]
/-- what setLength leaves -/
def glen (μ : Mm) (a b : Nat) (L : Int32) : Mm := sI (sI (sA μ 7 (upS2 (μ.1 7) a b L)) 6 9 1) 6 4 (μ.1 6 4 + 1)
theorem Gr_setLength_eq (N : Nat) {a b : Nat} (ha : a < 16) (hb : b < 16) (L : Int32) (μ : Mm) : f_Gr_setLength N (nI a) (nI b) L μ = some (glen μ a b L) := by
  unfold f_Gr_setLength f_Gr_wallsChanged
  simp only [ix16]
  rw [if_pos (ixb_t (by omega) (by decide)), if_pos (ixb_t (by omega) (by decide)), nI_clamp (by omega), nI_clamp (by omega)]
  simp only [bvS]
  have e : sI (sI μ 7 (16 * a + b) L) 7 (16 * b + a) L = sA μ 7 (upS2 (μ.1 7) a b L) := by
    rw [sI_sA, sI_sA, sA_sA, sA1, if_pos rfl]
    rfl
  rw [e]
  rfl
theorem M_join_eq (N : Nat) {a b : Nat} (ha : a < 16) (hb : b < 16) (L : Int32) (μ : Mm) : f_M_join N (nI a) (nI b) L μ = some (sA μ 5 (upS2 (μ.1 5) a b L)) := by
  unfold f_M_join
  simp only [ix16']
  rw [if_pos (ixb_t (by omega) (by decide)), if_pos (ixb_t (by omega) (by decide)), nI_clamp (by omega), nI_clamp (by omega)]
  rw [sI_sA, sI_sA, sA_sA, sA1, if_pos rfl]
  rfl
theorem len0 {x : Int32} {z : Int32} (h : 0 ≤ x.toInt ∧ x.toInt ≤ 30) : (if z = 0 then x else -x) = 0 ↔ x = 0 := by
  by_cases c : z = 0
  · rw [if_pos c]
  · rw [if_neg c]
    constructor
    · intro q
      apply eq_I.mpr
      have := eq_I.mp q
      rw [Int32.toInt_neg, show (0 : Int32).toInt = 0 from rfl] at this
      rw [Int.bmod_eq_of_le (by omega) (by omega)] at this
      rw [show (0 : Int32).toInt = 0 from rfl]
      omega
    · rintro rfl
      rfl
theorem sm_wall {RC : Nat → Mm → Prop} (hR : RCok RC) {N : Nat} (hN : 100 ≤ N) : Sm_wall (Rel RC) N := by
  intro k _ a1 a2 a3 μx μm h
  obtain ⟨g1, g2, g3, n, n1, n16, en, gL, gW, gB, gw, gb, g40, gF⟩ := id h.2.2.1
  obtain ⟨v, ev, hv⟩ := hR.2.2.1 k μx h.2.2.2.2.2.2
  have hnx := h.next hR
  unfold f_W_wall f_M_wall
  simp only [Gr_has_eq N n16 a1 μx (g3.trans en), Gr_has_eq N n16 a2 μx (g3.trans en), M_isPost_eq N n16 a1 μm en, M_isPost_eq N n16 a2 μm en, bnS, if01, f_M_in_eq]
  by_cases c1 : 0 ≤ a1.toInt ∧ a1.toInt < n
  · rw [if_pos c1, if_pos c1]
    obtain ⟨x, hx, rfl⟩ := row_of n c1
    by_cases c2 : 0 ≤ a2.toInt ∧ a2.toInt < n
    · rw [if_pos c2, if_pos c2]
      obtain ⟨y, hy, rfl⟩ := row_of n c2
      by_cases c3 : x = y
      · rw [if_pos (by rw [c3]), if_pos (by rw [c3])]
        exact ⟨_, _, _, rfl, rfl, hnx⟩
      · have c3' : ¬ nI x = nI y := fun q => c3 ((nI_eq (by omega) (by omega)).mp q)
        rw [if_neg c3', if_neg c3']
        by_cases c4 : 1 ≤ a3.toInt ∧ a3.toInt ≤ 30
        · rw [if_neg (show ¬ a3 < 1 by rw [lt_I, show (1 : Int32).toInt = 1 from rfl]; omega), if_neg (show ¬ (30 : Int32) < a3 by rw [lt_I, show (30 : Int32).toInt = 30 from rfl]; omega), if_pos (show (1 : Int32).toInt ≤ a3.toInt ∧ a3.toInt ≤ (30 : Int32).toInt from c4), Gr_lengthOf_eq N (by omega) (by omega)]
          simp only [bnS, ix16']
          rw [if_pos (ixb_t (show 16 * x + y < 256 by omega) (by decide)), nI_clamp (by omega)]
          obtain ⟨l1, l2, l3, l4, l5, l6, l7, l8⟩ := gL x y (by omega) (by omega)
          by_cases c5 : μm.1 5 (16 * x + y) = 0
          · rw [if_pos (show μx.1 7 (16 * x + y) = 0 by rw [l8]; exact (len0 l1).mpr c5), if_pos (show μm.1 5 (16 * x + y) ≤ 0 by rw [c5]; decide), M_walls_eq N n n16 (by omega) 0 μm en]
            have ew : cntP (wF μm 0) n n = cntP (fun a b => decide (μm.1 5 (16 * a + b) ≠ 0)) n n := cntP_eq (fun u w hu hw _ => wF0 (gL u w (by omega) (by omega)).1.1)
            rw [ew]
            simp only [bnS]
            rw [gw, g1]
            generalize hC : cntP (fun a b => decide (μm.1 5 (16 * a + b) ≠ 0)) n n = C at *
            by_cases c6 : C = 40
            · rw [if_neg (show ¬ nI C < 40 by rw [c6]; decide), if_pos (show nI C = 40 by rw [c6]; rfl)]
              exact ⟨_, _, _, rfl, rfl, hnx⟩
            · rw [if_pos (show nI C < 40 from nI_lt (b := 40) (by omega) (by decide)), if_neg (show ¬ nI C = 40 from fun q => c6 ((nI_eq (b := 40) (by omega) (by decide)).mp q))]
              by_cases c7 : μm.1 0 8 = 2
              · rw [if_pos c7, if_pos c7]
                unfold f_Gr_build
                rw [Gr_setLength_eq N (by omega) (by omega), M_join_eq N (by omega) (by omega)]
                simp only [bvS]
                have hcb := cnt_build n16 hx hy c3 c5 c4 gL
                rw [hC] at hcb
                have hlb := len_build n16 hx hy c3 c5 c4 gL
                have en' : (sA μm 5 (upS2 (μm.1 5) x y a3)).1 0 9 = nI n := en
                rw [M_walls_eq N n n16 (by omega) 0 _ en']
                have ew' : cntP (wF (sA μm 5 (upS2 (μm.1 5) x y a3)) 0) n n = C + 1 := by
                  rw [← hcb]
                  exact cntP_eq (fun u w hu hw _ => wF0 (hlb u w (by omega) (by omega)).1.1)
                rw [ew', bnS]
                refine ⟨nI (C + 1), sI (glen μx x y a3) 6 2 ((glen μx x y a3).1 6 2 + 1), sA μm 5 (upS2 (μm.1 5) x y a3), ?_, rfl, h.ground hR (v := v) (v' := v + 1) (fun c hc => ?_) rfl (fun c _ h5 _ _ _ => by rw [sA1, if_neg h5]) (fun f _ _ => rfl) rfl ⟨g1, g2, g3, n, n1, n16, en, hlb, gW, gB, ?_, gb, ?_, ?_⟩ ev hv ?_ (by omega) (by omega) (Or.inl rfl)⟩
                · have : (sI (glen μx x y a3) 6 2 ((glen μx x y a3).1 6 2 + 1)).1 6 2 = nI (C + 1) := by
                    show μx.1 6 2 + 1 = nI (C + 1)
                    rw [gw, nI_1]
                  rw [this]
                · unfold glen
                  rw [sI1, if_neg (by omega), sI1, if_neg (by omega), sI1, if_neg (by omega), sA1, if_neg (by omega)]
                · show μx.1 6 2 + 1 = nI (cntP (fun a b => decide (upS2 (μm.1 5) x y a3 (16 * a + b) ≠ 0)) n n)
                  rw [hcb, gw, nI_1]
                · show cntP (fun a b => decide (upS2 (μm.1 5) x y a3 (16 * a + b) ≠ 0)) n n ≤ 40
                  rw [hcb]
                  omega
                · intro q
                  have q' : μm.1 0 8 = 0 := q
                  rw [c7] at q'
                  exact absurd q' (by decide)
                · show μx.1 6 4 + 1 = nI (v + 1)
                  rw [ev, nI_1]
              · rw [if_neg c7, if_neg c7]
                simp only [fd3, md3, bnS]
                exact ⟨_, _, _, rfl, rfl, h.found hR 3⟩
          · rw [if_neg (show ¬ μx.1 7 (16 * x + y) = 0 by rw [l8]; exact fun q => c5 ((len0 l1).mp q)), if_neg (show ¬ μm.1 5 (16 * x + y) ≤ 0 from fun q => by
              have q1 := le_I.mp q
              rw [show (0 : Int32).toInt = 0 from rfl] at q1
              exact c5 (eq_I.mpr (by rw [show (0 : Int32).toInt = 0 from rfl]; omega)))]
            exact ⟨_, _, _, rfl, rfl, hnx⟩
        · rw [if_neg (show ¬ ((1 : Int32).toInt ≤ a3.toInt ∧ a3.toInt ≤ (30 : Int32).toInt) from c4)]
          clear h gL gW gB gF
          repeat' split
          all_goals first | exact ⟨_, _, _, rfl, rfl, hnx⟩ | (exfalso; simp only [lt_I, le_I, eq_I, Int32.reduceToInt] at *; omega)
    · rw [if_neg c2, if_neg c2]
      exact ⟨_, _, _, rfl, rfl, hnx⟩
  · rw [if_neg c1, if_neg c1]
    exact ⟨_, _, _, rfl, rfl, hnx⟩
