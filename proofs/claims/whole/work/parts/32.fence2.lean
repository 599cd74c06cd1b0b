/-! PURE 12: fence, its end -/
theorem fence_core {s n : Nat} {S S' : Nat → Int32} {mx mm : Mm} (hn : n ≤ 16) (hsn : (n = s + 1 ∧ 1 ≤ s) ∨ (n = s ∧ 3 ≤ s)) (hS : ∀ j, j < s → S j = S' j ∧ 1 ≤ (S' j).toInt ∧ (S' j).toInt ≤ 30) (h0 : ∀ a b, a < 16 → b < 16 → LenOk n (mx.1 7) (mm.1 5) (mm.1 6) a b) (hz : ∀ a b, a < 16 → b < 16 → mm.1 5 (16 * a + b) = 0) (hw : mx.1 6 2 = 0) : ∀ i, i ≤ s → (∀ a b, a < 16 → b < 16 → LenOk n ((bX S n mx i).1 7) ((bM S' n mm i).1 5) (mm.1 6) a b) ∧ (bX S n mx i).1 6 2 = nI i ∧ cntP (fun a b => decide ((bM S' n mm i).1 5 (16 * a + b) ≠ 0)) n n = i ∧ (∀ a b, a < 16 → b < 16 → (bM S' n mm i).1 5 (16 * a + b) ≠ 0 → ∃ j, j < i ∧ ((a = j ∧ b = nx n j) ∨ (b = j ∧ a = nx n j))) ∧ (∀ j, j < i → (bM S' n mm i).1 5 (16 * j + nx n j) ≠ 0) := by
  intro i
  induction i with
  | zero =>
    intro _
    refine ⟨h0, hw, ?_, fun a b ha hb q => absurd (hz a b ha hb) q, fun j hj => by omega⟩
    rw [cntP_eq (g := fun _ _ => false) (fun x y hx hy _ => by
      show decide (mm.1 5 (16 * x + y) ≠ 0) = false
      rw [hz x y (by omega) (by omega)]; rfl)]
    exact cntP_z (fun _ _ => rfl) n n
  | succ i ih =>
    intro hi
    obtain ⟨a1, a2, a3, a4, a5⟩ := ih (by omega)
    have hin : i < n := by omega
    have hx16 : nx n i < n := nx_lt (by omega)
    have hne : i ≠ nx n i := by
      unfold nx
      split
      · omega
      · omega
    have hfree : (bM S' n mm i).1 5 (16 * i + nx n i) = 0 := by
      refine Classical.byContradiction (fun q => ?_)
      obtain ⟨j, hj, hor⟩ := a4 i (nx n i) (by omega) (by omega) q
      unfold nx at hor
      rcases hor with ⟨e1, e2⟩ | ⟨e1, e2⟩
      · omega
      · split at e1 <;> split at e2 <;> omega
    obtain ⟨e0, eL⟩ := hS i (by omega)
    have hb := len_build hn hin hx16 hne hfree eL a1
    have hc := cnt_build hn hin hx16 hne hfree eL a1
    have L0 : S' i ≠ 0 := fun q => by
      rw [q, show (0 : Int32).toInt = 0 from rfl] at eL
      omega
    refine ⟨?_, ?_, ?_, fun a b ha hb' q => ?_, fun j hj => ?_⟩
    · show ∀ a b, a < 16 → b < 16 → LenOk n (upS2 ((bX S n mx i).1 7) i (nx n i) (S i)) (upS2 ((bM S' n mm i).1 5) i (nx n i) (S' i)) (mm.1 6) a b
      rw [e0]
      exact hb
    · show (bX S n mx i).1 6 2 + 1 = nI (i + 1)
      rw [a2, nI_1]
    · show cntP (fun a b => decide (upS2 ((bM S' n mm i).1 5) i (nx n i) (S' i) (16 * a + b) ≠ 0)) n n = i + 1
      rw [hc, a3]
    · have q' : upS2 ((bM S' n mm i).1 5) i (nx n i) (S' i) (16 * a + b) ≠ 0 := q
      rw [upS2_in (by omega) (by omega) ha hb'] at q'
      by_cases c : (a = i ∧ b = nx n i) ∨ (a = nx n i ∧ b = i)
      · exact ⟨i, by omega, by omega⟩
      · rw [if_neg c] at q'
        obtain ⟨j, hj, hor⟩ := a4 a b ha hb' q'
        exact ⟨j, by omega, hor⟩
    · show upS2 ((bM S' n mm i).1 5) i (nx n i) (S' i) (16 * j + nx n j) ≠ 0
      have hj16 : nx n j < n := nx_lt (by omega)
      rw [upS2_in (by omega) (by omega) (by omega) (by omega)]
      by_cases c : (j = i ∧ nx n j = nx n i) ∨ (j = nx n i ∧ nx n j = i)
      · rw [if_pos c]
        exact L0
      · rw [if_neg c]
        have : j < i := by
          rcases Nat.lt_or_ge j i with q | q
          · exact q
          · exact absurd (Or.inl ⟨by omega, by rw [show j = i by omega]⟩) c
        exact a5 j this
theorem fence_rel {RC : Nat → Mm → Prop} (hR : RCok RC) {k : Nat} {μx μm : Mm} (h : Rel RC k μx μm) {r s n : Nat} (kind : Int32) (hk : kind = 0 ∨ kind = 1) (hk0 : kind = 0 → n = s + 1 ∧ 1 ≤ s) (hk1 : kind = 1 → n = s ∧ 3 ≤ s) (hn : n ≤ 16) (hr : r < 8) (hsz : μm.1 2 r = nI s) (hs : s ≤ 40) (hw : aw (μm.1 3) (40 * r) s 1 30 0) : Rel RC (k + 1) (bX (fun j => (gbeg μx kind (nI n)).1 4 (40 * r + j)) n (gbeg μx kind (nI n)) s) (bM (fun j => (mclr μm kind n).1 3 (40 * r + j)) n (mclr μm kind n) s) := by
  obtain ⟨v, ev, hv⟩ := hR.2.2.1 k μx h.2.2.2.2.2.2
  obtain ⟨s1, s2, s3⟩ := id h.2.1
  obtain ⟨t1, t2, t3, t4⟩ := s1 r hr
  have hsn : (n = s + 1 ∧ 1 ≤ s) ∨ (n = s ∧ 3 ≤ s) := by
    rcases hk with q | q
    · exact Or.inl (hk0 q)
    · exact Or.inr (hk1 q)
  have hS : ∀ j, j < s → (gbeg μx kind (nI n)).1 4 (40 * r + j) = (mclr μm kind n).1 3 (40 * r + j) ∧ 1 ≤ ((mclr μm kind n).1 3 (40 * r + j)).toInt ∧ ((mclr μm kind n).1 3 (40 * r + j)).toInt ≤ 30 := by
    intro j hj
    obtain ⟨w1, w2⟩ := hw j hj (Nat.zero_le _)
    have w1' := le_I.mp w1
    have w2' := le_I.mp w2
    exact ⟨t4 j (by rw [hsz, tI (by omega)]; omega), w1', w2'⟩
  obtain ⟨c1, c2, c3, c4, c5⟩ := fence_core (s := s) (n := n) (S := fun j => (gbeg μx kind (nI n)).1 4 (40 * r + j)) (S' := fun j => (mclr μm kind n).1 3 (40 * r + j)) (mx := gbeg μx kind (nI n)) (mm := mclr μm kind n) hn hsn hS (len_beg n (μx.1 7) (μm.1 5) (μm.1 6)) (fun a b ha hb => fil_in (by omega)) rfl s (Nat.le_refl _)
  have eb : ∀ f, f ≠ 2 ∧ f ≠ 4 ∧ f ≠ 9 → (bX (fun j => (gbeg μx kind (nI n)).1 4 (40 * r + j)) n (gbeg μx kind (nI n)) s).1 6 f = (gbeg μx kind (nI n)).1 6 f := fun f hf => bX_6 _ _ _ f hf s
  have em : ∀ c, c ≠ 5 → (bM (fun j => (mclr μm kind n).1 3 (40 * r + j)) n (mclr μm kind n) s).1 c = (mclr μm kind n).1 c := fun c hc => bM_off _ _ _ c hc s
  have ex : ∀ c, c ≠ 6 ∧ c ≠ 7 → (bX (fun j => (gbeg μx kind (nI n)).1 4 (40 * r + j)) n (gbeg μx kind (nI n)) s).1 c = (gbeg μx kind (nI n)).1 c := fun c hc => bX_off _ _ _ c hc s
  have e4 : (gbeg μx kind (nI n)).1 6 4 = nI (v + 1) := by
    show μx.1 6 4 + 1 = nI (v + 1)
    rw [ev, nI_1]
  refine h.ground hR (v := v) (v' := v + 1 + s) (fun c hc => ?_) (bX_2 _ _ _ s) (fun c h0 h5 h6 h7 h8 => ?_) (fun f h8 h9 => ?_) (bM_2 _ _ _ s) ?_ ev hv (bX_4 _ n (v + 1) _ e4 s) (by omega) (by omega) (Or.inl (bX_9 _ _ _ rfl s))
  · rw [ex c (by omega)]
    unfold gbeg
    simp only [sI1, sA1, if_neg (show ¬ c = 6 by omega), if_neg (show ¬ c = 7 by omega), if_neg (show ¬ c = 8 by omega), if_neg (show ¬ c = 9 by omega)]
  · rw [em c h5]
    unfold mclr
    simp only [sI1, sA1, if_neg h0, if_neg h5, if_neg h6, if_neg h7, if_neg h8]
  · rw [em 0 (by decide)]
    show upd (upd (μm.1 0) 8 kind) 9 (nI n) f = μm.1 0 f
    rw [upd_at, if_neg h9, upd_at, if_neg h8]
  · unfold RGx
    rw [eb 0 (by decide), eb 1 (by decide), eb 3 (by decide), ex 8 (by decide), ex 9 (by decide), em 0 (by decide), em 6 (by decide), em 7 (by decide), em 8 (by decide), c2]
    refine ⟨rfl, ?_, rfl, n, by omega, hn, rfl, c1, fun p hp => ?_, fun p hp => ?_, by rw [c3], ?_, by rw [c3]; omega, fun q => ?_⟩
    · show kind = 0 ∨ kind = 1 ∨ kind = 2
      rcases hk with q | q
      · exact Or.inl q
      · exact Or.inr (Or.inl q)
    · show fil (μx.1 8) 0 16 1 p = gfil (μm.1 7) (fun x => if x < n then 1 else 0) 0 16 p ∧ 0 ≤ (gfil (μm.1 7) (fun x => if x < n then 1 else 0) 0 16 p).toInt ∧ (gfil (μm.1 7) (fun x => if x < n then 1 else 0) 0 16 p).toInt ≤ 9
      rw [fil_in (by omega), gfil_in (by omega), if_pos hp]
      exact ⟨rfl, by decide, by decide⟩
    · show fil (μx.1 9) 0 16 0 p = fil (μm.1 8) 0 16 0 p ∧ (fil (μm.1 8) 0 16 0 p = 0 ∨ fil (μm.1 8) 0 16 0 p = 1)
      rw [fil_in (by omega), fil_in (by omega)]
      exact ⟨rfl, Or.inl rfl⟩
    · show (0 : Int32) = nI (cntP (fun a b => decide (fil (μm.1 6) 0 256 0 (16 * a + b) ≠ 0)) n n)
      rw [cnt_beg hn]
      rfl
    · obtain ⟨q1, q2⟩ := hk0 q
      refine ⟨by omega, fun i hi => ?_⟩
      have := c5 i (by omega)
      unfold nx at this
      rwa [if_pos hi] at this
theorem sm_fence {RC : Nat → Mm → Prop} (hR : RCok RC) {N : Nat} (hN : 300 ≤ N) : Sm_fence (Rel RC) N := by
  intro k _ a1 a2 ha2 μx μm h
  unfold f_W_fence f_M_fence
  rw [f_W_isRow_eq, f_M_isRow_eq]
  simp only [bnS, if01]
  by_cases c : 0 ≤ a1.toInt ∧ a1.toInt < 8
  · rw [if_pos c, if_pos c]
    obtain ⟨r, hr, rfl⟩ := row_of 8 c
    obtain ⟨s1, s2, s3⟩ := id h.2.1
    obtain ⟨t1, t2, t3, t4⟩ := s1 r hr
    rw [Sf_lacks_eq N hr, if_pos (ixb_t hr (by decide)), nI_clamp (by omega)]
    simp only [bnS, if01, fd1, md1]
    by_cases c2 : (0 : Int32) ≤ μm.1 2 r
    · rw [if_neg (show ¬ μx.1 5 r = -1 by rw [t1, neg1 t2]; exact fun q => q c2), if_pos c2, Sf_sizeOf_eq N hr, if_pos (ixb_t hr (by decide))]
      obtain ⟨s, hs, es⟩ := size_nI c2 t3
      have ex : μx.1 5 r = nI s := t1.trans es
      simp only [bnS, f_M_in_eq, ex, es]
      obtain ⟨A1, A2⟩ : (aw (μx.1 4) (40 * r) s 1 30 0 → f_Sf_allWithin_L3 N N (nI r) 1 30 0 μx = some (1, μx)) ∧ (¬ aw (μx.1 4) (40 * r) s 1 30 0 → f_Sf_allWithin_L3 N N (nI r) 1 30 0 μx = some (0, μx)) := Sf_all_loop N r s hr hs 1 30 μx ex N 0 (by omega) (by omega)
      have B1 : ∀ kind, aw (μm.1 3) (40 * r) s 1 30 0 → f_M_fence_L57 N N (nI r) kind (nI s) 1 0 μm = f_M_fence_B97 N (nI r) kind (nI s) 1 μm := fun kind d => (M_fence_chk N r s hr hs kind μm N 0 1 (Or.inr rfl) (by omega) (by omega)).1 ⟨rfl, d⟩
      have B2 : ∀ kind, ¬ aw (μm.1 3) (40 * r) s 1 30 0 → f_M_fence_L57 N N (nI r) kind (nI s) 1 0 μm = f_M_fence_B97 N (nI r) kind (nI s) 0 μm := fun kind d => (M_fence_chk N r s hr hs kind μm N 0 1 (Or.inr rfl) (by omega) (by omega)).2 (fun q => d q.2)
      have B0 : ∀ kind, f_M_fence_L57 N N (nI r) kind (nI s) 0 0 μm = f_M_fence_B97 N (nI r) kind (nI s) 0 μm := fun kind => (M_fence_chk N r s hr hs kind μm N 0 0 (Or.inl rfl) (by omega) (by omega)).2 (fun q => absurd q.1 (by decide))
      have hae : aw (μx.1 4) (40 * r) s 1 30 0 ↔ aw (μm.1 3) (40 * r) s 1 30 0 := by
        have e : ∀ j, j < s → μx.1 4 (40 * r + j) = μm.1 3 (40 * r + j) := fun j hj => t4 j (by rw [es, tI (by omega)]; omega)
        constructor
        · intro q j hj hi
          rw [← e j hj]
          exact q j hj hi
        · intro q j hj hi
          rw [e j hj]
          exact q j hj hi
      have hbad := h.found hR 5
      have nbeg : ∀ (lo hi : Nat), lo ≤ 40 → hi ≤ 40 → ((nI lo).toInt ≤ (nI s).toInt ∧ (nI s).toInt ≤ (nI hi).toInt ↔ lo ≤ s ∧ s ≤ hi) := by
        intro lo hi h1 h2
        rw [tI (by omega), tI (by omega), tI (by omega)]
        omega
      -- one of the two kinds
      have both : ∀ (kind : Int32) (lo hi n : Nat), (kind = 0 ∨ kind = 1) → (kind = 0 → n = s + 1 ∧ lo = 1 ∧ hi = 15) → (kind = 1 → n = s ∧ lo = 3 ∧ hi = 16) → ∀ (zx zm : Int32), zx = nI lo → zm = nI hi → ∃ (q : Int32) (μ1 μ2 : Mm), f_W_fence_B60 N (nI r) kind (nI s) zx zm μx = some (q, μ1) ∧ f_M_fence_B52 N (nI r) kind (nI s) (if zx.toInt ≤ (nI s).toInt ∧ (nI s).toInt ≤ zm.toInt then 1 else 0) μm = some (q, μ2) ∧ Rel RC (k + 1) μ1 μ2 := by
        rintro kind lo hi n hk hk0 hk1 _ _ rfl rfl
        have hlohi : lo ≤ 3 ∧ hi ≤ 16 := by
          rcases hk with q | q
          · have := hk0 q; omega
          · have := hk1 q; omega
        unfold f_W_fence_B60 f_M_fence_B52 f_W_fence_B88 f_Sf_allWithin
        simp only [fd5, bnS]
        by_cases d1 : lo ≤ s ∧ s ≤ hi
        · rw [if_neg (show ¬ nI s < nI lo from nI_nlt d1.1 (by omega)), if_neg (show ¬ nI hi < nI s from nI_nlt d1.2 (by omega)), if_pos ((nbeg lo hi (by omega) (by omega)).mpr d1)]
          by_cases d2 : aw (μm.1 3) (40 * r) s 1 30 0
          · rw [A1 (hae.mpr d2), B1 kind d2]
            unfold f_M_fence_B97
            simp only [bnS]
            rw [if_neg (show ¬ (1 : Int32) = 0 by decide), if_neg (show ¬ (1 : Int32) = 0 by decide)]
            have hn16 : n ≤ 16 ∧ s ≤ n ∧ 0 < n := by
              rcases hk with q | q
              · have := hk0 q; omega
              · have := hk1 q; omega
            have fin : ∃ (q : Int32) (μ1 μ2 : Mm), f_W_fence_B121 N (nI r) (nI s) kind (nI n) μx = some (q, μ1) ∧ f_M_fence_B129 N (nI r) (nI s) kind (nI n) μm = some (q, μ2) ∧ Rel RC (k + 1) μ1 μ2 := by
              unfold f_W_fence_B121 f_M_fence_B129
              rw [Gr_begin_eq hN, M_clear_eq hN kind hn16.1]
              simp only [bvS]
              have l1 := W_fence_loop N r s n hr (by omega) hn16.2.1 hn16.1 hn16.2.2 (gbeg μx kind (nI n)) rfl N 0 (by omega) (by omega)
              have l2 := M_fence_loop N r s n hr (by omega) hn16.2.1 hn16.1 hn16.2.2 (mclr μm kind n) rfl N 0 (by omega) (by omega)
              refine ⟨_, _, _, l1, l2, fence_rel hR h kind hk (fun q => ?_) (fun q => ?_) hn16.1 hr es hs d2⟩
              · have := hk0 q; omega
              · have := hk1 q; omega
            rcases hk with q | q
            · subst q
              obtain ⟨q1, q2, q3⟩ := hk0 rfl
              rw [if_pos rfl, if_pos rfl]
              unfold f_W_fence_B110 f_M_fence_B118
              rw [if_pos rfl, if_pos rfl, nI_1]
              rw [q1] at fin
              exact fin
            · subst q
              obtain ⟨q1, q2, q3⟩ := hk1 rfl
              rw [if_neg (show ¬ (1 : Int32) = 0 by decide), if_neg (show ¬ (1 : Int32) = 0 by decide)]
              unfold f_W_fence_B110 f_M_fence_B118
              rw [if_neg (show ¬ (1 : Int32) = 0 by decide), if_neg (show ¬ (1 : Int32) = 0 by decide)]
              rw [q1] at fin
              exact fin
          · rw [A2 (fun q => d2 (hae.mp q)), B2 kind d2]
            unfold f_M_fence_B97
            simp only [bnS, md5]
            exact ⟨_, _, _, rfl, rfl, hbad⟩
        · rw [if_neg (fun q => d1 ((nbeg lo hi (by omega) (by omega)).mp q)), B0 kind]
          unfold f_M_fence_B97
          simp only [bnS, md5]
          by_cases d2 : lo ≤ s
          · rw [if_neg (show ¬ nI s < nI lo from nI_nlt d2 (by omega)), if_pos (show nI hi < nI s from nI_lt (by omega) (by omega))]
            exact ⟨_, _, _, rfl, rfl, hbad⟩
          · rw [if_pos (show nI s < nI lo from nI_lt (by omega) (by omega))]
            exact ⟨_, _, _, rfl, rfl, hbad⟩
      rcases ha2 with rfl | rfl
      · rw [if_pos rfl, if_pos rfl]
        unfold f_W_fence_B47
        rw [if_pos rfl]
        exact both 0 1 15 (s + 1) (Or.inl rfl) (fun _ => ⟨rfl, rfl, rfl⟩) (fun q => absurd q (by decide)) 1 15 rfl rfl
      · rw [if_neg (show ¬ (1 : Int32) = 0 by decide), if_neg (show ¬ (1 : Int32) = 0 by decide)]
        unfold f_W_fence_B47
        rw [if_neg (show ¬ (1 : Int32) = 0 by decide)]
        exact both 1 3 16 s (Or.inr rfl) (fun q => absurd q (by decide)) (fun _ => ⟨rfl, rfl, rfl⟩) 3 16 rfl rfl
    · rw [if_pos (show μx.1 5 r = -1 by rw [t1, neg1 t2]; exact c2), if_neg c2]
      exact ⟨_, _, _, rfl, rfl, h.found hR 1⟩
  · rw [if_neg c, if_neg c]
    exact ⟨_, _, _, rfl, rfl, h.next hR⟩
