/-! PURE 51: worst, safe, thief -/
theorem LA.dx {D : Da} (hw : D.w ≤ 8) {μ μ' : Mm} (a : XFr μ μ') (X : DX D μ) : DX D μ' := a.dx hw X
theorem sm_worst {TK} (N : Nat) (hN : 61000 ≤ N) : Sm_worst (Rel (RCv TK)) N := by
  have hR := RCv_ok TK
  intro k hk μx μm h
  obtain ⟨μ1, D, e, h1, I, X, M, C⟩ := h.fresh hk N (by omega)
  have j1 := jg_pos I
  have n16 := I.g.n16
  have w16 := wy_lt I
  unfold f_W_worst f_M_worst f_W_joint
  rw [e, bvS, Cr_joint_all N (by omega) I μ1 X C]
  simp only [bnS]
  rcases watch_m N hN I μm M h1.2.2.2.2.2.1 with ⟨q, μ2, r1, r2⟩ | ⟨q, μ2, r1, r2, r3, r4⟩
  · rw [if_pos q, if_neg (by decide), r1, bnS, if_pos rfl]
    exact ⟨_, _, _, rfl, rfl, (h1.mfr r2).next hR⟩
  · obtain ⟨μ3, s1, s2, s3, s4⟩ := watch_x N hN I q (A := D.wy) (need := 1) w16 (by decide) (by decide) μ1 X C
    rw [show nI 1 = (1 : Int32) from rfl] at s1
    obtain ⟨v1, v2⟩ := Wa_worst_eq N (by omega) I j1 q μ3 (s2.dx I.w8 X) s4
    obtain ⟨μ4, t1, t2, t3, t4⟩ := M_layWorst_eq N hN I (fun x => D.sa D.go (x : Int) D.w) (D.sq D.go) j1 q (fun p t => sq_mod q p t) μ2 (r2.dm M) r3 r4
    rw [if_neg (show ¬ 14400 < D.jg by omega), if_pos (show (1 : Int32) ≤ nI D.jg from (nIc (a := 1) (by decide) (by omega)).mpr j1), Gr_worthy_eq N (by omega) I μ1 X, bnS, s1, bvS, v1, bnS, r1, bnS, if_neg (show ¬ (1 : Int32) = 0 by decide), t1, bvS, t3, t4]
    have hh : Rel (RCv TK) k μ3 μ4 := ((h1.xfr hR s2).mfr r2).mfr t2.mfr
    have lb : ∀ p, -9 ≤ rL (D.sq D.go p) D.jg ∧ rL (D.sq D.go p) D.jg ≤ 14400 := fun p => ⟨(rL_b (D.sq D.go p) j1 q).1, (rL_b (D.sq D.go p) j1 q).2.1⟩
    have wb := ws_val D.wor (fun p => rL (D.sq D.go p) D.jg) D.n
    rcases wb with wb | ⟨p, p1, p2, p3⟩
    · rw [wb, if_pos (show zI (-9, (0 : Int)).1 < (0 : Int32) by decide), if_pos (show zI (-9, (0 : Int)).1 = (-9 : Int32) by decide)]
      exact ⟨_, _, _, rfl, rfl, hh.next hR⟩
    · rw [p3] at v2 ⊢
      have zp : zI ((p : Nat) : Int) = nI p := rfl
      have v2' := v2 (by show (0 : Int) ≤ (p : Int); omega)
      rw [if_neg (show ¬ zI (((p : Nat) : Int), if rL (D.sq D.go p) D.jg = -9 then -9 else (D.wor p : Int) * rL (D.sq D.go p) D.jg).1 < (0 : Int32) from fun q => by
        have q' : nI p < (0 : Int32) := q
        rw [lt_I, tI (by omega), show (0 : Int32).toInt = 0 from rfl] at q'
        omega), if_neg (show ¬ zI (((p : Nat) : Int), if rL (D.sq D.go p) D.jg = -9 then -9 else (D.wor p : Int) * rL (D.sq D.go p) D.jg).1 = (-9 : Int32) from fun q => by
        have q' : nI p = (-9 : Int32) := q
        rw [eq_I, tI (by omega), show (-9 : Int32).toInt = -9 from rfl] at q'
        omega), v2', bnS]
      unfold f_M_tells
      simp only [bnS]
      exact ⟨_, _, _, rfl, rfl, (hh.asks hR _).next hR⟩
/-- the longest idle time of all that have a worth -/
def sfF (wor : Nat → Nat) (lv : Nat → Int) : Nat → Int
  | 0 => 0
  | p + 1 => if wor p = 0 ∨ sfF wor lv p = -9 then sfF wor lv p else if lv p = -9 then -9 else if lv p ≤ sfF wor lv p then sfF wor lv p else lv p
theorem sfF_b {wor : Nat → Nat} {lv : Nat → Int} (hl : ∀ p, lv p = -9 ∨ 0 ≤ lv p) (hl2 : ∀ p, lv p ≤ 14400) : ∀ p, (sfF wor lv p = -9 ∨ 0 ≤ sfF wor lv p) ∧ sfF wor lv p ≤ 14400
  | 0 => by unfold sfF; omega
  | p + 1 => by
    have ih := sfF_b (wor := wor) hl hl2 p
    have h1 := hl p
    have h2 := hl2 p
    unfold sfF
    split
    · exact ih
    · split
      · omega
      · split
        · exact ih
        · omega
theorem M_safe_loop (N : Nat) (hN : 61000 ≤ N) {D : Da} (I : DI D) {J : Nat} (sv : Nat → Nat) (sq : Nat → Nat → Bool) (hJ : 1 ≤ J) (hJ2 : J ≤ 14400) (hs : ∀ p t, sq p t = (sv (t % J)).testBit p) : ∀ (m p : Nat) (μ : Mm), DM D μ → μ.1 0 31 = nI J → (∀ x, x < J → μ.1 21 x = nI (sv x) ∧ sv x < 65536) → p ≤ D.n → D.n < m + p → ∃ μ', f_M_safe_L14 N m (zI (sfF D.wor (fun p => rL (sq p) J) p)) (nI p) μ = some (zI (sfF D.wor (fun p => rL (sq p) J) D.n), μ') ∧ GFr μ μ' := by
  have n16 := I.g.n16
  have lb : ∀ p, -9 ≤ rL (sq p) J ∧ rL (sq p) J ≤ 14400 ∧ (rL (sq p) J = -9 ∨ 0 ≤ rL (sq p) J) := fun p => rL_b (sq p) hJ hJ2
  intro m
  induction m with
  | zero => intro p μ _ _ _ h1 h2; omega
  | succ m ih =>
    intro p μ M e31 tab h1 h2
    rw [f_M_safe_L14, M.n]
    by_cases c : p = D.n
    · rw [if_pos (nI_le (by omega) (by omega)), c]
      exact ⟨μ, rfl, GFr.refl μ⟩
    · have hp : p < D.n := by omega
      have w9 := I.wor p hp
      have wb := sfF_b (wor := D.wor) (lv := fun p => rL (sq p) J) (fun p => (lb p).2.2) (fun p => (lb p).2.1) p
      have st : sfF D.wor (fun p => rL (sq p) J) (p + 1) = if D.wor p = 0 ∨ sfF D.wor (fun p => rL (sq p) J) p = -9 then sfF D.wor (fun p => rL (sq p) J) p else if rL (sq p) J = -9 then -9 else if rL (sq p) J ≤ sfF D.wor (fun p => rL (sq p) J) p then sfF D.wor (fun p => rL (sq p) J) p else rL (sq p) J := rfl
      have ih0 := ih (p + 1) μ M e31 tab (by omega) (by omega)
      generalize sfF D.wor (fun p => rL (sq p) J) p = w at *
      rw [if_neg (nI_ge (by omega) (by omega)), if_pos (ixb_t (show p < 16 by omega) (by decide)), nI_clamp (show p < 2 ^ 31 by omega), M.wor p hp]
      unfold f_M_safe_B73 f_M_safe_B74
      simp only [nI_1, nI_add]
      by_cases c1 : D.wor p = 0
      · rw [if_pos (show nI (D.wor p) ≤ (0 : Int32) by rw [c1]; decide)]
        rw [st, if_pos (Or.inl c1)] at ih0
        exact ih0
      · rw [if_neg (show ¬ nI (D.wor p) ≤ (0 : Int32) from nI_ge (a := 0) (by omega) (by omega))]
        by_cases c2 : w = -9
        · rw [if_pos (show zI w = (-9 : Int32) by rw [c2]; rfl)]
          rw [st, if_pos (Or.inr c2)] at ih0
          exact ih0
        · rw [if_neg (show ¬ zI w = (-9 : Int32) from fun q => c2 ((zI_eq (b := -9) (by omega) (by omega) (by decide) (by decide)).mp q))]
          rw [if_neg (by omega)] at st
          obtain ⟨μ1, r1, r2, r3, r4, r5⟩ := M_layRows_eq N hN (need := 1) sv (sq p) hJ hJ2 (show p < 16 by omega) (by decide) (by decide) (hs p) μ e31 tab
          rw [show nI 1 = (1 : Int32) from rfl] at r1
          rw [r1, bvS, r3]
          have l := lb p
          obtain ⟨μ', q1, q2⟩ := ih (p + 1) μ1 (r2.mfr.dm M) (by rw [r2.2.1 31 (by omega)]; exact e31) (fun x hx => by rw [r2.1 21 (by decide)]; exact tab x hx) (by omega) (by omega)
          by_cases c3 : rL (sq p) J = -9
          · rw [if_pos (show zI (rL (sq p) J) = (-9 : Int32) by rw [c3]; rfl)]
            rw [st, if_pos c3] at q1
            exact ⟨μ', q1, r2.trans q2⟩
          · rw [if_neg (show ¬ zI (rL (sq p) J) = (-9 : Int32) from fun q => c3 ((zI_eq (b := -9) (by omega) (by omega) (by decide) (by decide)).mp q))]
            rw [st, if_neg c3] at q1
            have le : zI (rL (sq p) J) ≤ zI w ↔ rL (sq p) J ≤ w := by
              rw [le_I, zI_toInt (by omega) (by omega), zI_toInt (by omega) (by omega)]
            by_cases c5 : rL (sq p) J ≤ w
            · rw [if_pos (le.mpr c5)]
              rw [if_pos c5] at q1
              exact ⟨μ', q1, r2.trans q2⟩
            · rw [if_neg (fun q => c5 (le.mp q))]
              rw [if_neg c5] at q1
              exact ⟨μ', q1, r2.trans q2⟩
theorem sf_never {wor : Nat → Nat} {lv : Nat → Int} {n k : Nat} (hk : k < n) (h1 : 0 < wor k) (h2 : lv k = -9) : ∀ p, p ≤ n → k < p → sfF wor lv p = -9
  | 0, _, h => by omega
  | p + 1, hp, h => by
    unfold sfF
    by_cases c : k = p
    · subst c
      split
      · rename_i q
        omega
      · first | rfl | rw [if_pos h2]
    · have := sf_never hk h1 h2 p (by omega) (by omega)
      rw [this, if_pos (Or.inr rfl)]
theorem Wa_longest_loop (N : Nat) {D : Da} (I : DI D) {sq : Nat → Nat → Bool} {J need : Nat} (hJ : 1 ≤ J) (hJ2 : J ≤ 14400) (μ : Mm) (L : LA D sq J need D.wy 0 μ) : ∀ (m p : Nat), p ≤ 16 → 16 < m + p → f_Wa_longestIdle_L14 N m (zI (sfF D.wor (fun p => rL (sq p) J) (min p D.n))) (nI p) μ = some (zI (sfF D.wor (fun p => rL (sq p) J) D.n), μ) := by
  have n16 := I.g.n16
  have w16 := wy_lt I
  have lb : ∀ p, -9 ≤ rL (sq p) J ∧ rL (sq p) J ≤ 14400 ∧ (rL (sq p) J = -9 ∨ 0 ≤ rL (sq p) J) := fun p => rL_b (sq p) hJ hJ2
  have hl : ∀ p, p < D.n → 0 < D.wor p → 0 ≤ rL (sq p) J ∧ (rd μ p).1 = zI (rL (sq p) J) := fun p hp hw => (L.2.2.2.2.2 p (by omega) ((wy_tb p).mpr ⟨hp, hw⟩)).2.2.2.2 (Nat.zero_testBit p)
  have sb : ∀ p, p ≤ D.n → 0 ≤ sfF D.wor (fun p => rL (sq p) J) p ∧ sfF D.wor (fun p => rL (sq p) J) p ≤ 14400 := fun p hp => by
    refine ⟨?_, (sfF_b (wor := D.wor) (lv := fun p => rL (sq p) J) (fun p => (lb p).2.2) (fun p => (lb p).2.1) p).2⟩
    induction p with
    | zero => unfold sfF; omega
    | succ p ih =>
      have ih := ih (by omega)
      unfold sfF
      split
      · exact ih
      · have := hl p (by omega) (by omega)
        split
        · omega
        · split <;> omega
  intro m
  induction m with
  | zero => intro p h1 h2; omega
  | succ m ih =>
    intro p h1 h2
    rw [f_Wa_longestIdle_L14]
    by_cases c : p = 16
    · subst c
      rw [if_pos (by decide), Nat.min_eq_right n16]
    · rw [if_neg (show ¬ (16 : Int32) ≤ nI p from nI_ge (b := 16) (by omega) (by decide)), L.1, bitN (by omega) (by omega)]
      unfold f_Wa_longestIdle_B42
      simp only [nI_1, nI_add, Jmax', bnS]
      have ih' := ih (p + 1) (by omega) (by omega)
      by_cases d : D.wy.testBit p = true
      · obtain ⟨hp, hw⟩ := (wy_tb p).mp d
        have l0 := hl p hp hw
        have lu := (lb p).2.1
        have sbp := sb p (by omega)
        rw [d, if_neg (by decide), if_pos (ixb_t (show p < 16 by omega) (by decide)), nI_clamp (show p < 2 ^ 31 by omega), show μ.1 62 p = (rd μ p).1 from rfl, l0.2, Nat.min_eq_left (by omega)]
        rw [Nat.min_eq_left (by omega)] at ih'
        have st : sfF D.wor (fun p => rL (sq p) J) (p + 1) = if D.wor p = 0 ∨ sfF D.wor (fun p => rL (sq p) J) p = -9 then sfF D.wor (fun p => rL (sq p) J) p else if rL (sq p) J = -9 then -9 else if rL (sq p) J ≤ sfF D.wor (fun p => rL (sq p) J) p then sfF D.wor (fun p => rL (sq p) J) p else rL (sq p) J := rfl
        rw [if_neg (by omega), if_neg (by omega)] at st
        rw [st] at ih'
        unfold mxI
        rw [zI_toInt (by omega) (by omega), zI_toInt (by omega) (by omega)]
        by_cases e : rL (sq p) J ≤ sfF D.wor (fun p => rL (sq p) J) p
        · rw [if_pos e] at ih' ⊢
          exact ih'
        · rw [if_neg e] at ih' ⊢
          exact ih'
      · have d' : D.wy.testBit p = false := by simpa using d
        have mx0 : ∀ x : Int, 0 ≤ x → x ≤ 14400 → mxI (zI x) 0 = zI x := fun x h1 h2 => by
          unfold mxI
          rw [zI_toInt (by omega) (by omega), if_pos (by rw [show (0 : Int32).toInt = 0 from rfl]; exact h1)]
        have sbm := sb (min p D.n) (by omega)
        rw [d', if_pos (by decide), mx0 _ sbm.1 sbm.2]
        by_cases e : p < D.n
        · have w0 : D.wor p = 0 := by
            rcases Nat.eq_zero_or_pos (D.wor p) with q | q
            · exact q
            · exact absurd ((wy_tb p).mpr ⟨e, q⟩) d
          have st : sfF D.wor (fun p => rL (sq p) J) (p + 1) = sfF D.wor (fun p => rL (sq p) J) p := by
            show (if D.wor p = 0 ∨ _ then _ else _) = _
            rw [if_pos (Or.inl w0)]
          rw [Nat.min_eq_left (by omega)] at ih' ⊢
          rw [st] at ih'
          exact ih'
        · rw [Nat.min_eq_right (by omega)] at ih' ⊢
          exact ih'
theorem sm_safe {TK} (N : Nat) (hN : 61000 ≤ N) : Sm_safe (Rel (RCv TK)) N := by
  have hR := RCv_ok TK
  intro k hk μx μm h
  obtain ⟨μ1, D, e, h1, I, X, M, C⟩ := h.fresh hk N (by omega)
  have j1 := jg_pos I
  have n16 := I.g.n16
  have w16 := wy_lt I
  unfold f_W_safe f_M_safe f_W_joint
  rw [e, bvS, Cr_joint_all N (by omega) I μ1 X C]
  simp only [bnS]
  rcases watch_m N hN I μm M h1.2.2.2.2.2.1 with ⟨q, μ2, r1, r2⟩ | ⟨q, μ2, r1, r2, r3, r4⟩
  · rw [if_pos q, if_neg (by decide), r1, bnS, if_pos rfl]
    exact ⟨_, _, _, rfl, rfl, (h1.mfr r2).next hR⟩
  · obtain ⟨μ3, s1, s2, s3, s4⟩ := watch_x N hN I q (A := D.wy) (need := 1) w16 (by decide) (by decide) μ1 X C
    rw [show nI 1 = (1 : Int32) from rfl] at s1
    obtain ⟨μ4, t1, t2⟩ := M_safe_loop N hN I (fun x => D.sa D.go (x : Int) D.w) (D.sq D.go) j1 q (fun p t => sq_mod q p t) N 0 μ2 (r2.dm M) r3 r4 (by omega) (by omega)
    rw [show zI (sfF D.wor (fun p => rL (D.sq D.go p) D.jg) 0) = (0 : Int32) from rfl, show nI 0 = (0 : Int32) from rfl] at t1
    rw [if_neg (show ¬ 14400 < D.jg by omega), if_pos (show (1 : Int32) ≤ nI D.jg from (nIc (a := 1) (by decide) (by omega)).mpr j1), Gr_worthy_eq N (by omega) I μ1 X, bnS, s1, bvS, r1, bnS, if_neg (show ¬ (1 : Int32) = 0 by decide), t1]
    have hh : Rel (RCv TK) k μ3 μ4 := ((h1.xfr hR s2).mfr r2).mfr t2.mfr
    have fin : f_Wa_longestIdle N μ3 = some (zI (sfF D.wor (fun p => rL (D.sq D.go p) D.jg) D.n), μ3) := by
      obtain ⟨l1, l2, l3, l4, l5, l6⟩ := id s4
      unfold f_Wa_longestIdle
      rw [l2]
      generalize hV : anN D.wy (D.ea D.go D.w) = V at *
      by_cases c : V = 0
      · subst c
        rw [if_pos (by decide)]
        have := Wa_longest_loop N I j1 q μ3 s4 N 0 (by omega) (by omega)
        rw [Nat.zero_min] at this
        exact this
      · obtain ⟨k', k1, k2⟩ : ∃ k, V.testBit k = true ∧ ∀ t, t < k → V.testBit t = false := by
          obtain ⟨a, b, d⟩ := fsN_spec (fun q => V.testBit q) 16
          rcases Nat.lt_or_ge (fsN (fun q => V.testBit q) 16) 16 with e | e
          · exact ⟨_, b e, d⟩
          · exact absurd ((bs_zero (n := 16) l4).mpr (fun i hi => d i (by omega))) c
        have ka := (wy_tb k').mp (l5 k' k1)
        rw [if_neg (nI_ne0 (by omega) (by omega)), sf_never (wor := D.wor) (lv := fun p => rL (D.sq D.go p) D.jg) ka.1 ka.2 ((l6 k' (by omega) (l5 k' k1)).2.2.2.1.mp k1) D.n (Nat.le_refl _) ka.1]
        rfl
    rw [fin]
    exact ⟨_, _, _, rfl, rfl, hh.next hR⟩
/-- where a thief fares best -/
def tfF (wor O : Nat → Nat) : Nat → Int × Nat
  | 0 => (-9, 0)
  | p + 1 => if (tfF wor O p).2 < wor p * O p then (((p : Nat) : Int), wor p * O p) else tfF wor O p
theorem tfF_b {wor O : Nat → Nat} {n : Nat} (hn : n ≤ 16) (hw : ∀ p, p < n → wor p ≤ 9) (ho : ∀ p, O p ≤ 14400) : ∀ p, p ≤ n → (tfF wor O p).2 ≤ 129600 ∧ (tfF wor O p = (-9, 0) ∨ ∃ q, q < p ∧ tfF wor O p = (((q : Nat) : Int), wor q * O q) ∧ 0 < wor q * O q)
  | 0, _ => ⟨by unfold tfF; decide, Or.inl rfl⟩
  | p + 1, hp => by
    obtain ⟨i1, i2⟩ := tfF_b hn hw ho p (by omega)
    have : wor p * O p ≤ 9 * 14400 := Nat.mul_le_mul (hw p (by omega)) (ho p)
    unfold tfF
    split
    · rename_i c
      exact ⟨this, Or.inr ⟨p, by omega, rfl, by omega⟩⟩
    · refine ⟨i1, ?_⟩
      rcases i2 with i2 | ⟨q, a, b⟩
      · exact Or.inl i2
      · exact Or.inr ⟨q, by omega, b⟩
theorem M_thief_loop (N : Nat) (hN : 61000 ≤ N) {D : Da} (I : DI D) {J need : Nat} (sv : Nat → Nat) (sq : Nat → Nat → Bool) (hJ : 1 ≤ J) (hJ2 : J ≤ 14400) (hn : 1 ≤ need) (hn2 : need ≤ 14400) (hs : ∀ p t, sq p t = (sv (t % J)).testBit p) : ∀ (m p : Nat) (μ : Mm), DM D μ → μ.1 0 31 = nI J → (∀ x, x < J → μ.1 21 x = nI (sv x) ∧ sv x < 65536) → p ≤ D.n → D.n < m + p → ∃ μ', f_M_thief_L27 N m (nI need) (zI (tfF D.wor (fun p => rO (sq p) J need) p).1) (nI (tfF D.wor (fun p => rO (sq p) J need) p).2) (nI p) μ = f_M_thief_B81 N (zI (tfF D.wor (fun p => rO (sq p) J need) D.n).1) (nI (tfF D.wor (fun p => rO (sq p) J need) D.n).2) μ' ∧ GFr μ μ' := by
  have n16 := I.g.n16
  intro m
  induction m with
  | zero => intro p μ _ _ _ h1 h2; omega
  | succ m ih =>
    intro p μ M e31 tab h1 h2
    rw [f_M_thief_L27, M.n]
    by_cases c : p = D.n
    · rw [if_pos (nI_le (by omega) (by omega)), c]
      exact ⟨μ, rfl, GFr.refl μ⟩
    · have hp : p < D.n := by omega
      have w9 := I.wor p hp
      have ob : ∀ p, rO (sq p) J need ≤ 14400 := fun p => Nat.le_trans (rO_b (sq p) hJ hn) hJ2
      have wb := (tfF_b (wor := D.wor) (O := fun p => rO (sq p) J need) n16 (fun p hp => I.wor p hp) ob p (by omega)).1
      have pm : D.wor p * rO (sq p) J need ≤ 9 * 14400 := Nat.mul_le_mul w9 (ob p)
      have st : tfF D.wor (fun p => rO (sq p) J need) (p + 1) = if (tfF D.wor (fun p => rO (sq p) J need) p).2 < D.wor p * rO (sq p) J need then (((p : Nat) : Int), D.wor p * rO (sq p) J need) else tfF D.wor (fun p => rO (sq p) J need) p := rfl
      obtain ⟨μ1, r1, r2, r3, r4, r5⟩ := M_layRows_eq N hN (need := need) sv (sq p) hJ hJ2 (show p < 16 by omega) hn hn2 (hs p) μ e31 tab
      have M1 := r2.mfr.dm M
      obtain ⟨μ', q1, q2⟩ := ih (p + 1) μ1 M1 (by rw [r2.2.1 31 (by omega)]; exact e31) (fun x hx => by rw [r2.1 21 (by decide)]; exact tab x hx) (by omega) (by omega)
      rw [if_neg (nI_ge (by omega) (by omega)), r1, bvS, if_pos (ixb_t (show p < 16 by omega) (by decide)), nI_clamp (show p < 2 ^ 31 by omega), M1.wor p hp, r5, pk_mul]
      unfold f_M_thief_B75
      simp only [nI_1, nI_add, if_pos (ixb_t (show p < 16 by omega) (show 16 < 2 ^ 31 by decide))]
      by_cases c5 : (tfF D.wor (fun p => rO (sq p) J need) p).2 < D.wor p * rO (sq p) J need
      · rw [if_neg (nI_ge c5 (by omega))]
        rw [st, if_pos c5] at q1
        exact ⟨μ', q1, r2.trans q2⟩
      · rw [if_pos (nI_le (by omega) (by omega))]
        rw [st, if_neg c5] at q1
        exact ⟨μ', q1, r2.trans q2⟩
theorem Wa_lureOf_eq (N : Nat) {D : Da} (I : DI D) {sq : Nat → Nat → Bool} {J need V p : Nat} (hp : p < D.n) (hw : 0 < D.wor p) (μ : Mm) (X : DX D μ) (L : LA D sq J need D.wy V μ) : f_Wa_lureOf N (nI p) μ = some (nI (D.wor p * rO (sq p) J need), μ) := by
  have n16 := I.g.n16
  have lk := L.2.2.2.2.2 p (by omega) ((wy_tb p).mpr ⟨hp, hw⟩)
  have e65 : μ.1 65 p = nI (rO (sq p) J need) := lk.2.2.1
  unfold f_Wa_lureOf f_Gr_worthOf
  rw [if_pos (ixb_t (show p < 16 by omega) (by decide)), if_pos (ixb_t (show p < 16 by omega) (by decide)), nI_clamp (show p < 2 ^ 31 by omega), X.wor p hp, e65, bnS, pk_mul, Nat.mul_comm]
theorem Wa_thief_loop (N : Nat) {D : Da} (I : DI D) {sq : Nat → Nat → Bool} {J need V : Nat} (hJ : 1 ≤ J) (hJ2 : J ≤ 14400) (hn : 1 ≤ need) (μ : Mm) (X : DX D μ) (L : LA D sq J need D.wy V μ) : ∀ (m p : Nat), p ≤ 16 → 16 < m + p → f_Wa_bestForThief_L7 N m (zI (tfF D.wor (fun p => rO (sq p) J need) (min p D.n)).1) (nI (tfF D.wor (fun p => rO (sq p) J need) (min p D.n)).2) (nI p) μ = some (zI (tfF D.wor (fun p => rO (sq p) J need) D.n).1, μ) := by
  have n16 := I.g.n16
  have w16 := wy_lt I
  have ob : ∀ p, rO (sq p) J need ≤ 14400 := fun p => Nat.le_trans (rO_b (sq p) hJ hn) hJ2
  intro m
  induction m with
  | zero => intro p h1 h2; omega
  | succ m ih =>
    intro p h1 h2
    rw [f_Wa_bestForThief_L7]
    by_cases c : p = 16
    · subst c
      rw [if_pos (by decide), Nat.min_eq_right n16]
    · rw [if_neg (show ¬ (16 : Int32) ≤ nI p from nI_ge (b := 16) (by omega) (by decide)), L.1, bitN (by omega) (by omega)]
      unfold f_Wa_bestForThief_B41
      simp only [nI_1, nI_add]
      have ih' := ih (p + 1) (by omega) (by omega)
      by_cases d : D.wy.testBit p = true
      · obtain ⟨hp, hw⟩ := (wy_tb p).mp d
        have w9 := I.wor p hp
        have wb := (tfF_b (wor := D.wor) (O := fun p => rO (sq p) J need) n16 (fun p hp => I.wor p hp) ob p (by omega)).1
        have pm : D.wor p * rO (sq p) J need ≤ 9 * 14400 := Nat.mul_le_mul w9 (ob p)
        have ld := Wa_lureOf_eq N I hp hw μ X L
        rw [d, if_neg (by decide), ld, bnS, Nat.min_eq_left (by omega)]
        rw [Nat.min_eq_left (by omega)] at ih'
        have st : tfF D.wor (fun p => rO (sq p) J need) (p + 1) = if (tfF D.wor (fun p => rO (sq p) J need) p).2 < D.wor p * rO (sq p) J need then (((p : Nat) : Int), D.wor p * rO (sq p) J need) else tfF D.wor (fun p => rO (sq p) J need) p := rfl
        by_cases e : (tfF D.wor (fun p => rO (sq p) J need) p).2 < D.wor p * rO (sq p) J need
        · rw [if_neg (nI_ge e (by omega)), ld, bnS]
          rw [st, if_pos e] at ih'
          exact ih'
        · rw [if_pos (nI_le (by omega) (by omega))]
          rw [st, if_neg e] at ih'
          exact ih'
      · have d' : D.wy.testBit p = false := by simpa using d
        rw [d', if_pos (by decide)]
        by_cases e : p < D.n
        · have w0 : D.wor p = 0 := by
            rcases Nat.eq_zero_or_pos (D.wor p) with q | q
            · exact q
            · exact absurd ((wy_tb p).mpr ⟨e, q⟩) d
          have st : tfF D.wor (fun p => rO (sq p) J need) (p + 1) = tfF D.wor (fun p => rO (sq p) J need) p := by
            show (if _ < D.wor p * rO (sq p) J need then _ else _) = _
            rw [w0, Nat.zero_mul, if_neg (by omega)]
          rw [Nat.min_eq_left (by omega)] at ih' ⊢
          rw [st] at ih'
          exact ih'
        · rw [Nat.min_eq_right (by omega)] at ih' ⊢
          exact ih'
theorem sm_thief {TK} (N : Nat) (hN : 61000 ≤ N) : Sm_thief (Rel (RCv TK)) N := by
  have hR := RCv_ok TK
  intro k hk a1 μx μm h
  have hnx := h.next hR
  unfold f_W_thief f_M_thief
  rw [W_isNeed_eq, M_isNeed_eq]
  simp only [bnS, if01]
  by_cases cn : 1 ≤ a1.toInt ∧ a1.toInt ≤ 14400
  · rw [if_pos cn, if_pos cn]
    obtain ⟨need, hn, rfl⟩ := row_of (x := a1) 14401 ⟨by omega, by omega⟩
    rw [tI (by omega)] at cn
    obtain ⟨μ1, D, e, h1, I, X, M, C⟩ := h.fresh hk N (by omega)
    have j1 := jg_pos I
    have n16 := I.g.n16
    have w16 := wy_lt I
    unfold f_W_joint
    rw [e, bvS, Cr_joint_all N (by omega) I μ1 X C]
    simp only [bnS]
    rcases watch_m N hN I μm M h1.2.2.2.2.2.1 with ⟨q, μ2, r1, r2⟩ | ⟨q, μ2, r1, r2, r3, r4⟩
    · rw [if_pos q, if_neg (by decide), r1, bnS, if_pos rfl]
      exact ⟨_, _, _, rfl, rfl, (h1.mfr r2).next hR⟩
    · obtain ⟨μ3, s1, s2, s3, s4⟩ := watch_x N hN I q (A := D.wy) (need := need) w16 (by omega) (by omega) μ1 X C
      obtain ⟨μ4, t1, t2⟩ := M_thief_loop N hN I (need := need) (fun x => D.sa D.go (x : Int) D.w) (D.sq D.go) j1 q (by omega) (by omega) (fun p t => sq_mod q p t) N 0 μ2 (r2.dm M) r3 r4 (by omega) (by omega)
      have X3 := s2.dx I.w8 X
      have lp := Wa_thief_loop N I j1 q (by omega) μ3 X3 s4 N 0 (by omega) (by omega)
      rw [Nat.zero_min] at lp
      have z1 : zI (tfF D.wor (fun p => rO (D.sq D.go p) D.jg need) 0).1 = (-9 : Int32) := rfl
      have z2 : nI (tfF D.wor (fun p => rO (D.sq D.go p) D.jg need) 0).2 = (0 : Int32) := rfl
      rw [z1, z2, show nI 0 = (0 : Int32) from rfl] at t1 lp
      have lp' : f_Wa_bestForThief N μ3 = some (zI (tfF D.wor (fun p => rO (D.sq D.go p) D.jg need) D.n).1, μ3) := lp
      rw [if_neg (show ¬ 14400 < D.jg by omega), if_pos (show (1 : Int32) ≤ nI D.jg from (nIc (a := 1) (by decide) (by omega)).mpr j1), Gr_worthy_eq N (by omega) I μ1 X, bnS, s1, bvS, lp', bnS, r1, bnS, if_neg (show ¬ (1 : Int32) = 0 by decide), t1]
      have hh : Rel (RCv TK) k μ3 μ4 := ((h1.xfr hR s2).mfr r2).mfr t2.mfr
      have m31 : μ4.1 0 31 = nI D.jg := by rw [t2.2.1 31 (by omega)]; exact r3
      have ob : ∀ p, rO (D.sq D.go p) D.jg need ≤ 14400 := fun p => Nat.le_trans (rO_b (D.sq D.go p) j1 (by omega)) q
      unfold f_M_thief_B81
      rcases (tfF_b (wor := D.wor) (O := fun p => rO (D.sq D.go p) D.jg need) n16 (fun p hp => I.wor p hp) ob D.n (Nat.le_refl _)).2 with wb | ⟨p, p1, p3, p2⟩
      · rw [wb, if_pos (show zI (-9, (0 : Nat)).1 < (0 : Int32) by decide), if_pos (show zI (-9, (0 : Nat)).1 = (-9 : Int32) by decide)]
        exact ⟨_, _, _, rfl, rfl, hh.next hR⟩
      · have w0 : 0 < D.wor p := Nat.pos_of_mul_pos_right p2
        have pm : D.wor p * rO (D.sq D.go p) D.jg need ≤ 9 * 14400 := Nat.mul_le_mul (I.wor p p1) (ob p)
        rw [p3]
        have zp : zI (((p : Nat) : Int), D.wor p * rO (D.sq D.go p) D.jg need).1 = nI p := rfl
        simp only [zp]
        rw [if_neg (show ¬ nI p < (0 : Int32) from fun q => by
          rw [lt_I, tI (by omega), show (0 : Int32).toInt = 0 from rfl] at q
          omega), if_neg (show ¬ nI p = (-9 : Int32) from fun q => by
          rw [eq_I, tI (by omega), show (-9 : Int32).toInt = -9 from rfl] at q
          omega), Wa_lureOf_eq N I p1 w0 μ3 X3 s4, bnS, s3, m31, i2lN (by omega), i2lN (by omega), Ta_tell_eq N (by omega) (by omega) j1 (by omega), M_fraction_eq N (by omega) (by omega) j1 (by omega)]
        simp only [bnS, bvS]
        exact ⟨_, _, _, rfl, rfl, (hh.tells hR _ _).next hR⟩
  · rw [if_neg cn, if_neg cn]
    exact ⟨_, _, _, rfl, rfl, hnx⟩
