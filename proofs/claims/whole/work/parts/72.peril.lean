/-! PURE 52: peril: what the class works out -/
def Da.gB (D : Da) : Nat := bsN D.go D.w
def Da.ls (D : Da) (many s : Nat) : Bool := decide (anN s D.gB = 0) && decide (cnt (fun i => s.testBit i) 16 = many)
def Da.ov (D : Da) (s : Nat) : Bool := decide (14400 < D.jn (D.goL s) D.w)
def Da.ws (D : Da) (s : Nat) : Int × Int := wsF D.wor (fun p => rL (D.sq (D.goL s) p) (D.jn (D.goL s) D.w)) D.n
theorem gB_lt {D : Da} (I : DI D) : D.gB < 256 := bsgo_lt I D.go
theorem sub_le {s B n : Nat} (hs : s < 2 ^ n) (h : anN s B = 0) : s ≤ B := by
  have e : s &&& B = s := by
    apply Nat.eq_of_testBit_eq
    intro i
    have := anN_tb s B i
    rw [h, Nat.zero_testBit] at this
    rw [Nat.testBit_and]
    cases a : s.testBit i <;> cases b : B.testBit i <;> simp_all
  rw [← e]
  exact Nat.and_le_right
theorem goL_tb {D : Da} (s : Nat) {x : Nat} (hx : x < D.w) : (anN D.gB s).testBit x = D.goL s x := by
  rw [anN_tb]
  unfold Da.gB Da.goL
  rw [bsgo_tb _ hx]
theorem W_isLoss_eq (N : Nat) {D : Da} (I : DI D) {s many : Nat} (hs : s < 256) (hm : many ≤ 16) (μ : Mm) : f_W_isLoss N (nI s) (nI D.gB) (nI many) μ = some (b2 (D.ls many s), μ) := by
  have hb := gB_lt I
  have al : anN s D.gB < 256 := anN_lt (n := 8) hs
  have cl := cnt_le (fun i => s.testBit i) 16
  unfold f_W_isLoss Da.ls
  rw [notN (by omega) (by omega)]
  by_cases c : anN s D.gB = 0
  · rw [if_pos (by rw [c]; rfl), bitCount_eq N (by omega), bnS, decide_eq_true c, Bool.true_and]
    by_cases d : cnt (fun i => s.testBit i) 16 = many
    · rw [if_pos (by rw [d]), decide_eq_true d]; rfl
    · rw [if_neg (fun q => d ((nI_eq (by omega) (by omega)).mp q)), decide_eq_false d]; rfl
  · rw [if_neg (nI_ne0 (by omega) (by omega)), decide_eq_false c]; rfl
theorem jointL_eq (N : Nat) (hN : 130 ≤ N) {D : Da} (I : DI D) (s : Nat) (μ : Mm) (X : DX D μ) (C : CrewOk D μ) : f_Cr_jointOf N (nI (anN D.gB s)) μ = some (if 14400 < D.jn (D.goL s) D.w then -6 else nI (D.jn (D.goL s) D.w), μ) := by
  have hb := gB_lt I
  have al : anN D.gB s < 256 := anN_lt (n := 8) hb
  rw [Cr_jointOf_eq N hN I (by omega) (fun x hx q => by rw [goL_tb s hx] at q; exact goL_go q) μ X C, D.jn_ext D.w (T := D.goL s) (fun x hx => goL_tb s hx)]
theorem W_spent_loop (N : Nat) (hN : 130 ≤ N) {D : Da} (I : DI D) {many : Nat} (hm : many ≤ 16) (μ : Mm) (X : DX D μ) (C : CrewOk D μ) : ∀ (m s : Nat), s ≤ D.gB + 1 → D.gB + 1 < m + s → (∀ x, x < s → D.ls many x = true → D.ov x = false) → ∃ r : Bool, f_W_isSpentWithAny_L2 N m (nI D.gB) (nI many) (nI s) μ = some (b2 r, μ) ∧ (r = true ↔ ∃ x, x ≤ D.gB ∧ D.ls many x = true ∧ D.ov x = true) := by
  have hb := gB_lt I
  intro m
  induction m with
  | zero => intro s h1 h2; omega
  | succ m ih =>
    intro s h1 h2 h0
    rw [f_W_isSpentWithAny_L2]
    by_cases c : s = D.gB + 1
    · rw [if_pos (nI_lt (by omega) (by omega))]
      refine ⟨false, rfl, fun q => (by cases q), fun ⟨x, x1, x2, x3⟩ => ?_⟩
      rw [h0 x (by omega) x2] at x3
      cases x3
    · have sl : D.jn (D.goL s) D.w ≤ 14400 * 46248 := Da.jn_le I D.w (Nat.le_refl _) (fun x _ q => goL_go q)
      have sp1 := Da.jn_pos I D.w (S := D.goL s) (Nat.le_refl _) (fun x _ q => goL_go q)
      rw [if_neg (nI_nlt (by omega) (by omega)), W_isLoss_eq N I (by omega) hm, bnS, notN (by omega) (by omega), jointL_eq N hN I s μ X C]
      unfold f_W_isSpentWithAny_B34
      simp only [nI_1, nI_add]
      cases d : D.ls many s with
      | false =>
        rw [if_pos (by decide)]
        refine ih (s + 1) (by omega) (by omega) (fun x hx hl => ?_)
        by_cases e : x = s
        · subst e; rw [d] at hl; cases hl
        · exact h0 x (by omega) hl
      | true =>
        rw [if_neg (by decide), bnS]
        by_cases e : 14400 < D.jn (D.goL s) D.w
        · rw [if_pos e, if_neg (by decide)]
          exact ⟨true, rfl, fun _ => ⟨s, by omega, d, decide_eq_true e⟩, fun _ => rfl⟩
        · rw [if_neg e, if_pos (show (1 : Int32) ≤ nI (D.jn (D.goL s) D.w) from (nIc (a := 1) (by decide) (by omega)).mpr sp1)]
          refine ih (s + 1) (by omega) (by omega) (fun x hx hl => ?_)
          by_cases f : x = s
          · subst f; exact decide_eq_false e
          · exact h0 x (by omega) hl
/-- a set's blindness, as the class finds it -/
def Da.bl (D : Da) (s : Nat) : Bool := decide ((D.ws s).2 = -9)
theorem look_L (N : Nat) (hN : 61000 ≤ N) {D : Da} (I : DI D) {s : Nat} (hj : D.jn (D.goL s) D.w ≤ 14400) (μ : Mm) (X : DX D μ) (C : CrewOk D μ) : ∃ μ', f_Wa_look N (nI (anN D.gB s)) (nI D.wy) 1 μ = some μ' ∧ XFr μ μ' ∧ LA D (D.sq (D.goL s)) (D.jn (D.goL s) D.w) 1 D.wy (anN D.wy (D.ea (D.goL s) D.w)) μ' := by
  have hb := gB_lt I
  have al : anN D.gB s < 256 := anN_lt (n := 8) hb
  have w16 := wy_lt I
  have ej : D.jn (fun x => (anN D.gB s).testBit x) D.w = D.jn (D.goL s) D.w := D.jn_ext D.w (fun x hx => goL_tb s hx)
  have ee : D.ea (fun x => (anN D.gB s).testBit x) D.w = D.ea (D.goL s) D.w := D.ea_ext D.w (fun x hx => goL_tb s hx)
  have es : ∀ p, D.sq (fun x => (anN D.gB s).testBit x) p = D.sq (D.goL s) p := fun p => by
    funext t
    unfold Da.sq
    rw [D.sa_ext (t : Int) D.w (fun x hx => goL_tb s hx)]
  obtain ⟨μ', r1, r2, r3, r4, r5, r6⟩ := Wa_look_eq N hN I (B := anN D.gB s) (A := D.wy) (need := 1) (by omega) (fun x hx q => by rw [goL_tb s hx] at q; exact goL_go q) w16 (by decide) (by decide) (by rw [ej]; exact hj) μ X C
  rw [ej] at r6
  rw [ee] at r5 r6
  refine ⟨μ', r1, r2, r4, r5, w16, anN_lt (n := 16) w16, fun p hp => ?_, fun p hp ha => ?_⟩
  · rw [anN_tb, Bool.and_eq_true] at hp
    exact hp.1
  · have := r6 p hp ha
    rw [es] at this
    exact this
theorem LA_blind {D : Da} (I : DI D) {s : Nat} (hj : D.jn (D.goL s) D.w ≤ 14400) {V : Nat} {μ : Mm} (L : LA D (D.sq (D.goL s)) (D.jn (D.goL s) D.w) 1 D.wy V μ) : (V = 0 ↔ D.bl s = false) ∧ (V = 0 → 0 ≤ (D.ws s).2) := by
  have n16 := I.g.n16
  obtain ⟨l1, l2, l3, l4, l5, l6⟩ := L
  have a : V = 0 → 0 ≤ (D.ws s).2 := fun v0 => by
    subst v0
    have hl : ∀ p, p < D.n → 0 < D.wor p → 0 ≤ rL (D.sq (D.goL s) p) (D.jn (D.goL s) D.w) := fun p hp hw => ((l6 p (by omega) ((wy_tb p).mpr ⟨hp, hw⟩)).2.2.2.2 (Nat.zero_testBit p)).1
    rcases ws_cs (wor := D.wor) (lv := fun p => rL (D.sq (D.goL s) p) (D.jn (D.goL s) D.w)) hl D.n (Nat.le_refl _) with ⟨_, b⟩ | ⟨_, _, b⟩
    · unfold Da.ws
      rw [b]; decide
    · exact b
  refine ⟨⟨fun v0 => ?_, fun hb => ?_⟩, a⟩
  · have := a v0
    unfold Da.bl
    exact decide_eq_false (by omega)
  · rcases Nat.eq_zero_or_pos V with v | v
    · exact v
    · exfalso
      obtain ⟨k, k1, k2⟩ : ∃ k, V.testBit k = true ∧ ∀ t, t < k → V.testBit t = false := by
        obtain ⟨a, b, d⟩ := fsN_spec (fun q => V.testBit q) 16
        rcases Nat.lt_or_ge (fsN (fun q => V.testBit q) 16) 16 with e | e
        · exact ⟨_, b e, d⟩
        · exact absurd ((bs_zero (n := 16) l4).mpr (fun i hi => d i (by omega))) (by omega)
      have ka := (wy_tb k).mp (l5 k k1)
      have := (ws_never (wor := D.wor) (lv := fun p => rL (D.sq (D.goL s) p) (D.jn (D.goL s) D.w)) ka.1 ka.2 ((l6 k (by omega) (l5 k k1)).2.2.2.1.mp k1) (fun p hp hw => ((l6 p (by omega) ((wy_tb p).mpr ⟨by omega, hw⟩)).2.2.2.2 (k2 p hp)).1) D.n (Nat.le_refl _)).2 ka.1
      unfold Da.bl Da.ws at hb
      rw [this] at hb
      simp at hb
/-- the first blind set below one -/
def bF (ls bl : Nat → Bool) : Nat → Int
  | 0 => -9
  | s + 1 => if bF ls bl s = -9 ∧ ls s = true ∧ bl s = true then ((s : Nat) : Int) else bF ls bl s
theorem bF_s (ls bl : Nat → Bool) (s : Nat) : bF ls bl (s + 1) = if bF ls bl s = -9 ∧ ls s = true ∧ bl s = true then ((s : Nat) : Int) else bF ls bl s := rfl
theorem bF_keep {ls bl : Nat → Bool} {s : Nat} (h : bF ls bl s ≠ -9) : ∀ d, bF ls bl (s + d) = bF ls bl s
  | 0 => rfl
  | d + 1 => by
    rw [show s + (d + 1) = (s + d) + 1 from rfl, bF_s, bF_keep h d, if_neg (fun q => h q.1)]
theorem bF_no {ls bl : Nat → Bool} {s : Nat} : ∀ d, (∀ x, s ≤ x → x < s + d → ls x = false) → bF ls bl (s + d) = bF ls bl s
  | 0, _ => rfl
  | d + 1, h => by
    rw [show s + (d + 1) = (s + d) + 1 from rfl, bF_s, bF_no d (fun x h1 h2 => h x h1 (by omega)), if_neg (by rw [h (s + d) (by omega) (by omega)]; simp)]
theorem bF_ge {ls bl : Nat → Bool} : ∀ s, bF ls bl s = -9 ∨ (0 ≤ bF ls bl s ∧ bF ls bl s < s)
  | 0 => Or.inl rfl
  | s + 1 => by
    have := bF_ge (ls := ls) (bl := bl) s
    unfold bF
    split <;> omega
theorem W_blind_loop (N : Nat) (hN : 61000 ≤ N) {D : Da} (I : DI D) {many : Nat} (hm : many ≤ 16) (μ : Mm) (X : DX D μ) (C : CrewOk D μ) (hsp : ∀ x, x ≤ D.gB → D.ls many x = true → D.ov x = false) : ∀ (m s : Nat), s ≤ D.gB + 1 → D.gB + 1 < m + s → bF (D.ls many) D.bl s = -9 → f_W_firstBlindSet_L11 N m (nI D.gB) (nI many) (nI D.wy) (nI s) μ = some (zI (bF (D.ls many) D.bl (D.gB + 1)), μ) := by
  have hb := gB_lt I
  have w16 := wy_lt I
  intro m
  induction m with
  | zero => intro s h1 h2; omega
  | succ m ih =>
    intro s h1 h2 h0
    rw [f_W_firstBlindSet_L11]
    by_cases c : s = D.gB + 1
    · rw [if_pos (nI_lt (by omega) (by omega)), ← c, h0]; rfl
    · have al : anN D.gB s < 256 := anN_lt (n := 8) hb
      have eal := D.ea_lt I.g (D.goL s) D.w
      have ee : D.ea (fun x => (anN D.gB s).testBit x) D.w = D.ea (D.goL s) D.w := D.ea_ext D.w (fun x hx => goL_tb s hx)
      have vl : anN D.wy (D.ea (D.goL s) D.w) < 65536 := anN_lt (n := 16) w16
      have st : bF (D.ls many) D.bl (s + 1) = if bF (D.ls many) D.bl s = -9 ∧ D.ls many s = true ∧ D.bl s = true then ((s : Nat) : Int) else bF (D.ls many) D.bl s := rfl
      rw [if_neg (nI_nlt (by omega) (by omega)), W_isLoss_eq N I (by omega) hm, bnS, notN (by omega) (by omega), Cr_everSeen_eq N (by omega) I (by omega) (fun x hx q => by rw [goL_tb s hx] at q; exact goL_go q) μ X C, ee]
      unfold f_W_firstBlindSet_B50
      simp only [nI_1, nI_add, bnS, notN (show D.wy < 2 ^ 31 by omega) (show D.ea (D.goL s) D.w < 2 ^ 31 by omega)]
      cases d : D.ls many s with
      | false =>
        rw [if_pos (by decide)]
        rw [d, if_neg (by simp)] at st
        exact ih (s + 1) (by omega) (by omega) (by rw [st]; exact h0)
      | true =>
        rw [if_neg (by decide)]
        have hj : D.jn (D.goL s) D.w ≤ 14400 := by
          have := of_decide_eq_false (hsp s (by omega) d)
          omega
        obtain ⟨μ', _, _, L⟩ := look_L N hN I hj μ X C
        have lb := (LA_blind I hj L).1
        by_cases e : anN D.wy (D.ea (D.goL s) D.w) = 0
        · rw [if_pos (by rw [e]; rfl)]
          rw [lb.mp e, if_neg (by simp)] at st
          exact ih (s + 1) (by omega) (by omega) (by rw [st]; exact h0)
        · have eb : D.bl s = true := by
            cases q : D.bl s with
            | true => rfl
            | false => exact absurd (lb.mpr q) e
          rw [if_neg (nI_ne0 (by omega) (by omega))]
          rw [if_pos ⟨h0, d, eb⟩] at st
          have kp := bF_keep (ls := D.ls many) (bl := D.bl) (s := s + 1) (by rw [st]; omega) (D.gB + 1 - (s + 1))
          rw [show s + 1 + (D.gB + 1 - (s + 1)) = D.gB + 1 by omega, st] at kp
          rw [kp]; rfl
/-- the greatest load and its set -/
def gF (ls bl : Nat → Bool) (ld : Nat → Int) : Nat → Int × Int
  | 0 => (-9, 0)
  | s + 1 => if ls s = true ∧ bl s = false ∧ ((gF ls bl ld s).1 = -9 ∨ (gF ls bl ld s).2 < ld s) then (((s : Nat) : Int), ld s) else gF ls bl ld s
theorem gF_s (ls bl : Nat → Bool) (ld : Nat → Int) (s : Nat) : gF ls bl ld (s + 1) = if ls s = true ∧ bl s = false ∧ ((gF ls bl ld s).1 = -9 ∨ (gF ls bl ld s).2 < ld s) then (((s : Nat) : Int), ld s) else gF ls bl ld s := rfl
theorem gF_b {ls bl : Nat → Bool} {ld : Nat → Int} (hl : ∀ s, ls s = true → bl s = false → 0 ≤ ld s ∧ ld s ≤ 129600) : ∀ s, (gF ls bl ld s = (-9, 0) ∨ (0 ≤ (gF ls bl ld s).1 ∧ (gF ls bl ld s).1 < s)) ∧ 0 ≤ (gF ls bl ld s).2 ∧ (gF ls bl ld s).2 ≤ 129600
  | 0 => ⟨Or.inl rfl, by unfold gF; decide, by unfold gF; decide⟩
  | s + 1 => by
    obtain ⟨i1, i2, i3⟩ := gF_b hl s
    unfold gF
    split
    · rename_i c
      have := hl s c.1 c.2.1
      exact ⟨Or.inr ⟨by simp only []; omega, by simp only []; omega⟩, this⟩
    · refine ⟨?_, i2, i3⟩
      rcases i1 with i1 | i1
      · exact Or.inl i1
      · right; omega
theorem gF_no {ls bl : Nat → Bool} {ld : Nat → Int} {s : Nat} : ∀ d, (∀ x, s ≤ x → x < s + d → ls x = false) → gF ls bl ld (s + d) = gF ls bl ld s
  | 0, _ => rfl
  | d + 1, h => by
    rw [show s + (d + 1) = (s + d) + 1 from rfl, gF_s, gF_no d (fun x h1 h2 => h x h1 (by omega)), if_neg (by rw [h (s + d) (by omega) (by omega)]; simp)]
theorem gF_hit {ls bl : Nat → Bool} {ld : Nat → Int} {x : Nat} (h1 : ls x = true) (h2 : bl x = false) : ∀ s, x < s → gF ls bl ld s ≠ (-9, 0) ∧ 0 ≤ (gF ls bl ld s).1
  | 0, h => by omega
  | s + 1, h => by
    unfold gF
    split
    · exact ⟨fun q => by
        have := congrArg Prod.fst q
        simp only [] at this
        omega, by simp only []; omega⟩
    · rename_i c
      by_cases e : x = s
      · subst e
        refine ⟨fun q => c ⟨h1, h2, Or.inl (by rw [q])⟩, ?_⟩
        rcases Int.lt_or_le (gF ls bl ld x).1 0 with y | y
        · exfalso
          -- below 0 only -9
          have z : ∀ s, (gF ls bl ld s).1 = -9 ∨ 0 ≤ (gF ls bl ld s).1 := fun s => by
            induction s with
            | zero => left; rfl
            | succ s ih =>
              unfold gF
              split
              · right; simp only []; omega
              · exact ih
          rcases z x with z | z
          · exact c ⟨h1, h2, Or.inl z⟩
          · omega
        · exact y
      · exact gF_hit h1 h2 s (by omega)
/-- what was asked for, as the class has it so far -/
theorem W_great_loop (N : Nat) (hN : 61000 ≤ N) {D : Da} (I : DI D) {many : Nat} (hm : many ≤ 16) (μ0 : Mm) (X : DX D μ0) (C : CrewOk D μ0) (hsp : ∀ x, x ≤ D.gB → D.ls many x = true → D.ov x = false) (hbl : ∀ x, x ≤ D.gB → D.ls many x = true → D.bl x = false) : ∀ (m s : Nat) (v : Int32) (μ : Mm), s ≤ D.gB + 1 → D.gB + 1 < m + s → XFr (sI μ0 1 2 v) μ → (0 ≤ (gF (D.ls many) D.bl (fun x => (D.ws x).2) s).1 → v = zI (gF (D.ls many) D.bl (fun x => (D.ws x).2) s).1) → ∃ μ' v', f_W_tellGreatestLoad_L14 N m (nI D.gB) (nI many) (nI D.wy) (zI (if (gF (D.ls many) D.bl (fun x => (D.ws x).2) s).1 = -9 then -1 else (gF (D.ls many) D.bl (fun x => (D.ws x).2) s).2)) (nI s) μ = some (zI (if (gF (D.ls many) D.bl (fun x => (D.ws x).2) (D.gB + 1)).1 = -9 then -1 else (gF (D.ls many) D.bl (fun x => (D.ws x).2) (D.gB + 1)).2), μ') ∧ XFr (sI μ0 1 2 v') μ' ∧ (0 ≤ (gF (D.ls many) D.bl (fun x => (D.ws x).2) (D.gB + 1)).1 → v' = zI (gF (D.ls many) D.bl (fun x => (D.ws x).2) (D.gB + 1)).1) := by
  have hb := gB_lt I
  have w16 := wy_lt I
  have n16 := I.g.n16
  have w8 := I.w8
  intro m
  induction m with
  | zero => intro s v μ h1 h2; omega
  | succ m ih =>
    intro s v μ h1 h2 hx hv
    have wb : ∀ x, D.ls many x = true → x ≤ D.gB → 0 ≤ (D.ws x).2 ∧ (D.ws x).2 ≤ 129600 := fun x hl hle => by
      have hj : D.jn (D.goL x) D.w ≤ 14400 := by
        have := of_decide_eq_false (hsp x hle hl)
        omega
      have j1 := Da.jn_pos I D.w (S := D.goL x) (Nat.le_refl _) (fun y _ q => goL_go q)
      obtain ⟨μ', _, _, L⟩ := look_L N hN I hj μ0 X C
      have lb := LA_blind I hj L
      refine ⟨lb.2 (lb.1.mpr (hbl x hle hl)), ?_⟩
      unfold Da.ws
      rcases wsF_b (wor := D.wor) (lv := fun p => rL (D.sq (D.goL x) p) (D.jn (D.goL x) D.w)) n16 (fun p hp => I.wor p hp) (fun p _ => ⟨(rL_b _ j1 hj).1, (rL_b _ j1 hj).2.1⟩) D.n (Nat.le_refl _) with q | q
      · omega
      · rw [q]; decide
    have gb := gF_b (ls := D.ls many) (bl := D.bl) (ld := fun x => (D.ws x).2) (fun x hl hbx => wb x hl (by
      unfold Da.ls at hl
      rw [Bool.and_eq_true] at hl
      have a0 := of_decide_eq_true hl.1
      exact sub_le (n := x) Nat.lt_two_pow_self a0)) s
    have st : gF (D.ls many) D.bl (fun x => (D.ws x).2) (s + 1) = if D.ls many s = true ∧ D.bl s = false ∧ ((gF (D.ls many) D.bl (fun x => (D.ws x).2) s).1 = -9 ∨ (gF (D.ls many) D.bl (fun x => (D.ws x).2) s).2 < (D.ws s).2) then (((s : Nat) : Int), (D.ws s).2) else gF (D.ls many) D.bl (fun x => (D.ws x).2) s := rfl
    rw [f_W_tellGreatestLoad_L14]
    by_cases c : s = D.gB + 1
    · rw [if_pos (nI_lt (by omega) (by omega)), c]
      rw [c] at hv
      exact ⟨μ, v, rfl, hx, hv⟩
    · rw [if_neg (nI_nlt (by omega) (by omega)), W_isLoss_eq N I (by omega) hm, bnS]
      have xa : XFr (sI μ0 1 2 v) (sI μ0 1 2 v) := XFr.refl _
      have X0 : DX D (sI μ0 1 2 v) := DX_cells w8 (fun c hc => sI_ne _ _ _ (by omega)) X
      have C0 : CrewOk D (sI μ0 1 2 v) := CrewOk_congr w8 (fun c h1 h2 => sI_ne _ _ _ (by omega)) (by rw [sI_ne _ _ _ (by decide)]) C
      have Xμ := hx.dx w8 X0
      have Cμ := hx.crew w8 C0
      unfold f_W_tellGreatestLoad_B75 f_W_tellGreatestLoad_B97
      simp only [nI_1, nI_add]
      cases d : D.ls many s with
      | false =>
        rw [if_pos (by decide)]
        rw [d, if_neg (by simp)] at st
        have := ih (s + 1) v μ (by omega) (by omega) hx (by rw [st]; exact hv)
        rw [st] at this
        exact this
      | true =>
        have hj : D.jn (D.goL s) D.w ≤ 14400 := by
          have := of_decide_eq_false (hsp s (by omega) d)
          omega
        have j1 := Da.jn_pos I D.w (S := D.goL s) (Nat.le_refl _) (fun y _ q => goL_go q)
        obtain ⟨μ1, r1, r2, L⟩ := look_L N hN I hj μ Xμ Cμ
        have X1 := r2.dx w8 Xμ
        obtain ⟨v1, v2⟩ := Wa_worst_eq N (by omega) I j1 hj μ1 X1 L
        have wv := ws_val D.wor (fun p => rL (D.sq (D.goL s) p) (D.jn (D.goL s) D.w)) D.n
        have wbs := wb s d (by omega)
        rw [if_neg (by decide), notN (by omega) (by omega), r1, bvS, v1, bnS]
        -- the load of this set
        have key : ∀ A : Int32 → Mm → Option (Int32 × Mm), (if (0 : Int32) ≤ zI (wsF D.wor (fun p => rL (D.sq (D.goL s) p) (D.jn (D.goL s) D.w)) D.n).1 then bn (f_Wa_loadOf N (zI (wsF D.wor (fun p => rL (D.sq (D.goL s) p) (D.jn (D.goL s) D.w)) D.n).1) μ1) (fun r12 μ11 => A r12 μ11) else A 0 μ1) = A (zI (D.ws s).2) μ1 := fun A => by
          rcases wv with wv | ⟨p, p1, p2, p3⟩
          · rw [if_neg (by rw [wv]; decide)]
            unfold Da.ws
            rw [wv]; rfl
          · have z : 0 ≤ (wsF D.wor (fun p => rL (D.sq (D.goL s) p) (D.jn (D.goL s) D.w)) D.n).1 := by rw [p3]; show (0 : Int) ≤ (p : Int); omega
            rw [if_pos (by
              rw [p3]
              show (0 : Int32) ≤ nI p
              rw [le_I, tI (by omega), show (0 : Int32).toInt = 0 from rfl]; omega), v2 z, bnS]
            rfl
        rw [key (fun r12 μ11 => if r12 ≤ zI (if (gF (D.ls many) D.bl (fun x => (D.ws x).2) s).1 = -9 then -1 else (gF (D.ls many) D.bl (fun x => (D.ws x).2) s).2) then f_W_tellGreatestLoad_L14 N m (nI D.gB) (nI many) (nI D.wy) (zI (if (gF (D.ls many) D.bl (fun x => (D.ws x).2) s).1 = -9 then -1 else (gF (D.ls many) D.bl (fun x => (D.ws x).2) s).2)) (nI (s + 1)) μ11 else f_W_tellGreatestLoad_L14 N m (nI D.gB) (nI many) (nI D.wy) r12 (nI (s + 1)) (sI μ11 1 2 (nI s)))]
        have bs := hbl s (by omega) d
        have le : (zI (D.ws s).2 ≤ zI (if (gF (D.ls many) D.bl (fun x => (D.ws x).2) s).1 = -9 then -1 else (gF (D.ls many) D.bl (fun x => (D.ws x).2) s).2)) ↔ ¬ ((gF (D.ls many) D.bl (fun x => (D.ws x).2) s).1 = -9 ∨ (gF (D.ls many) D.bl (fun x => (D.ws x).2) s).2 < (D.ws s).2) := by
          rw [le_I, zI_toInt (by omega) (by omega), zI_toInt (by split <;> omega) (by split <;> omega)]
          split <;> omega
        by_cases f : (gF (D.ls many) D.bl (fun x => (D.ws x).2) s).1 = -9 ∨ (gF (D.ls many) D.bl (fun x => (D.ws x).2) s).2 < (D.ws s).2
        · rw [if_pos ⟨d, bs, f⟩] at st
          rw [if_neg (fun q => (le.mp q) f)]
          have x2 : XFr (sI μ0 1 2 (nI s)) (sI μ1 1 2 (nI s)) := by
            refine ⟨fun c hc => ?_, ?_⟩
            · by_cases e : c = 1
              · subst e
                rw [sI_at, sI_at, r2.1 1 (by omega), hx.1 1 (by omega), sI_at]
                funext y
                rw [upd_at, upd_at, upd_at]
                split <;> rfl
              · rw [sI_ne _ _ _ e, sI_ne _ _ _ e, r2.1 c (by omega), hx.1 c (by omega), sI_ne _ _ _ e]
            · show μ1.2 1 = μ0.2 1
              rw [r2.2, hx.2]
              rfl
          have := ih (s + 1) (nI s) (sI μ1 1 2 (nI s)) (by omega) (by omega) x2 (by rw [st]; exact fun _ => rfl)
          rw [st, if_neg (show ¬ (((s : Nat) : Int), (D.ws s).2).1 = -9 from fun q => by simp only [] at q; omega)] at this
          exact this
        · rw [if_neg (fun q => f q.2.2)] at st
          rw [if_pos (le.mpr f)]
          have := ih (s + 1) v μ1 (by omega) (by omega) (hx.trans r2) (by rw [st]; exact hv)
          rw [st] at this
          exact this
