/-! PURE 67: the reference's search for a meeting -/
theorem cmp_lt64 (x y : Int64) : lg_cmp x y < (0 : Int32) ↔ x.toInt < y.toInt := (lg_cmp_lt x y).trans Int64.lt_iff_toInt_lt
theorem cmp_ge64 (x y : Int64) : (0 : Int32) ≤ lg_cmp x y ↔ y.toInt ≤ x.toInt := (lg_cmp_ge x y).trans Int64.le_iff_toInt_le
theorem zz_b {D : Da} (I : DI D) {j : Nat} (hj : j < D.w) (g : D.go j = true) {t : Nat} (h : D.mv j t = true) : 0 ≤ D.zz j t ∧ D.zz j t ≤ 1800 := by
  have n16 := I.g.n16
  obtain ⟨hk, a, ne, wan, wbn, bd, pe⟩ := mv_ok I hj g h
  have la : D.ln j (D.hl j t) = D.wn (D.wa j t) (D.wb j t) := rfl
  have w30 : D.wn (D.wa j t) (D.wb j t) ≤ 30 := by
    have := I.g.lb (D.wa j t) (D.wb j t) (by omega) (by omega)
    unfold Da.wn; omega
  have gs : D.gn' j t * D.sp j ≤ (D.gn' j t + 1) * D.sp j := Nat.mul_le_mul_right _ (by omega)
  unfold Da.zz
  rw [← Int.natCast_mul]
  generalize D.gn' j t * D.sp j = q at *
  split <;> omega
theorem zL_neg (z : Int) : -zL z = zL (-z) := (Int64.ofInt_neg z).symm
theorem lN_z (n : Nat) : lN n = zL n := rfl
/-- a meeting that the reference sees -/
def Da.Em (D : Da) (a b x : Nat) : Prop := D.pz a (x : Int) = D.pz b (x : Int) ∧ (x % 27720 = 0 ∨ ¬ D.oq a b (x / 27720))
theorem cr_oq {D : Da} {a b t : Nat} (h : D.cr a b t) : ¬ D.oq a b t := by
  obtain ⟨h1, h2, h3, h4⟩ := h
  rintro (⟨q1, _⟩ | ⟨_, _, _, q1, q2⟩)
  · rw [h1] at q1; cases q1
  · omega
theorem Em_at {D : Da} (I : DI D) {a b : Nat} (ha : a < D.w) (hb : b < D.w) (ga : D.go a = true) (gb : D.go b = true) {t f : Nat} (hf : f < 27720) : D.Em a b (t * 27720 + f) ↔ (f = 0 ∧ D.pz a ((t : Int) * 27720) = D.pz b ((t : Int) * 27720)) ∨ (0 < f ∧ D.cr a b t ∧ f = D.fs a b t) := by
  have e1 : (t * 27720 + f) % 27720 = f := by omega
  have e2 : (t * 27720 + f) / 27720 = t := by omega
  have e3 : ((t * 27720 + f : Nat) : Int) = (t : Int) * 27720 + f := by omega
  unfold Da.Em
  rw [e1, e2, e3]
  by_cases c : f = 0
  · subst c
    rw [show (t : Int) * 27720 + ((0 : Nat) : Int) = (t : Int) * 27720 by omega]
    constructor
    · exact fun h => Or.inl ⟨rfl, h.1⟩
    · rintro (h | h)
      · exact ⟨h.2, Or.inl rfl⟩
      · omega
  · have f0 : 0 < f := by omega
    rw [inside I ha hb ga gb f0 hf]
    constructor
    · rintro ⟨h1 | h1, h2⟩
      · exact Or.inr ⟨f0, h1⟩
      · rcases h2 with h2 | h2
        · exact absurd h2 c
        · exact absurd h1 h2
    · rintro (h | h)
      · exact absurd h.1 c
      · exact ⟨Or.inl h.2, Or.inr (cr_oq h.2.1)⟩
theorem kw_eq {D : Da} (I : DI D) {a b : Nat} (ha : a < D.w) (hb : b < D.w) (ga : D.go a = true) (gb : D.go b = true) {t : Nat} : (D.kw a t ≠ -9 ∧ D.kw a t = D.kw b t) ↔ (D.mv a t = true ∧ D.mv b t = true ∧ D.sw a b t) := by
  have n16 := I.g.n16
  unfold Da.kw Da.sw
  cases ma : D.mv a t
  · rw [if_neg (by decide)]
    constructor
    · exact fun h => absurd rfl h.1
    · intro h; cases h.1
  · obtain ⟨_, _, _, a1, a2, _, _⟩ := mv_ok I ha ga ma
    rw [if_pos rfl]
    have na : nI (16 * min (D.wa a t) (D.wb a t) + max (D.wa a t) (D.wb a t)) ≠ -9 := by
      intro q
      have := congrArg Int32.toInt q
      rw [tI (by omega), show (-9 : Int32).toInt = -9 from rfl] at this
      omega
    cases mb : D.mv b t
    · rw [if_neg (by decide)]
      constructor
      · exact fun h => absurd h.2 na
      · intro h; cases h.2.1
    · obtain ⟨_, _, _, b1, b2, _, _⟩ := mv_ok I hb gb mb
      rw [if_pos rfl, nI_eq (by omega) (by omega)]
      constructor
      · exact fun h => ⟨rfl, rfl, by omega, by omega⟩
      · exact fun h => ⟨na, by omega⟩
theorem meet_152 (N : Nat) (k : Int32 → Int32 → Int64 → Int64 → Int32 → Int32 → Mm → Option (Int64 × Mm)) (v1 v2 : Int32) (F : Nat) (v5 : Int64) (v7 : Int32) {t : Nat} {n m : Int} (ht : t < 2 ^ 29) (hF : F < 2 ^ 45) (hn : n.natAbs ≤ 4000) (hm : m.natAbs ≤ 4000) (hp : 1 ≤ n.natAbs + m.natAbs) (hl : 27720 / (n.natAbs + m.natAbs) * n.natAbs ≤ 27720) (μ : Mm) : f_M_meetFrom_B152 N k v1 v2 (lN F) v5 v7 (nI t) (zL n) (zL m) μ = if F ≤ t * 27720 + 27720 / (n.natAbs + m.natAbs) * n.natAbs then some (lN (t * 27720 + 27720 / (n.natAbs + m.natAbs) * n.natAbs), μ) else k v1 v2 (lN F) v5 v7 (nI (t + 1)) μ := by
  have ab : ∀ z : Int, z.natAbs ≤ 4000 → ∀ (A : Int64 → Option (Int64 × Mm)), (if (0 : Int32) ≤ lg_cmp (zL z) 0 then A (zL z) else A (-zL z)) = A (lN z.natAbs) := by
    intro z hz A
    by_cases c : 0 ≤ z
    · rw [if_pos ((cmp_ge64 _ _).mpr (by rw [zL_toInt (by omega) (by omega)]; exact c)), lN_z, show ((z.natAbs : Nat) : Int) = z by omega]
    · rw [if_neg (fun q => c (by have := (cmp_ge64 _ _).mp q; rw [zL_toInt (by omega) (by omega)] at this; exact this)), lN_z, show ((z.natAbs : Nat) : Int) = -z by omega, zL_neg]
  unfold f_M_meetFrom_B152 f_M_meetFrom_B167
  rw [ab n hn (fun s0 => if (0 : Int32) ≤ lg_cmp (zL m) 0 then f_M_meetFrom_B184 N k v1 v2 (lN F) v5 v7 (nI t) s0 (zL m) μ else f_M_meetFrom_B184 N k v1 v2 (lN F) v5 v7 (nI t) s0 (-zL m) μ)]
  rw [ab m hm (fun s0 => f_M_meetFrom_B184 N k v1 v2 (lN F) v5 v7 (nI t) (lN n.natAbs) s0 μ)]
  unfold f_M_meetFrom_B184 f_M_meetFrom_B218
  simp only [lN_add]
  rw [if_neg (show ¬ lN (n.natAbs + m.natAbs) = (0 : Int64) from fun q => absurd ((pk_lEQ (b := 0) (by omega) (by decide)).mp q) (by omega)), i2lN (by omega), show (27720 : Int64) = lN 27720 from rfl, pk_lDiv (by decide) (by omega) (by omega), lN_mul, lN_mul, lN_add, ← nI_succ]
  generalize 27720 / (n.natAbs + m.natAbs) * n.natAbs = q at *
  have tq : t * 27720 + q < 2 ^ 63 := by omega
  by_cases c : F ≤ t * 27720 + q
  · rw [if_pos c, if_neg (fun z => by have := (cmp_lt64 _ _).mp z; rw [pk_lT tq, pk_lT (by omega)] at this; omega)]
  · rw [if_neg c, if_pos ((cmp_lt64 _ _).mpr (by rw [pk_lT tq, pk_lT (by omega)]; omega))]
theorem meet_64 (N : Nat) (hN : 30 ≤ N) {D : Da} (I : DI D) {a b : Nat} (ha : a < D.w) (hb : b < D.w) (ga : D.go a = true) (gb : D.go b = true) {t F : Nat} (ht : t < 2 ^ 29) (hF : F < 2 ^ 45) (v5 : Int64) (v7 : Int32) (k : Int32 → Int32 → Int64 → Int64 → Int32 → Int32 → Mm → Option (Int64 × Mm)) (μ : Mm) (M : DM D μ) : ∃ μ', KFr μ μ' ∧ ((D.cr a b t ∧ F ≤ t * 27720 + D.fs a b t) → f_M_meetFrom_B64 N k (nI a) (nI b) (lN F) v5 v7 (nI t) μ = some (lN (t * 27720 + D.fs a b t), μ')) ∧ (¬ (D.cr a b t ∧ F ≤ t * 27720 + D.fs a b t) → f_M_meetFrom_B64 N k (nI a) (nI b) (lN F) v5 v7 (nI t) μ = k (nI a) (nI b) (lN F) v5 v7 (nI (t + 1)) μ') := by
  obtain ⟨μ1, r1, r2, r3, r4, r5, r6⟩ := M_walk_eq N hN I ha ga (s := 0) ht (by decide) μ M
  have M1 := r2.mfr.dm M
  obtain ⟨μ2, s1, s2, s3, s4, s5, s6⟩ := M_walk_eq N hN I hb gb (s := 1) ht (by decide) μ1 M1
  refine ⟨μ2, r2.trans s2, ?_⟩
  have q38 : μ2.1 0 38 = D.kw a t := (s6 38 (by decide) (by decide) (by decide) (by decide)).trans r3
  have q40 : μ2.1 0 40 = D.kp a t := (s6 40 (by decide) (by decide) (by decide) (by decide)).trans r4
  have q42 : μ2.1 0 42 = D.kl a t := (s6 42 (by decide) (by decide) (by decide) (by decide)).trans r5
  have q39 : μ2.1 0 39 = D.kw b t := s3
  have q41 : μ2.1 0 41 = D.kp b t := s4
  have q43 : μ2.1 0 43 = D.kl b t := s5
  unfold f_M_meetFrom_B64
  rw [show (0 : Int32) = nI 0 from rfl, r1, bvS, show (1 : Int32) = nI 1 from rfl, s1, bvS]
  simp only [q38, q39, q40, q41, q42, q43, f_M_meetFrom_B218]
  rw [show nI t + 1 = nI (t + 1) from (nI_succ t).symm]
  have key := kw_eq I ha hb ga gb (t := t)
  by_cases c : D.kw a t ≠ -9 ∧ D.kw a t = D.kw b t
  · obtain ⟨ma, mb, sw⟩ := key.mp c
    rw [if_neg c.1, if_pos c.2]
    have za := zz_b I ha ga ma
    have zb := zz_b I hb gb mb
    have va := vv_b I ha t
    have vb := vv_b I hb t
    have e1 : (D.kp a t - D.kp b t).toInt64 = zL (D.nw a b t) := by
      unfold Da.kp Da.nw
      rw [if_pos ma, if_pos mb, zI_sub, i2l, zI_toInt (by omega) (by omega)]
    have e2 : (D.kl a t - D.kl b t).toInt64 = zL (D.tn a b t) := by
      unfold Da.kl Da.tn
      rw [if_pos ma, if_pos mb, zI_sub, i2l, zI_toInt (by omega) (by omega)]
    rw [e1, e2]
    have bn : (D.nw a b t).natAbs ≤ 4000 := by unfold Da.nw; omega
    have bt : (D.tn a b t).natAbs ≤ 4000 := by unfold Da.tn; omega
    have tn := zL_toInt (z := D.nw a b t) (by omega) (by omega)
    have tt := zL_toInt (z := D.tn a b t) (by omega) (by omega)
    have z0 : (0 : Int64).toInt = 0 := rfl
    unfold f_M_meetFrom_B138 f_M_meetFrom_B218
    simp only [show (nI 0 : Int32) = 0 from rfl, show (nI 1 : Int32) = 1 from rfl, cmp_ge64, cmp_gt, cmp_le, tn, tt, z0]
    rw [show nI t + 1 = nI (t + 1) from (nI_succ t).symm]
    by_cases x : (D.nw a b t < 0 ∧ 0 < D.tn a b t) ∨ (0 < D.nw a b t ∧ D.tn a b t < 0)
    · have cr : D.cr a b t := ⟨ma, mb, sw, x⟩
      obtain ⟨f1, f2, f3, f4, f5⟩ := cr_at I ha hb cr
      have fe : D.fs a b t = 27720 / ((D.nw a b t).natAbs + (D.tn a b t).natAbs) * (D.nw a b t).natAbs := rfl
      have B := meet_152 N k (nI a) (nI b) F v5 v7 (t := t) (n := D.nw a b t) (m := D.tn a b t) ht hF bn bt f4 (by omega) μ2
      rw [← fe] at B
      have go : (if 0 ≤ D.nw a b t then if D.nw a b t ≤ 0 then k (nI a) (nI b) (lN F) v5 v7 (nI (t + 1)) μ2 else if 0 ≤ D.tn a b t then k (nI a) (nI b) (lN F) v5 v7 (nI (t + 1)) μ2 else f_M_meetFrom_B152 N k (nI a) (nI b) (lN F) v5 v7 (nI t) (zL (D.nw a b t)) (zL (D.tn a b t)) μ2 else if 0 < D.tn a b t then f_M_meetFrom_B152 N k (nI a) (nI b) (lN F) v5 v7 (nI t) (zL (D.nw a b t)) (zL (D.tn a b t)) μ2 else if D.nw a b t ≤ 0 then k (nI a) (nI b) (lN F) v5 v7 (nI (t + 1)) μ2 else if 0 ≤ D.tn a b t then k (nI a) (nI b) (lN F) v5 v7 (nI (t + 1)) μ2 else f_M_meetFrom_B152 N k (nI a) (nI b) (lN F) v5 v7 (nI t) (zL (D.nw a b t)) (zL (D.tn a b t)) μ2) = f_M_meetFrom_B152 N k (nI a) (nI b) (lN F) v5 v7 (nI t) (zL (D.nw a b t)) (zL (D.tn a b t)) μ2 := by
        rcases x with ⟨x1, x2⟩ | ⟨x1, x2⟩
        · rw [if_neg (by omega), if_pos x2]
        · rw [if_pos (by omega), if_neg (by omega), if_neg (by omega)]
      rw [go, B]
      exact ⟨fun h => by rw [if_pos h.2], fun h => by rw [if_neg (fun q => h ⟨cr, q⟩)]⟩
    · refine ⟨fun h => absurd h.1.2.2.2 x, fun _ => ?_⟩
      by_cases y1 : 0 ≤ D.nw a b t
      · rw [if_pos y1]
        by_cases y2 : D.nw a b t ≤ 0
        · rw [if_pos y2]
        · rw [if_neg y2, if_pos (by omega)]
      · rw [if_neg y1, if_neg (by omega), if_pos (by omega)]
  · refine ⟨fun h => absurd (key.mpr ⟨h.1.1, h.1.2.1, h.1.2.2.1⟩) c, fun _ => ?_⟩
    by_cases y : D.kw a t = -9
    · rw [if_pos y]
    · rw [if_neg y, if_neg (fun q => c ⟨y, q⟩)]
