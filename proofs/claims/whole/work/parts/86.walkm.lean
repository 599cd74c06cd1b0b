/-! PURE 66: the reference's walls under way -/
def Da.kw (D : Da) (j t : Nat) : Int32 := if D.mv j t = true then nI (16 * min (D.wa j t) (D.wb j t) + max (D.wa j t) (D.wb j t)) else -9
def Da.kp (D : Da) (j t : Nat) : Int32 := if D.mv j t = true then zI (D.zz j t) else 0
def Da.kl (D : Da) (j t : Nat) : Int32 := if D.mv j t = true then zI (D.zz j t + D.vv j t) else 0
theorem walk_out (N : Nat) {s : Nat} (hs : s ≤ 1) (x y z : Int32) (μ : Mm) : ∃ μ', f_M_walk_B219 N (nI s) x y z μ = some μ' ∧ KFr μ μ' ∧ μ'.1 0 (38 + s) = x ∧ μ'.1 0 (40 + s) = y ∧ μ'.1 0 (42 + s) = z ∧ (∀ f, f ≠ 38 + s → f ≠ 40 + s → f ≠ 42 + s → μ'.1 0 f = μ.1 0 f) := by
  unfold f_M_walk_B219
  by_cases c : s = 0
  · subst c
    rw [if_pos (show nI 0 = 0 from rfl)]
    refine ⟨_, rfl, ((KFr.fld (by decide) (by decide) _ _).trans (KFr.fld (by decide) (by decide) _ _)).trans (KFr.fld (by decide) (by decide) _ _), ?_, ?_, ?_, ?_⟩
    · rw [sI_at, upd_ne _ _ (by decide), sI_at, upd_ne _ _ (by decide), sI_at, upd_eq]
    · rw [sI_at, upd_ne _ _ (by decide), sI_at, upd_eq]
    · rw [sI_at, upd_eq]
    · intro f a b c
      rw [sI_at, upd_ne _ _ (by omega), sI_at, upd_ne _ _ (by omega), sI_at, upd_ne _ _ (by omega)]
  · obtain rfl : s = 1 := by omega
    rw [if_neg (show ¬ nI 1 = 0 by decide)]
    refine ⟨_, rfl, ((KFr.fld (by decide) (by decide) _ _).trans (KFr.fld (by decide) (by decide) _ _)).trans (KFr.fld (by decide) (by decide) _ _), ?_, ?_, ?_, ?_⟩
    · rw [sI_at, upd_ne _ _ (by decide), sI_at, upd_ne _ _ (by decide), sI_at, upd_eq]
    · rw [sI_at, upd_ne _ _ (by decide), sI_at, upd_eq]
    · rw [sI_at, upd_eq]
    · intro f a b c
      rw [sI_at, upd_ne _ _ (by omega), sI_at, upd_ne _ _ (by omega), sI_at, upd_ne _ _ (by omega)]
theorem walk_79 (N : Nat) {D : Da} (I : DI D) {j : Nat} (hj : j < D.w) (g : D.go j = true) {t : Nat} (h : D.mv j t = true) (v3 : Int32) (μ : Mm) (M : DM D μ) : f_M_walk_B79 N (nI j) v3 (nI (D.wa j t)) (nI (D.wb j t)) (nI (D.gn' j t)) μ = f_M_walk_B219 N v3 (D.kw j t) (D.kp j t) (D.kl j t) μ := by
  have n16 := I.g.n16
  have w8 := I.w8
  obtain ⟨hk, a, ne, wan, wbn, bd, pe⟩ := mv_ok I hj g h
  have s6 := I.sp j hj
  have la : D.ln j (D.hl j t) = D.wn (D.wa j t) (D.wb j t) := rfl
  have w30 : D.wn (D.wa j t) (D.wb j t) ≤ 30 := by
    have := I.g.lb (D.wa j t) (D.wb j t) (by omega) (by omega)
    unfold Da.wn; omega
  have gs : D.gn' j t * D.sp j ≤ (D.gn' j t + 1) * D.sp j := Nat.mul_le_mul_right _ (by omega)
  unfold Da.kw Da.kp Da.kl
  rw [if_pos h, if_pos h, if_pos h]
  unfold f_M_walk_B79 f_M_walk_B110 f_M_walk_B126 f_M_walk_B187 f_M_walk_B217
  rw [if_neg (fun q => ne ((nI_eq (by omega) (by omega)).mp q).symm)]
  have e16 : (16 : Int32) = nI 16 := rfl
  have e60 : (60 : Int32) = nI 60 := rfl
  by_cases c : D.wa j t < D.wb j t
  · have nc : ¬ nI (D.wb j t) ≤ nI (D.wa j t) := fun q => absurd ((nIc (by omega) (by omega)).mp q) (by omega)
    have w5 : μ.1 5 (16 * D.wa j t + D.wb j t) = nI (D.wn (D.wa j t) (D.wb j t)) := M.len _ _ (by omega) (by omega)
    simp only [if_neg nc, e16, e60, pk_mul, nI_add, if_pos (ixb_t (show 16 * D.wa j t + D.wb j t < 256 by omega) (show 256 < 2 ^ 31 by decide)), nI_clamp (show 16 * D.wa j t + D.wb j t < 2 ^ 31 by omega), w5, if_pos (ixb_t (show j < 8 by omega) (show 8 < 2 ^ 31 by decide)), nI_clamp (show j < 2 ^ 31 by omega), M.sp j hj]
    have m1 : min (D.wa j t) (D.wb j t) = D.wa j t := by omega
    have m2 : max (D.wa j t) (D.wb j t) = D.wb j t := by omega
    rw [m1, m2]
    unfold Da.zz Da.vv
    rw [if_pos c, if_pos c, zI_n, zI_n, ← Int.natCast_mul, ← Int.natCast_add]
    rfl
  · have nc : nI (D.wb j t) ≤ nI (D.wa j t) := (nIc (by omega) (by omega)).mpr (by omega)
    have w5 : μ.1 5 (16 * D.wb j t + D.wa j t) = nI (D.wn (D.wa j t) (D.wb j t)) := by rw [wn_sym I (by omega) (by omega)]; exact M.len _ _ (by omega) (by omega)
    simp only [if_pos nc, e16, e60, pk_mul, nI_add, if_pos (ixb_t (show 16 * D.wb j t + D.wa j t < 256 by omega) (show 256 < 2 ^ 31 by decide)), nI_clamp (show 16 * D.wb j t + D.wa j t < 2 ^ 31 by omega), w5, if_pos (ixb_t (show j < 8 by omega) (show 8 < 2 ^ 31 by decide)), nI_clamp (show j < 2 ^ 31 by omega), M.sp j hj]
    have m1 : min (D.wa j t) (D.wb j t) = D.wb j t := by omega
    have m2 : max (D.wa j t) (D.wb j t) = D.wa j t := by omega
    rw [m1, m2]
    unfold Da.zz Da.vv
    rw [if_neg c, if_neg c, la]
    simp only [zI_n, zI_sub]
    have q1 : ((60 * D.wn (D.wa j t) (D.wb j t) : Nat) : Int) = 60 * (D.wn (D.wa j t) (D.wb j t) : Int) := by omega
    rw [q1, Int.natCast_mul]
    rfl
theorem walk_0 (N : Nat) (v1 v3 v4 v6 : Int32) (μ : Mm) : f_M_walk_B79 N v1 v3 v4 v4 v6 μ = f_M_walk_B219 N v3 (-9) 0 0 μ := by
  unfold f_M_walk_B79
  rw [if_pos rfl]
theorem M_walk_eq (N : Nat) (hN : 30 ≤ N) {D : Da} (I : DI D) {j : Nat} (hj : j < D.w) (g : D.go j = true) {t s : Nat} (ht : t < 2 ^ 29) (hs : s ≤ 1) (μ : Mm) (M : DM D μ) : ∃ μ', f_M_walk N (nI j) (nI t) (nI s) μ = some μ' ∧ KFr μ μ' ∧ μ'.1 0 (38 + s) = D.kw j t ∧ μ'.1 0 (40 + s) = D.kp j t ∧ μ'.1 0 (42 + s) = D.kl j t ∧ (∀ f, 38 ≤ f → f ≠ 38 + s → f ≠ 40 + s → f ≠ 42 + s → μ'.1 0 f = μ.1 0 f) := by
  have n16 := I.g.n16
  obtain ⟨μ1, r1, r2, r3, r4, r5⟩ := M_find_eq N hN I hj g (t := (t : Int)) (by omega) (by omega) μ M
  have M1 := r2.mfr.dm M
  obtain ⟨μ2, s1, s2, s3, s4, s5⟩ := M_find_eq N hN I hj g (t := (t : Int) + 1) (by omega) (by omega) μ1 M1
  have M2 := s2.mfr.dm M1
  have e1 : nI t + 1 = zI ((t : Int) + 1) := by rw [zI_n, show (1 : Int32) = zI 1 from rfl, zI_add]
  rw [← zI_n t] at r1
  have p0 := pz_int I hj g t
  unfold f_M_walk f_M_walk_B55
  rw [r1, bvS]
  simp only [r3, r4, r5]
  rw [e1, s1, bvS]
  simp only [s3, s4, s5]
  have fin : ∀ {μa : Mm} {x y z : Int32}, FFr μ μa → x = D.kw j t → y = D.kp j t → z = D.kl j t → ∃ μ', f_M_walk_B219 N (nI s) x y z μa = some μ' ∧ KFr μ μ' ∧ μ'.1 0 (38 + s) = D.kw j t ∧ μ'.1 0 (40 + s) = D.kp j t ∧ μ'.1 0 (42 + s) = D.kl j t ∧ (∀ f, 38 ≤ f → f ≠ 38 + s → f ≠ 40 + s → f ≠ 42 + s → μ'.1 0 f = μ.1 0 f) := by
    intro μa x y z fr ex ey ez
    obtain ⟨μ', q1, q2, q3, q4, q5, q6⟩ := walk_out N hs x y z μa
    exact ⟨μ', q1, fr.kfr.trans q2, q3.trans ex, q4.trans ey, q5.trans ez, fun f h a b c => (q6 f a b c).trans (fr.2.1 f (by omega))⟩
  cases h : D.mv j t
  · obtain ⟨_, p2, p3, p4, p5⟩ := pz_rest I hj g (t := t) (f := 0) (by decide) h
    rw [p5, if_pos rfl, p2, p3, if_pos (by decide), if_pos (show nI 0 = 0 from rfl), if_pos rfl, walk_0]
    have nm : ¬ D.mv j t = true := by rw [h]; decide
    exact fin (r2.trans s2) (by unfold Da.kw; rw [if_neg nm]) (by unfold Da.kp; rw [if_neg nm]) (by unfold Da.kl; rw [if_neg nm])
  · obtain ⟨hk, a, ne, wan, wbn, bd, pe⟩ := mv_ok I hj g h
    obtain ⟨x1, x2, x3, x4⟩ := hg_walk I hj g h
    rw [x1, x2, x3]
    by_cases z : D.gn' j t = 0
    · obtain ⟨y1, y2, y3⟩ := x4 z
      have hb : D.hg j ((t : Int) + 1) < 2 ^ 20 := by
        have h1 : D.hg j ((t : Int) + 1) ≤ D.ph j ((t : Int) + 1) := by unfold Da.hg; split <;> omega
        have h2 := I.ph_lt hj g ((t : Int) + 1)
        have h3 := (I.per1 hj g).2
        omega
      rw [if_pos z, if_pos rfl, y2, y3, if_neg (show ¬ nI (D.hg j ((t : Int) + 1)) ≤ 0 from fun q => absurd ((nIc (b := 0) (by omega) (by decide)).mp q) (by omega)), if_neg (nI_ne0 (by omega) (by omega)), walk_79 N I hj g h _ _ M2]
      exact fin (r2.trans s2) rfl rfl rfl
    · rw [if_neg z, if_neg (fun q => ne ((nI_eq (by omega) (by omega)).mp q).symm), walk_79 N I hj g h _ _ M1]
      exact fin r2 rfl rfl rfl
