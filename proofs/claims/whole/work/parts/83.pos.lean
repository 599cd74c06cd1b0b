/-! PURE 63: where one is, in grains -/
def Da.gp (D : Da) (j : Nat) (x : Int) : Nat := ((x - D.st j * 27720) % ((D.per j : Int) * 27720)).toNat
/-- a place: a post twice, or the two posts of a wall and how far from the lesser one -/
def wlP (a b x whole : Nat) : Nat × Nat × Nat := if a < b then (a, b, x) else (b, a, whole - x)
def Da.pz (D : Da) (j : Nat) (x : Int) : Nat × Nat × Nat := if D.kd j = 3 then (D.po j, D.po j, 0) else if D.gp j x ≤ (D.cm j (D.lf j (D.gp j x / 27720)) + D.pr j (D.lf j (D.gp j x / 27720))) * 27720 then (D.pp j (D.lf j (D.gp j x / 27720)), D.pp j (D.lf j (D.gp j x / 27720)), 0) else wlP (D.pp j (D.lf j (D.gp j x / 27720))) (D.pp j (nx (D.sz j) (D.lf j (D.gp j x / 27720)))) ((D.gp j x - (D.cm j (D.lf j (D.gp j x / 27720)) + D.pr j (D.lf j (D.gp j x / 27720))) * 27720) * D.sp j) (60 * D.ln j (D.lf j (D.gp j x / 27720)) * 27720)
theorem DI.gp_at {D : Da} (I : DI D) {j : Nat} (hj : j < D.w) (g : D.go j = true) (t f : Nat) (hf : f < 27720) : D.gp j ((t : Int) * 27720 + f) = D.ph j t * 27720 + f := by
  have hp := (I.per1 hj g).1
  unfold Da.gp Da.ph
  generalize D.per j = P at *
  generalize D.st j = s at *
  have d1 := Int.emod_add_mul_ediv ((t : Int) - s) P
  have d2 := Int.emod_nonneg ((t : Int) - s) (show (P : Int) ≠ 0 by omega)
  have d3 := Int.emod_lt_of_pos ((t : Int) - s) (show (0 : Int) < P by omega)
  generalize hr : ((t : Int) - s) % P = r at *
  generalize hq : ((t : Int) - s) / P = q at *
  have e : (t : Int) * 27720 + f - s * 27720 = (r * 27720 + f) + (P : Int) * 27720 * q := by
    have : (t : Int) - s = r + P * q := by omega
    have h2 : (t : Int) * 27720 - s * 27720 = (r + P * q) * 27720 := by rw [← this]; omega
    rw [Int.add_mul] at h2
    have h3 : (P : Int) * q * 27720 = P * 27720 * q := by rw [Int.mul_assoc, Int.mul_comm q, ← Int.mul_assoc]
    omega
  rw [e, Int.add_mul_emod_self_left, Int.emod_eq_of_lt (by omega) (by omega)]
  omega
/-- how far beyond its leaving one is, at the start of a part, when it is on its way in that part -/
def Da.mv (D : Da) (j : Nat) (t : Nat) : Bool := decide (D.kd j ≠ 3) && decide (D.cm j (D.hl j t) + D.pr j (D.hl j t) ≤ D.ph j t)
def Da.gn' (D : Da) (j : Nat) (t : Nat) : Nat := D.ph j t - (D.cm j (D.hl j t) + D.pr j (D.hl j t))
def Da.wa (D : Da) (j : Nat) (t : Nat) : Nat := D.pp j (D.hl j t)
def Da.wb (D : Da) (j : Nat) (t : Nat) : Nat := D.pp j (nx (D.sz j) (D.hl j t))
def Da.zz (D : Da) (j : Nat) (t : Nat) : Int := if D.wa j t < D.wb j t then D.gn' j t * D.sp j else 60 * D.ln j (D.hl j t) - D.gn' j t * D.sp j
def Da.vv (D : Da) (j : Nat) (t : Nat) : Int := if D.wa j t < D.wb j t then D.sp j else -D.sp j
theorem sp60 {D : Da} (I : DI D) {j : Nat} (hj : j < D.w) (hk : D.kd j ≠ 3) : D.un j * D.sp j = 60 := by
  have := I.sp j hj
  unfold Da.un
  rw [if_neg hk]
  rcases (show D.sp j = 1 ∨ D.sp j = 2 ∨ D.sp j = 3 ∨ D.sp j = 4 ∨ D.sp j = 5 ∨ D.sp j = 6 by omega) with h | h | h | h | h | h <;> rw [h]
/-- on its way: bounds -/
theorem mv_ok {D : Da} (I : DI D) {j : Nat} (hj : j < D.w) (g : D.go j = true) {t : Nat} (h : D.mv j t = true) : D.kd j ≠ 3 ∧ D.hl j t < D.sz j ∧ D.wa j t ≠ D.wb j t ∧ D.wa j t < D.n ∧ D.wb j t < D.n ∧ (D.gn' j t + 1) * D.sp j ≤ 60 * D.ln j (D.hl j t) ∧ D.ph j t = D.cm j (D.hl j t) + D.pr j (D.hl j t) + D.gn' j t := by
  unfold Da.mv at h
  rw [Bool.and_eq_true, decide_eq_true_eq, decide_eq_true_eq] at h
  obtain ⟨hk, h2⟩ := h
  obtain ⟨a, b, d⟩ := I.hl_spec hj g hk t
  have w0 := Da.why0 ((Da.go_ok g).2.2.2 hk)
  have nl : nx (D.sz j) (D.hl j t) < D.sz j := by unfold nx; split <;> omega
  have cs : D.cm j (D.hl j t + 1) = D.cm j (D.hl j t) + (D.pr j (D.hl j t) + D.un j * D.ln j (D.hl j t)) := rfl
  have e : D.ph j t = D.cm j (D.hl j t) + D.pr j (D.hl j t) + D.gn' j t := by unfold Da.gn'; omega
  refine ⟨hk, a, I.pn j _ hj a, w0.2.1 _ a, w0.2.1 _ nl, ?_, e⟩
  have : (D.gn' j t + 1) * D.sp j ≤ (D.un j * D.ln j (D.hl j t)) * D.sp j := Nat.mul_le_mul_right _ (by omega)
  rw [Nat.mul_right_comm, sp60 I hj hk] at this
  exact this
/-- not on its way in a part: at its post all along -/
theorem pz_rest {D : Da} (I : DI D) {j : Nat} (hj : j < D.w) (g : D.go j = true) {t f : Nat} (hf : f < 27720) (h : D.mv j t = false) : D.pz j ((t : Int) * 27720 + f) = (D.hp j t, D.hp j t, 0) ∧ D.hp j ((t : Int) + 1) = D.hp j t ∧ D.hg j ((t : Int) + 1) = 0 ∧ D.hg j (t : Int) = 0 ∧ D.hn j (t : Int) = D.hp j t := by
  by_cases hk : D.kd j = 3
  · have r : ∀ x : Int, D.hr j x = true := fun x => by unfold Da.hr; rw [decide_eq_true hk]; rfl
    unfold Da.pz Da.hp Da.hg Da.hn
    rw [if_pos hk, if_pos hk, if_pos hk, if_pos (r _), if_pos (r _), if_pos hk]
    exact ⟨rfl, rfl, rfl, rfl, rfl⟩
  · unfold Da.mv at h
    rw [decide_eq_true hk, Bool.true_and, decide_eq_false_iff_not] at h
    obtain ⟨a, b, d⟩ := I.hl_spec hj g hk t
    have lp := I.lt_pos hj g hk a
    have cs : D.cm j (D.hl j t + 1) = D.cm j (D.hl j t) + D.lt j (D.hl j t) := rfl
    have cmm := D.cm_mono j (show D.hl j t + 1 ≤ D.sz j by omega)
    have pe := D.per_cm (j := j) hk
    have gp := I.gp_at hj g t f hf
    have dv : (D.ph j t * 27720 + f) / 27720 = D.ph j t := by omega
    have p1 := I.ph_add hj g t 1
    rw [Nat.mod_eq_of_lt (by omega)] at p1
    have p1' : D.ph j ((t : Int) + 1) = D.ph j t + 1 := p1
    have l1 : D.hl j ((t : Int) + 1) = D.hl j t := by
      show D.lf j (D.ph j ((t : Int) + 1)) = D.hl j t
      rw [p1']
      exact Da.lf_one a (by omega) (by omega)
    have r0 : D.hr j (t : Int) = true := by
      unfold Da.hr
      rw [decide_eq_true (show D.ph j t ≤ D.cm j (D.hl j t) + D.pr j (D.hl j t) by omega), Bool.or_true]
    have r1 : D.hr j ((t : Int) + 1) = true := by
      unfold Da.hr
      rw [l1, p1', decide_eq_true (show D.ph j t + 1 ≤ D.cm j (D.hl j t) + D.pr j (D.hl j t) by omega), Bool.or_true]
    refine ⟨?_, ?_, ?_, ?_, ?_⟩
    · unfold Da.pz
      rw [if_neg hk, gp, dv, show D.lf j (D.ph j t) = D.hl j t from rfl, if_pos (by omega)]
      unfold Da.hp
      rw [if_neg hk]
    · unfold Da.hp
      rw [if_neg hk, if_neg hk, l1]
    · unfold Da.hg
      rw [if_pos r1]
    · unfold Da.hg
      rw [if_pos r0]
    · unfold Da.hn Da.hp
      rw [if_neg hk, if_neg hk, if_pos r0]
/-- on its way in a part -/
theorem pz_walk {D : Da} (I : DI D) {j : Nat} (hj : j < D.w) (g : D.go j = true) {t f : Nat} (hf : f < 27720) (h0 : 0 < f ∨ 0 < D.gn' j t) (h : D.mv j t = true) : D.pz j ((t : Int) * 27720 + f) = (min (D.wa j t) (D.wb j t), max (D.wa j t) (D.wb j t), (D.zz j t * 27720 + D.vv j t * f).toNat) ∧ 0 < D.zz j t * 27720 + D.vv j t * f ∧ D.zz j t * 27720 + D.vv j t * f < 60 * D.ln j (D.hl j t) * 27720 := by
  obtain ⟨hk, a, ne, wan, wbn, bd, pe⟩ := mv_ok I hj g h
  have s1 := I.sp j hj
  have gp := I.gp_at hj g t f hf
  have dv : (D.ph j t * 27720 + f) / 27720 = D.ph j t := by omega
  have x1 : D.ph j t * 27720 + f - (D.cm j (D.hl j t) + D.pr j (D.hl j t)) * 27720 = D.gn' j t * 27720 + f := by omega
  have ez : (D.gn' j t * 27720 + f) * D.sp j = D.gn' j t * D.sp j * 27720 + D.sp j * f := by
    rw [Nat.add_mul, Nat.mul_right_comm, Nat.mul_comm f]
  have bd' : D.gn' j t * D.sp j + D.sp j ≤ 60 * D.ln j (D.hl j t) := by rw [Nat.add_mul, Nat.one_mul] at bd; exact bd
  have fs : D.sp j * f < D.sp j * 27720 := Nat.mul_lt_mul_of_pos_left hf (by omega)
  have pos : 0 < D.gn' j t * D.sp j * 27720 + D.sp j * f := by
    rcases h0 with q | q
    · have : 0 < D.sp j * f := Nat.mul_pos (by omega) q
      omega
    · have : 0 < D.gn' j t * D.sp j := Nat.mul_pos q (by omega)
      omega
  have c1 : ((D.gn' j t * D.sp j : Nat) : Int) = (D.gn' j t : Int) * D.sp j := Int.natCast_mul _ _
  have c3 : ((D.sp j * f : Nat) : Int) = (D.sp j : Int) * f := Int.natCast_mul _ _
  unfold Da.pz Da.zz Da.vv
  rw [if_neg hk, gp, dv, show D.lf j (D.ph j t) = D.hl j t from rfl, if_neg (show ¬ D.ph j t * 27720 + f ≤ (D.cm j (D.hl j t) + D.pr j (D.hl j t)) * 27720 by omega), x1, ez]
  clear x1 ez gp dv
  unfold wlP
  rw [show D.pp j (D.hl j t) = D.wa j t from rfl, show D.pp j (nx (D.sz j) (D.hl j t)) = D.wb j t from rfl]
  generalize D.gn' j t * D.sp j = P1 at *
  generalize D.sp j * f = P2 at *
  generalize D.ln j (D.hl j t) = Ln at *
  by_cases c : D.wa j t < D.wb j t
  · rw [if_pos c, if_pos c, if_pos c, Nat.min_eq_left (by omega), Nat.max_eq_right (by omega), ← c1, ← c3]
    refine ⟨?_, by omega, by omega⟩
    have : P1 * 27720 + P2 = ((P1 : Int) * 27720 + (P2 : Int)).toNat := by omega
    rw [this]
  · rw [if_neg c, if_neg c, if_neg c, Nat.min_eq_right (by omega), Nat.max_eq_left (by omega), Int.neg_mul, ← c1, ← c3]
    refine ⟨?_, by omega, by omega⟩
    have : 60 * Ln * 27720 - (P1 * 27720 + P2) = ((60 * (Ln : Int) - (P1 : Int)) * 27720 + -(P2 : Int)).toNat := by omega
    rw [this]
/-- leaving right then: at its post -/
theorem pz_leave {D : Da} (I : DI D) {j : Nat} (hj : j < D.w) (g : D.go j = true) {t : Nat} (h0 : D.gn' j t = 0) (h : D.mv j t = true) : D.pz j ((t : Int) * 27720) = (D.wa j t, D.wa j t, 0) := by
  obtain ⟨hk, a, ne, wan, wbn, bd, pe⟩ := mv_ok I hj g h
  have gp := I.gp_at hj g t 0 (by decide)
  rw [show (t : Int) * 27720 + ((0 : Nat) : Int) = (t : Int) * 27720 by omega] at gp
  have dv : (D.ph j t * 27720 + 0) / 27720 = D.ph j t := by omega
  unfold Da.pz
  rw [if_neg hk, gp, dv, show D.lf j (D.ph j t) = D.hl j t from rfl, if_pos (by omega)]
  rfl
/-- the next part's beginning, from this part's way -/
theorem hg_walk {D : Da} (I : DI D) {j : Nat} (hj : j < D.w) (g : D.go j = true) {t : Nat} (h : D.mv j t = true) : D.hp j (t : Int) = D.wa j t ∧ D.hg j (t : Int) = D.gn' j t ∧ D.hn j (t : Int) = (if D.gn' j t = 0 then D.wa j t else D.wb j t) ∧ (D.gn' j t = 0 → 0 < D.hg j ((t : Int) + 1) ∧ D.hn j ((t : Int) + 1) = D.wb j t ∧ D.hp j ((t : Int) + 1) = D.wa j t) := by
  obtain ⟨hk, a, ne, wan, wbn, bd, pe⟩ := mv_ok I hj g h
  obtain ⟨_, b, d⟩ := I.hl_spec hj g hk t
  have lp := I.lt_pos hj g hk a
  have cs : D.cm j (D.hl j t + 1) = D.cm j (D.hl j t) + D.lt j (D.hl j t) := rfl
  have cmm := D.cm_mono j (show D.hl j t + 1 ≤ D.sz j by omega)
  have per := D.per_cm (j := j) hk
  have hrq : D.hr j (t : Int) = decide (D.gn' j t = 0) := by
    unfold Da.hr
    rw [decide_eq_false hk, Bool.false_or, decide_eq_decide]
    omega
  refine ⟨by unfold Da.hp; rw [if_neg hk]; rfl, ?_, ?_, fun h0 => ?_⟩
  · unfold Da.hg
    rw [hrq]
    by_cases z : D.gn' j t = 0
    · rw [decide_eq_true z, if_pos rfl, z]
    · rw [decide_eq_false z, if_neg (by decide)]; rfl
  · unfold Da.hn
    rw [if_neg hk, hrq]
    by_cases z : D.gn' j t = 0
    · rw [decide_eq_true z, if_pos rfl, if_pos z]; rfl
    · rw [decide_eq_false z, if_neg (by decide), if_neg z]; rfl
  · have p1 := I.ph_add hj g t 1
    rw [Nat.mod_eq_of_lt (by omega)] at p1
    have p1' : D.ph j ((t : Int) + 1) = D.ph j t + 1 := p1
    have l1 : D.hl j ((t : Int) + 1) = D.hl j t := by
      show D.lf j (D.ph j ((t : Int) + 1)) = D.hl j t
      rw [p1']
      exact Da.lf_one a (by omega) (by omega)
    have r1 : D.hr j ((t : Int) + 1) = false := by
      unfold Da.hr
      rw [l1, p1', decide_eq_false hk, decide_eq_false (show ¬ D.ph j t + 1 ≤ D.cm j (D.hl j t) + D.pr j (D.hl j t) by omega)]; rfl
    refine ⟨?_, ?_, ?_⟩
    · unfold Da.hg
      rw [r1, if_neg (by decide), l1, p1']
      omega
    · unfold Da.hn
      rw [if_neg hk, r1, if_neg (by decide), l1]; rfl
    · unfold Da.hp
      rw [if_neg hk, l1]; rfl
