/-! PURE 64: two at one place: at the parts' beginnings, and within a part -/
theorem DI.ln_eq {D : Da} (I : DI D) {j i : Nat} (hj : j < D.w) (hi : i < D.sz j) : D.ln j i = (D.len (D.pp j i) (D.pp j (nx (D.sz j) i))).natAbs := rfl
def Da.wn (D : Da) (a b : Nat) : Nat := (D.len a b).natAbs
theorem wn_sym {D : Da} (I : DI D) {a b : Nat} (ha : a < 16) (hb : b < 16) : D.wn a b = D.wn b a := by
  unfold Da.wn
  rw [I.g.sym a b ha hb]
theorem pz_int {D : Da} (I : DI D) {j : Nat} (hj : j < D.w) (g : D.go j = true) (t : Nat) : D.pz j ((t : Int) * 27720) = (if D.hg j t = 0 then (D.hp j t, D.hp j t, 0) else wlP (D.hp j t) (D.hn j t) (D.hg j t * D.sp j * 27720) (60 * D.wn (D.hp j t) (D.hn j t) * 27720)) ∧ D.hp j t < D.n ∧ (D.hg j t ≠ 0 → D.hn j t < D.n ∧ D.hp j t ≠ D.hn j t ∧ D.hg j t * D.sp j < 60 * D.wn (D.hp j t) (D.hn j t) ∧ D.kd j ≠ 3) := by
  have n16 := I.g.n16
  by_cases hk : D.kd j = 3
  · have r : D.hr j t = true := by unfold Da.hr; rw [decide_eq_true hk]; rfl
    have h0 : D.hg j t = 0 := by unfold Da.hg; rw [if_pos r]
    have hp : D.hp j t = D.po j := by unfold Da.hp; rw [if_pos hk]
    refine ⟨?_, by rw [hp]; exact (Da.go_ok g).2.2.1 hk, fun q => absurd h0 q⟩
    rw [if_pos h0, hp]
    unfold Da.pz
    rw [if_pos hk]
  · obtain ⟨a, b, d⟩ := I.hl_spec hj g hk t
    have w0 := Da.why0 ((Da.go_ok g).2.2.2 hk)
    have nl : nx (D.sz j) (D.hl j t) < D.sz j := by unfold nx; split <;> omega
    have gp := I.gp_at hj g t 0 (by decide)
    rw [show (t : Int) * 27720 + ((0 : Nat) : Int) = (t : Int) * 27720 by omega, Nat.add_zero] at gp
    have dv : D.ph j t * 27720 / 27720 = D.ph j t := by omega
    have hp : D.hp j t = D.pp j (D.hl j t) := by unfold Da.hp; rw [if_neg hk]
    have cs : D.cm j (D.hl j t + 1) = D.cm j (D.hl j t) + (D.pr j (D.hl j t) + D.un j * D.ln j (D.hl j t)) := rfl
    have s1 := I.sp j hj
    by_cases r : D.ph j t ≤ D.cm j (D.hl j t) + D.pr j (D.hl j t)
    · have hr : D.hr j t = true := by unfold Da.hr; rw [decide_eq_true r, Bool.or_true]
      have h0 : D.hg j t = 0 := by unfold Da.hg; rw [if_pos hr]
      refine ⟨?_, by rw [hp]; exact w0.2.1 _ a, fun q => absurd h0 q⟩
      rw [if_pos h0, hp]
      unfold Da.pz
      rw [if_neg hk, gp, dv, show D.lf j (D.ph j t) = D.hl j t from rfl, if_pos (by omega)]
    · have hr : ¬ D.hr j t = true := by unfold Da.hr; rw [decide_eq_false r, decide_eq_false hk]; decide
      have hg : D.hg j t = D.ph j t - (D.cm j (D.hl j t) + D.pr j (D.hl j t)) := by unfold Da.hg; rw [if_neg hr]
      have hn : D.hn j t = D.pp j (nx (D.sz j) (D.hl j t)) := by unfold Da.hn; rw [if_neg hk, if_neg hr]
      have lw : D.wn (D.hp j t) (D.hn j t) = D.ln j (D.hl j t) := by rw [hp, hn]; rfl
      have sl : D.hg j t * D.sp j < D.un j * D.ln j (D.hl j t) * D.sp j := Nat.mul_lt_mul_of_pos_right (by omega) (by omega)
      rw [Nat.mul_right_comm, sp60 I hj hk] at sl
      refine ⟨?_, by rw [hp]; exact w0.2.1 _ a, fun _ => ⟨by rw [hn]; exact w0.2.1 _ nl, by rw [hp, hn]; exact I.pn j _ hj a, by rw [lw]; exact sl, hk⟩⟩
      rw [if_neg (by omega), lw, hp, hn]
      unfold Da.pz
      rw [if_neg hk, gp, dv, show D.lf j (D.ph j t) = D.hl j t from rfl, if_neg (by omega), show D.ph j t * 27720 - (D.cm j (D.hl j t) + D.pr j (D.hl j t)) * 27720 = D.hg j t * 27720 by omega, Nat.mul_right_comm]
theorem wlP_post {a b x w p : Nat} (h : a ≠ b) : wlP a b x w ≠ (p, p, 0) := by
  unfold wlP
  split
  · intro q
    have h1 := congrArg Prod.fst q
    have h2 := congrArg (fun z : Nat × Nat × Nat => z.2.1) q
    simp only [] at h1 h2
    omega
  · intro q
    have h1 := congrArg Prod.fst q
    have h2 := congrArg (fun z : Nat × Nat × Nat => z.2.1) q
    simp only [] at h1 h2
    omega
theorem wlP_eq {a b x a' b' x' w : Nat} (h : a ≠ b) (h' : a' ≠ b') (hx : x < w) (hx' : x' < w) : (wlP a b x w = wlP a' b' x' w) ↔ ((a = a' ∧ b = b' ∧ x = x') ∨ (a = b' ∧ b = a' ∧ x = w - x')) := by
  unfold wlP
  by_cases c : a < b <;> by_cases c' : a' < b'
  · rw [if_pos c, if_pos c', Prod.mk.injEq, Prod.mk.injEq]; omega
  · rw [if_pos c, if_neg c', Prod.mk.injEq, Prod.mk.injEq]; omega
  · rw [if_neg c, if_pos c', Prod.mk.injEq, Prod.mk.injEq]; omega
  · rw [if_neg c, if_neg c', Prod.mk.injEq, Prod.mk.injEq]; omega
/-- another wall: another place -/
theorem wlP_ne {a b x w a' b' x' w' : Nat} (h : a ≠ b) (h' : a' ≠ b') (n1 : ¬ (a = a' ∧ b = b')) (n2 : ¬ (a = b' ∧ b = a')) : wlP a b x w ≠ wlP a' b' x' w' := by
  unfold wlP
  intro q
  have h1 := congrArg Prod.fst q
  have h2 := congrArg (fun z : Nat × Nat × Nat => z.2.1) q
  split at h1 <;> split at h1 <;> simp_all <;> omega
/-- the signed way between two in a part, and its change -/
def Da.nw (D : Da) (a b t : Nat) : Int := D.zz a t - D.zz b t
def Da.tn (D : Da) (a b t : Nat) : Int := (D.zz a t + D.vv a t) - (D.zz b t + D.vv b t)
def Da.sw (D : Da) (a b t : Nat) : Prop := min (D.wa a t) (D.wb a t) = min (D.wa b t) (D.wb b t) ∧ max (D.wa a t) (D.wb a t) = max (D.wa b t) (D.wb b t)
def Da.cr (D : Da) (a b t : Nat) : Prop := D.mv a t = true ∧ D.mv b t = true ∧ D.sw a b t ∧ ((D.nw a b t < 0 ∧ 0 < D.tn a b t) ∨ (0 < D.nw a b t ∧ D.tn a b t < 0))
def Da.fs (D : Da) (a b t : Nat) : Nat := 27720 / ((D.nw a b t).natAbs + (D.tn a b t).natAbs) * (D.nw a b t).natAbs
def Da.oq (D : Da) (a b t : Nat) : Prop := (D.mv a t = false ∧ D.mv b t = false ∧ D.hp a t = D.hp b t) ∨ (D.mv a t = true ∧ D.mv b t = true ∧ D.sw a b t ∧ D.nw a b t = 0 ∧ D.tn a b t = 0)
theorem vv_b {D : Da} (I : DI D) {j : Nat} (hj : j < D.w) (t : Nat) : (D.vv j t = D.sp j ∨ D.vv j t = -(D.sp j : Int)) ∧ 1 ≤ D.sp j ∧ D.sp j ≤ 6 := by
  have := I.sp j hj
  unfold Da.vv
  split <;> omega
theorem dvd12 {d : Nat} (h1 : 1 ≤ d) (h2 : d ≤ 12) : 27720 / d * d = 27720 := by
  rcases (show d = 1 ∨ d = 2 ∨ d = 3 ∨ d = 4 ∨ d = 5 ∨ d = 6 ∨ d = 7 ∨ d = 8 ∨ d = 9 ∨ d = 10 ∨ d = 11 ∨ d = 12 by omega) with h | h | h | h | h | h | h | h | h | h | h | h <;> rw [h]
/-- a crossing: where within the part -/
theorem cr_at {D : Da} (I : DI D) {a b : Nat} (ha : a < D.w) (hb : b < D.w) {t : Nat} (h : D.cr a b t) : 0 < D.fs a b t ∧ D.fs a b t < 27720 ∧ D.nw a b t * 27720 + (D.tn a b t - D.nw a b t) * (D.fs a b t : Nat) = 0 ∧ 1 ≤ (D.nw a b t).natAbs + (D.tn a b t).natAbs ∧ (D.nw a b t).natAbs + (D.tn a b t).natAbs ≤ 12 := by
  obtain ⟨_, _, _, h4⟩ := h
  obtain ⟨v1, v2, v3⟩ := vv_b I ha t
  obtain ⟨u1, u2, u3⟩ := vv_b I hb t
  have df : D.tn a b t - D.nw a b t = D.vv a t - D.vv b t := by unfold Da.tn Da.nw; omega
  unfold Da.fs
  generalize D.nw a b t = n at *
  generalize D.tn a b t = m at *
  generalize D.vv a t = va at *
  generalize D.vv b t = vb at *
  have d12 : n.natAbs + m.natAbs ≤ 12 := by omega
  have d1 : 1 ≤ n.natAbs + m.natAbs := by omega
  have dv := dvd12 d1 d12
  generalize hd : n.natAbs + m.natAbs = d at *
  generalize hq : 27720 / d = q at *
  have q1 : 1 ≤ q := by
    rcases Nat.eq_zero_or_pos q with z | z
    · rw [z] at dv; omega
    · exact z
  have nl : n.natAbs < d := by omega
  have n0 : 0 < n.natAbs := by omega
  have f1 : 0 < q * n.natAbs := Nat.mul_pos q1 n0
  have f2 : q * n.natAbs < q * d := Nat.mul_lt_mul_of_pos_left nl q1
  refine ⟨f1, by omega, ?_, d1, d12⟩
  have e1 : (q : Int) * d = 27720 := by
    have : ((q * d : Nat) : Int) = (27720 : Nat) := by rw [dv]
    rw [Int.natCast_mul] at this
    exact this
  rw [← e1, Int.natCast_mul]
  rcases h4 with ⟨x, y⟩ | ⟨x, y⟩
  · have a1 : (n.natAbs : Int) = -n := by omega
    have a2 : (d : Int) = m - n := by omega
    rw [a1, a2]
    rw [show n * ((q : Int) * (m - n)) = (m - n) * (q * n) from by rw [Int.mul_comm (m - n), Int.mul_comm n, Int.mul_assoc, Int.mul_assoc, Int.mul_comm (m - n) n], Int.mul_neg, Int.mul_neg]
    omega
  · have a1 : (n.natAbs : Int) = n := by omega
    have a2 : (d : Int) = -(m - n) := by omega
    rw [a1, a2]
    rw [Int.mul_neg, Int.mul_neg, show n * ((q : Int) * (m - n)) = (m - n) * (q * n) from by rw [Int.mul_comm (m - n), Int.mul_comm n, Int.mul_assoc, Int.mul_assoc, Int.mul_comm (m - n) n]]
    omega
theorem lin_zero {n m : Int} {f : Nat} (h0 : 0 < f) (h1 : f < 27720) (h : n * 27720 + (m - n) * (f : Int) = 0) : (n = 0 ∧ m = 0) ∨ ((n < 0 ∧ 0 < m) ∨ (0 < n ∧ m < 0)) := by
  have e : n * (27720 - f : Int) + m * f = 0 := by
    rw [Int.mul_sub]
    rw [Int.sub_mul] at h
    omega
  have p1 : (0 : Int) < 27720 - f := by omega
  have p2 : (0 : Int) < f := by omega
  rcases Int.lt_trichotomy n 0 with a | a | a
  · have := Int.mul_neg_of_neg_of_pos a p1
    rcases Int.lt_or_le 0 m with b | b
    · right; left; exact ⟨a, b⟩
    · have := Int.mul_nonpos_of_nonpos_of_nonneg b (show (0 : Int) ≤ f by omega)
      omega
  · subst a
    rw [Int.zero_mul, Int.zero_add] at e
    rcases Int.mul_eq_zero.mp e with q | q
    · left; exact ⟨rfl, q⟩
    · omega
  · have := Int.mul_pos a p1
    rcases Int.lt_or_le m 0 with b | b
    · right; right; exact ⟨a, b⟩
    · have := Int.mul_nonneg b (show (0 : Int) ≤ f by omega)
      omega
theorem inside {D : Da} (I : DI D) {a b : Nat} (ha : a < D.w) (hb : b < D.w) (ga : D.go a = true) (gb : D.go b = true) {t f : Nat} (h0 : 0 < f) (hf : f < 27720) : D.pz a ((t : Int) * 27720 + f) = D.pz b ((t : Int) * 27720 + f) ↔ ((D.cr a b t ∧ f = D.fs a b t) ∨ D.oq a b t) := by
  cases ma : D.mv a t with
  | false =>
    have pa := (pz_rest I ha ga hf ma).1
    cases mb : D.mv b t with
    | false =>
      have pb := (pz_rest I hb gb hf mb).1
      rw [pa, pb]
      constructor
      · intro q
        exact Or.inr (Or.inl ⟨ma, mb, congrArg Prod.fst q⟩)
      · rintro (⟨c, _⟩ | o)
        · have := c.1; rw [ma] at this; cases this
        · rcases o with o | o
          · rw [o.2.2]
          · rw [ma] at o; cases o.1
    | true =>
      obtain ⟨_, _, ne, _⟩ := mv_ok I hb gb mb
      obtain ⟨pb, _, _⟩ := pz_walk I hb gb hf (Or.inl h0) mb
      rw [pa, pb]
      constructor
      · intro q
        have h1 := congrArg Prod.fst q
        have h2 := congrArg (fun z : Nat × Nat × Nat => z.2.1) q
        simp only [] at h1 h2
        omega
      · rintro (⟨c, _⟩ | o)
        · have := c.1; rw [ma] at this; cases this
        · rcases o with o | o
          · rw [mb] at o; cases o.2.1
          · rw [ma] at o; cases o.1
  | true =>
    obtain ⟨_, _, nea, _⟩ := mv_ok I ha ga ma
    obtain ⟨pa, pa1, pa2⟩ := pz_walk I ha ga hf (Or.inl h0) ma
    cases mb : D.mv b t with
    | false =>
      have pb := (pz_rest I hb gb hf mb).1
      rw [pa, pb]
      constructor
      · intro q
        have h1 := congrArg Prod.fst q
        have h2 := congrArg (fun z : Nat × Nat × Nat => z.2.1) q
        simp only [] at h1 h2
        omega
      · rintro (⟨c, _⟩ | o)
        · have := c.2.1; rw [mb] at this; cases this
        · rcases o with o | o
          · rw [ma] at o; cases o.1
          · rw [mb] at o; cases o.2.1
    | true =>
      obtain ⟨pb, pb1, pb2⟩ := pz_walk I hb gb hf (Or.inl h0) mb
      rw [pa, pb, Prod.mk.injEq, Prod.mk.injEq]
      have lin : (D.zz a t * 27720 + D.vv a t * f = D.zz b t * 27720 + D.vv b t * f) ↔ D.nw a b t * 27720 + (D.tn a b t - D.nw a b t) * (f : Int) = 0 := by
        have df : D.tn a b t - D.nw a b t = D.vv a t - D.vv b t := by unfold Da.tn Da.nw; omega
        rw [df, Int.sub_mul]
        unfold Da.nw
        rw [Int.sub_mul]
        omega
      have tn : ((D.zz a t * 27720 + D.vv a t * f).toNat = (D.zz b t * 27720 + D.vv b t * f).toNat) ↔ (D.zz a t * 27720 + D.vv a t * f = D.zz b t * 27720 + D.vv b t * f) := by omega
      rw [tn, lin]
      constructor
      · rintro ⟨q1, q2, q3⟩
        rcases lin_zero h0 hf q3 with z | z
        · exact Or.inr (Or.inr ⟨ma, mb, ⟨q1, q2⟩, z.1, z.2⟩)
        · have c : D.cr a b t := ⟨ma, mb, ⟨q1, q2⟩, z⟩
          refine Or.inl ⟨c, ?_⟩
          obtain ⟨c1, c2, c3, _⟩ := cr_at I ha hb c
          have dne : D.tn a b t - D.nw a b t ≠ 0 := by omega
          have : (D.tn a b t - D.nw a b t) * (f : Int) = (D.tn a b t - D.nw a b t) * (D.fs a b t : Int) := by omega
          have := Int.eq_of_mul_eq_mul_left dne this
          omega
      · rintro (⟨c, e⟩ | o)
        · refine ⟨c.2.2.1.1, c.2.2.1.2, ?_⟩
          rw [e]
          exact (cr_at I ha hb c).2.2.1
        · rcases o with o | o
          · rw [ma] at o; cases o.1
          · refine ⟨o.2.2.1.1, o.2.2.1.2, ?_⟩
            rw [o.2.2.2.1, o.2.2.2.2]
            omega
