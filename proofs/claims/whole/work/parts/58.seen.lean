/-! PURE 38: the reference's table of what is seen when -/
def Da.vis (D : Da) (j : Nat) (t : Int) : Nat := if D.kd j = 3 then D.sn (D.po j) (D.vw j) else if D.hr j t = true then D.sg j (D.hl j t) else 0
def Da.sa (D : Da) (S : Nat → Bool) (t : Int) : Nat → Nat
  | 0 => 0
  | i + 1 => D.sa S t i ||| (if S i = true then D.vis i t else 0)
theorem or16 {a b : Nat} (ha : a < 65536) (hb : b < 65536) : a ||| b < 65536 := Nat.or_lt_two_pow (n := 16) ha hb
theorem Da.vis_lt {D : Da} (G : GI D.n D.len) (j : Nat) (t : Int) : D.vis j t < 65536 := by
  unfold Da.vis Da.sg
  split
  · exact D.sn_lt G _ _
  · split
    · exact D.sn_lt G _ _
    · decide
theorem Da.sa_lt {D : Da} (G : GI D.n D.len) (S : Nat → Bool) (t : Int) : ∀ i, D.sa S t i < 65536
  | 0 => by unfold Da.sa; decide
  | i + 1 => by
    unfold Da.sa
    refine or16 (D.sa_lt G S t i) ?_
    split
    · exact D.vis_lt G _ _
    · decide
theorem Da.sa_ext (D : Da) {S T : Nat → Bool} (t : Int) : ∀ i, (∀ x, x < i → S x = T x) → D.sa S t i = D.sa T t i
  | 0, _ => rfl
  | i + 1, h => by
    unfold Da.sa
    rw [D.sa_ext t i (fun x hx => h x (by omega)), h i (by omega)]
theorem lo_in (N : Nat) {J per x bits : Nat} (hJ : J ≤ 14400) (hp : 0 < per) (hp2 : per ≤ 46248) (hx : x < per) (hb : bits < 65536) (μ0 : Mm) (e31 : μ0.1 0 31 = nI J) (k65 : Int32 → Int32 → Int32 → Int32 → Mm → Option Mm) (k93 : Int32 → Int32 → Int32 → Int32 → Int32 → Int32 → Mm → Option Mm) (v1 v3 v4 v6 : Int32) : ∀ (m s : Nat) (g : Nat → Int32) (G : Nat → Nat), (∀ t, t < J → g t = nI (G t) ∧ G t < 65536) → J + per < x + s * per + m → x + s * per < J + per → ∃ g', f_M_lookOut_L113 N k65 k93 m v1 (nI per) v3 v4 (nI bits) v6 (nI (x + s * per)) (sA μ0 21 g) = f_M_lookOut_B143 N k65 k93 v1 (nI per) v3 v4 (nI bits) v6 (sA μ0 21 g') ∧ ∀ t, t < J → g' t = nI (if x + s * per ≤ t ∧ t % per = x then G t ||| bits else G t) := by
  intro m
  induction m with
  | zero =>
    intro s g G hg h1 h2
    omega
  | succ m ih =>
    intro s g G hg h1 h2
    rw [f_M_lookOut_L113, sA_ne _ _ (by decide), e31]
    by_cases c : J ≤ x + s * per
    · rw [if_pos (nI_le c (by omega))]
      refine ⟨g, rfl, fun t ht => ?_⟩
      rw [if_neg (by omega)]
      exact (hg t ht).1
    · obtain ⟨g1, g2⟩ := hg (x + s * per) (by omega)
      rw [if_neg (nI_ge (by omega) (by omega)), if_pos (ixb_t (show x + s * per < 14400 by omega) (by decide)), nI_clamp (show x + s * per < 2 ^ 31 by omega), sAat, g1, orN (by omega) (by omega)]
      simp only []
      rw [if_pos (ixb_t (show x + s * per < 14400 by omega) (by decide)), sI_A, nI_add, show x + s * per + per = x + (s + 1) * per by rw [Nat.add_mul]; omega]
      obtain ⟨g', r1, r2⟩ := ih (s + 1) (upd g (x + s * per) (nI (G (x + s * per) ||| bits))) (fun t => if t = x + s * per then G t ||| bits else G t) (fun t ht => by
        rw [upd_at]
        by_cases e : t = x + s * per
        · subst e
          simp only [if_true]
          exact ⟨trivial, or16 g2 hb⟩
        · simp only [if_neg e]
          exact hg t ht) (by rw [Nat.add_mul]; omega) (by rw [Nat.add_mul]; omega)
      refine ⟨g', r1, fun t ht => ?_⟩
      rw [r2 t ht]
      congr 1
      by_cases e : t = x + s * per
      · have em : t % per = x := by rw [e, Nat.add_mul_mod_self_right, Nat.mod_eq_of_lt hx]
        rw [if_neg (by rw [Nat.add_mul]; omega), if_pos e, if_pos ⟨by omega, em⟩]
      · rw [if_neg e]
        by_cases d : x + s * per ≤ t ∧ t % per = x
        · rw [if_pos d, if_pos]
          refine ⟨?_, d.2⟩
          have dm := Nat.div_add_mod t per
          rw [d.2, Nat.mul_comm] at dm
          have h3 : s * per ≤ t / per * per := by omega
          have h4 : s ≤ t / per := Nat.le_of_mul_le_mul_right h3 hp
          have h5 : s ≠ t / per := fun q => e (by rw [q]; omega)
          have h6 : (s + 1) * per ≤ t / per * per := Nat.mul_le_mul_right per (by omega)
          omega
        · rw [if_neg d, if_neg]
          intro q
          exact d ⟨by have := q.1; rw [Nat.add_mul] at this; omega, q.2⟩
theorem ph_iff {D : Da} (I : DI D) {j : Nat} (hj : j < D.w) (g : D.go j = true) {c : Nat} (hc : c < D.per j) (t : Nat) : t % D.per j = (D.st j % D.per j + c) % D.per j ↔ D.ph j t = c := by
  have hp := (I.per1 hj g).1
  unfold Da.ph
  generalize D.per j = P at *
  generalize D.st j = s at *
  have hP : (0 : Int) < P := by omega
  have h1 := Int.emod_nonneg ((t : Int) - s) (show (P : Int) ≠ 0 by omega)
  rw [Nat.mod_add_mod]
  constructor
  · intro h
    have h' : (t : Int) % P = ((s + c : Nat) : Int) % P := by exact_mod_cast h
    have h2 : ((t : Int) - s) % P = ((c : Nat) : Int) % P := by
      rw [Int.sub_emod, h', ← Int.sub_emod]
      congr 1
      omega
    rw [h2, Int.emod_eq_of_lt (by omega) (by omega)]
    omega
  · intro h
    have h2 : ((t : Int) - s) % P = (c : Int) := by omega
    have h3 : (t : Int) % P = ((s + c : Nat) : Int) % P := by
      have : (t : Int) = ((t : Int) - s) + s := by omega
      rw [this, Int.add_emod, h2]
      have e : ((s + c : Nat) : Int) = (c : Int) + s := by omega
      rw [e, Int.add_emod (c : Int) (s : Int), Int.emod_eq_of_lt (a := (c : Int)) (b := (P : Int)) (by omega) (by omega)]
    exact_mod_cast h3
/-- what the legs up to one show at a time -/
def Da.lk (D : Da) (j : Nat) (t : Int) : Nat → Nat
  | 0 => 0
  | i + 1 => D.lk j t i ||| (if D.cm j i ≤ D.ph j t ∧ D.ph j t ≤ D.cm j i + D.pr j i then D.sg j i else 0)
theorem Da.lk_lt {D : Da} (G : GI D.n D.len) (j : Nat) (t : Int) : ∀ i, D.lk j t i < 65536
  | 0 => by unfold Da.lk; decide
  | i + 1 => by
    unfold Da.lk
    refine or16 (D.lk_lt G j t i) ?_
    split
    · exact D.sn_lt G _ _
    · decide
theorem DI.lt_pos {D : Da} (I : DI D) {j i : Nat} (hj : j < D.w) (g : D.go j = true) (hk : D.kd j ≠ 3) (hi : i < D.sz j) : D.pr j i + 10 ≤ D.lt j i := by
  have un := I.un10 hj hk
  have lnp : 1 ≤ D.ln j i := by
    have := (Da.why0 ((Da.go_ok g).2.2.2 hk)).2.2 i hi
    unfold Da.ln; omega
  have wp : 10 * 1 ≤ D.un j * D.ln j i := Nat.mul_le_mul un lnp
  unfold Da.lt
  omega
theorem lk_vis {D : Da} (I : DI D) {j : Nat} (hj : j < D.w) (g : D.go j = true) (hk : D.kd j ≠ 3) (t : Int) : ∀ i, i ≤ D.sz j → D.lk j t i = if D.hl j t < i ∧ D.hr j t = true then D.sg j (D.hl j t) else 0
  | 0, _ => by
    rw [if_neg (by omega)]; rfl
  | i + 1, hi => by
    obtain ⟨a, b, d⟩ := I.hl_spec hj g hk t
    have ih := lk_vis I hj g hk t i (by omega)
    have r28 : D.hr j t = decide (D.ph j t ≤ D.cm j (D.hl j t) + D.pr j (D.hl j t)) := by unfold Da.hr; rw [decide_eq_false hk, Bool.false_or]
    have lp := I.lt_pos hj g hk (show i < D.sz j by omega)
    have cs : D.cm j (i + 1) = D.cm j i + D.lt j i := rfl
    unfold Da.lk
    rw [ih]
    rcases Nat.lt_trichotomy (D.hl j t) i with c | c | c
    · have := D.cm_mono j (show D.hl j t + 1 ≤ i by omega)
      rw [if_neg (show ¬ (D.cm j i ≤ D.ph j t ∧ D.ph j t ≤ D.cm j i + D.pr j i) by omega), Nat.or_zero]
      by_cases r : D.hr j t = true
      · rw [if_pos ⟨c, r⟩, if_pos ⟨by omega, r⟩]
      · rw [if_neg (fun q => r q.2), if_neg (fun q => r q.2)]
    · rw [if_neg (by omega), Nat.zero_or, ← c]
      by_cases r : D.hr j t = true
      · have r' := r
        rw [r28] at r'
        rw [if_pos ⟨b, of_decide_eq_true r'⟩, if_pos ⟨by omega, r⟩]
      · have r' : ¬ D.ph j t ≤ D.cm j (D.hl j t) + D.pr j (D.hl j t) := fun q => r (by rw [r28, decide_eq_true q])
        rw [if_neg (fun q => r' q.2), if_neg (fun q => r q.2)]
    · have := D.cm_mono j (show i + 1 ≤ D.hl j t by omega)
      rw [if_neg (by omega), if_neg (show ¬ (D.cm j i ≤ D.ph j t ∧ D.ph j t ≤ D.cm j i + D.pr j i) by omega), if_neg (by omega)]; rfl
theorem lk_all {D : Da} (I : DI D) {j : Nat} (hj : j < D.w) (g : D.go j = true) (hk : D.kd j ≠ 3) (t : Int) : D.lk j t (D.sz j) = D.vis j t := by
  obtain ⟨a, _, _⟩ := I.hl_spec hj g hk t
  rw [lk_vis I hj g hk t _ (Nat.le_refl _)]
  unfold Da.vis
  rw [if_neg hk]
  by_cases r : D.hr j t = true
  · rw [if_pos ⟨a, r⟩, if_pos r]
  · rw [if_neg (fun q => r q.2), if_neg r]
/-- the rests of one leg -/
theorem lo_rest (N : Nat) (hN : 61000 ≤ N) {D : Da} (I : DI D) {j i J : Nat} (hj : j < D.w) (g : D.go j = true) (hk : D.kd j ≠ 3) (hi : i < D.sz j) (hJ : J ≤ 14400) (μ0 : Mm) (M : DM D μ0) (e31 : μ0.1 0 31 = nI J) (k65 : Int32 → Int32 → Int32 → Int32 → Mm → Option Mm) (H : Nat → Nat) (hH : ∀ t, t < J → H t < 65536) : ∀ (m k : Nat) (f : Nat → Int32), k ≤ D.pr j i + 1 → D.pr j i + 1 < m + k → (∀ t : Nat, t < J → f t = nI (if D.cm j i ≤ D.ph j t ∧ D.ph j t < D.cm j i + k then H t ||| D.sg j i else H t)) → ∃ f', f_M_lookOut_L93 N k65 m (nI j) (nI (D.per j)) (nI (D.st j % D.per j + D.cm j i)) (nI i) (nI (D.sg j i)) (nI k) (sA μ0 21 f) = k65 (nI j) (nI (D.per j)) (nI (D.st j % D.per j + D.cm j (i + 1))) (nI (i + 1)) (sA μ0 21 f') ∧ ∀ t : Nat, t < J → f' t = nI (H t ||| (if D.cm j i ≤ D.ph j t ∧ D.ph j t ≤ D.cm j i + D.pr j i then D.sg j i else 0)) := by
  have h24 := I.sz24 hj
  have w8 := I.w8
  have z0 := (Da.why0 ((Da.go_ok g).2.2.2 hk)).1
  have hp := I.per1 hj g
  have s14 := I.st j hj z0
  have c46 := I.cm_46 hj (show i + 1 ≤ D.sz j by omega)
  have cs : D.cm j (i + 1) = D.cm j i + D.lt j i := rfl
  have lp := I.lt_pos hj g hk hi
  have pe : D.per j = D.cm j (D.sz j) := by unfold Da.per; rw [if_neg hk]
  have cmm := D.cm_mono j (show i + 1 ≤ D.sz j by omega)
  have sl : D.st j % D.per j < D.per j := Nat.mod_lt _ (by omega)
  have gl := D.sn_lt I.g (D.pp j i) (D.vw j)
  have p127 := I.pr j i hj hi
  have pql := D.pq_lt I hj hi
  intro m
  induction m with
  | zero => intro k f h1 h2; omega
  | succ m ih =>
    intro k f h1 h2 hf
    have M1 : DM D (sA μ0 21 f) := (MFr.cell (by omega) μ0 f).dm M
    rw [f_M_lookOut_L93, M_rest_eq N (by omega) (by omega), bnS, M1.pr j i hj hi]
    by_cases c : k = D.pr j i + 1
    · subst c
      rw [if_pos (nI_lt (by omega) (by omega))]
      unfold f_M_lookOut_B149
      rw [M_rest_eq N (by omega) (by omega), bnS, M1.pr j i hj hi, M_pr_eq N I hj hi _ M1, bnS, if_pos (ixb_t pql (by decide)), M_unitOf_eq N I hj _ M1, bnS, nI_clamp (show D.pq j i < 2 ^ 31 by omega), M1.ln I hj hi]
      simp only [pk_mul, nI_add, nI_1]
      rw [show D.st j % D.per j + D.cm j i + (D.pr j i + D.ln j i * D.un j) = D.st j % D.per j + D.cm j (i + 1) by rw [cs, Da.lt, Nat.mul_comm (D.ln j i)]; omega]
      refine ⟨f, rfl, fun t ht => ?_⟩
      rw [hf t ht]
      congr 1
      by_cases d : D.cm j i ≤ D.ph j t ∧ D.ph j t ≤ D.cm j i + D.pr j i
      · rw [if_pos (by omega), if_pos d]
      · rw [if_neg (by omega), if_neg d, Nat.or_zero]
    · rw [if_neg (nI_nlt (by omega) (by omega)), nI_add]
      simp only []
      rw [if_neg (nI_ne0 (by omega) (by omega)), pk_rem (by omega) (by omega) (by omega)]
      have xl : (D.st j % D.per j + D.cm j i + k) % D.per j < D.per j := Nat.mod_lt _ (by omega)
      obtain ⟨g', r1, r2⟩ := lo_in N hJ (by omega) hp.2 xl gl μ0 e31 k65 (f_M_lookOut_L93 N k65 m) (nI j) (nI (D.st j % D.per j + D.cm j i)) (nI i) (nI k) N 0 f (fun t => if D.cm j i ≤ D.ph j t ∧ D.ph j t < D.cm j i + k then H t ||| D.sg j i else H t) (fun t ht => ⟨hf t ht, by
        show (if _ then _ else _) < _
        split
        · exact or16 (hH t ht) gl
        · exact hH t ht⟩) (by omega) (by omega)
      rw [Nat.zero_mul, Nat.add_zero] at r1
      rw [show nI (D.sg j i) = nI (D.sn (D.pp j i) (D.vw j)) from rfl, r1]
      unfold f_M_lookOut_B143
      simp only [nI_1, nI_add]
      refine ih (k + 1) g' (by omega) (by omega) (fun t ht => ?_)
      rw [r2 t ht]
      congr 1
      have iff := ph_iff I hj g (c := D.cm j i + k) (by omega) t
      rw [← Nat.add_assoc] at iff
      by_cases e : D.ph j t = D.cm j i + k
      · rw [if_pos ⟨by rw [Nat.zero_mul, Nat.add_zero, ← iff.mpr e]; exact Nat.mod_le _ _, iff.mpr e⟩, if_neg (by omega), if_pos (by omega)]
        rfl
      · rw [if_neg (fun q => e (iff.mp q.2))]
        by_cases d : D.cm j i ≤ D.ph j t ∧ D.ph j t < D.cm j i + k
        · rw [if_pos d, if_pos (by omega)]
        · rw [if_neg d, if_neg (by omega)]
theorem lo_legs (N : Nat) (hN : 61000 ≤ N) {D : Da} (I : DI D) {j J : Nat} (hj : j < D.w) (g : D.go j = true) (hk : D.kd j ≠ 3) (hJ : J ≤ 14400) (μ0 : Mm) (M : DM D μ0) (F : FA D.n (fw D.n D.len) (μ0.1 9)) (e31 : μ0.1 0 31 = nI J) (H : Nat → Nat) (hH : ∀ t, t < J → H t < 65536) : ∀ (m i : Nat) (f : Nat → Int32), i ≤ D.sz j → D.sz j < m + i → (∀ t : Nat, t < J → f t = nI (H t ||| D.lk j t i)) → ∃ f', f_M_lookOut_L65 N m (nI j) (nI (D.per j)) (nI (D.st j % D.per j + D.cm j i)) (nI i) (sA μ0 21 f) = some (sA μ0 21 f') ∧ ∀ t : Nat, t < J → f' t = nI (H t ||| D.vis j t) := by
  have h24 := I.sz24 hj
  have w8 := I.w8
  intro m
  induction m with
  | zero => intro i f h1 h2; omega
  | succ m ih =>
    intro i f h1 h2 hf
    have M1 : DM D (sA μ0 21 f) := (MFr.cell (by omega) μ0 f).dm M
    rw [f_M_lookOut_L65, if_pos (ixb_t (show j < 8 by omega) (show 8 < 2 ^ 31 by decide)), nI_clamp (show j < 2 ^ 31 by omega), M1.sz j hj]
    by_cases c : i = D.sz j
    · rw [if_pos (by rw [c]; exact nI_le (Nat.le_refl _) (by omega))]
      refine ⟨f, rfl, fun t ht => ?_⟩
      rw [hf t ht, c, lk_all I hj g hk]
    · have hi : i < D.sz j := by omega
      have pn := (Da.why0 ((Da.go_ok g).2.2.2 hk)).2.1 i hi
      rw [if_neg (nI_ge (by omega) (by omega)), M_post_eq N (by omega) (by omega), bnS, M1.pp j i hj hi, M_viewFrom_eq N (by omega) I hj pn _ M1 (by rw [sA_ne _ _ (by decide)]; exact F), bnS]
      obtain ⟨f', r1, r2⟩ := lo_rest N hN I hj g hk hi hJ μ0 M e31 (f_M_lookOut_L65 N m) (fun t => H t ||| D.lk j t i) (fun t ht => or16 (hH t ht) (D.lk_lt I.g j t i)) N 0 f (by omega) (by have := I.pr j i hj hi; omega) (fun t ht => by rw [hf t ht, if_neg (by omega)])
      rw [show D.sg j i = D.sn (D.pp j i) (D.vw j) from rfl, show nI 0 = (0 : Int32) from rfl] at r1
      rw [r1]
      refine ih (i + 1) f' (by omega) (by omega) (fun t ht => ?_)
      rw [r2 t ht]
      show nI _ = nI (H t ||| (D.lk j t i ||| _))
      rw [Nat.or_assoc]
theorem lo_guard (N : Nat) (hN : 61000 ≤ N) {D : Da} (I : DI D) {j J : Nat} (hj : j < D.w) (g : D.go j = true) (hk : D.kd j = 3) (hJ : J ≤ 14400) (μ0 : Mm) (M : DM D μ0) (F : FA D.n (fw D.n D.len) (μ0.1 9)) (e31 : μ0.1 0 31 = nI J) (H : Nat → Nat) (hH : ∀ t, t < J → H t < 65536) : ∀ (m t : Nat) (f : Nat → Int32), t ≤ J → J < m + t → (∀ x : Nat, x < J → f x = nI (if x < t then H x ||| D.sn (D.po j) (D.vw j) else H x)) → ∃ f', f_M_lookOut_L12 N m (nI j) (nI t) (sA μ0 21 f) = some (sA μ0 21 f') ∧ ∀ x : Nat, x < J → f' x = nI (H x ||| D.vis j x) := by
  have w8 := I.w8
  have pn := (Da.go_ok g).2.2.1 hk
  have gl := D.sn_lt I.g (D.po j) (D.vw j)
  intro m
  induction m with
  | zero => intro t f h1 h2; omega
  | succ m ih =>
    intro t f h1 h2 hf
    have M1 : DM D (sA μ0 21 f) := (MFr.cell (by omega) μ0 f).dm M
    have e0 : (sA μ0 21 f).1 0 31 = nI J := by rw [sA_ne _ _ (by decide)]; exact e31
    rw [f_M_lookOut_L12, e0]
    by_cases c : t = J
    · rw [if_pos (by rw [c]; exact nI_le (Nat.le_refl _) (by omega))]
      refine ⟨f, rfl, fun x hx => ?_⟩
      rw [hf x hx, if_pos (by omega)]
      unfold Da.vis
      rw [if_pos hk]
    · have ht : t < J := by omega
      have hb := hH t ht
      have hft : f t = nI (H t) := by rw [hf t ht, if_neg (by omega)]
      rw [if_neg (nI_ge (by omega) (by omega)), if_pos (ixb_t (show t < 14400 by omega) (by decide)), if_pos (ixb_t (show j < 8 by omega) (show 8 < 2 ^ 31 by decide)), nI_clamp (show j < 2 ^ 31 by omega), nI_clamp (show t < 2 ^ 31 by omega), M1.po j hj hk, M_viewFrom_eq N (by omega) I hj pn _ M1 (by rw [sA_ne _ _ (by decide)]; exact F), bnS, sAat, hft, orN (by omega) (by omega)]
      simp only [if_pos (ixb_t (show t < 14400 by omega) (show 14400 < 2 ^ 31 by decide)), nI_1, nI_add, sI_A]
      refine ih (t + 1) _ (by omega) (by omega) (fun x hx => ?_)
      rw [upd_at]
      by_cases e : x = t
      · rw [if_pos e, e, if_pos (by omega)]
      · rw [if_neg e, hf x hx]
        congr 1
        by_cases d : x < t
        · rw [if_pos d, if_pos (by omega)]
        · rw [if_neg d, if_neg (by omega)]
theorem M_lookOut_eq (N : Nat) (hN : 61000 ≤ N) {D : Da} (I : DI D) {j J : Nat} (hj : j < D.w) (g : D.go j = true) (hJ : J ≤ 14400) (μ0 : Mm) (M : DM D μ0) (F : FA D.n (fw D.n D.len) (μ0.1 9)) (e31 : μ0.1 0 31 = nI J) (H : Nat → Nat) (hH : ∀ t, t < J → H t < 65536) (f : Nat → Int32) (hf : ∀ t : Nat, t < J → f t = nI (H t)) : ∃ f', f_M_lookOut N (nI j) (sA μ0 21 f) = some (sA μ0 21 f') ∧ ∀ t : Nat, t < J → f' t = nI (H t ||| D.vis j t) := by
  have w8 := I.w8
  have h24 := I.sz24 hj
  have k3 := I.kd j hj
  have hp := I.per1 hj g
  have M1 : DM D (sA μ0 21 f) := (MFr.cell (by omega) μ0 f).dm M
  unfold f_M_lookOut
  rw [if_pos (ixb_t (show j < 8 by omega) (show 8 < 2 ^ 31 by decide)), nI_clamp (show j < 2 ^ 31 by omega), M1.kd j hj]
  by_cases c : D.kd j = 3
  · rw [if_pos (by rw [c]; rfl)]
    exact lo_guard N hN I hj g c hJ μ0 M F e31 H hH N 0 f (by omega) (by omega) (fun x hx => by rw [hf x hx, if_neg (by omega)])
  · have z0 := (Da.why0 ((Da.go_ok g).2.2.2 c)).1
    have s14 := I.st j hj z0
    rw [if_neg (show ¬ nI (D.kd j) = 3 from fun q => c ((nI_eq (b := 3) (by omega) (by decide)).mp q)), M_periodOf_eq N (by omega) I hj _ M1, bnS, if_pos (ixb_t (show j < 8 by omega) (show 8 < 2 ^ 31 by decide)), M1.st j hj z0]
    simp only []
    rw [if_neg (nI_ne0 (by omega) (by omega)), pk_rem (by omega) (by omega) (by omega)]
    exact lo_legs N hN I hj g c hJ μ0 M F e31 H hH N 0 f (by omega) (by omega) (fun t ht => by
      rw [hf t ht]
      show _ = nI (H t ||| 0)
      rw [Nat.or_zero])
theorem M_seen_walkers (N : Nat) (hN : 61000 ≤ N) {D : Da} (I : DI D) {L J : Nat} (hL : L < 256) (hJ : J ≤ 14400) (μ0 : Mm) (M : DM D μ0) (F : FA D.n (fw D.n D.len) (μ0.1 9)) (e31 : μ0.1 0 31 = nI J) (e27 : μ0.1 0 27 = nI L) : ∀ (m i : Nat) (f : Nat → Int32), i ≤ D.w → D.w < m + i → (∀ t : Nat, t < J → f t = nI (D.sa (D.goL L) t i)) → ∃ f', f_M_laySeen_L38 N m (nI i) (sA μ0 21 f) = some (1, sA μ0 21 f') ∧ ∀ t : Nat, t < J → f' t = nI (D.sa (D.goL L) t D.w) := by
  have w8 := I.w8
  intro m
  induction m with
  | zero => intro i f h1 h2; omega
  | succ m ih =>
    intro i f h1 h2 hf
    have M1 : DM D (sA μ0 21 f) := (MFr.cell (by omega) μ0 f).dm M
    rw [f_M_laySeen_L38, M1.w]
    by_cases c : i = D.w
    · rw [if_pos (by rw [c]; exact nI_le (Nat.le_refl _) (by omega))]
      exact ⟨f, rfl, fun t ht => by rw [hf t ht, c]⟩
    · have hi : i < D.w := by omega
      rw [if_neg (nI_ge (by omega) (by omega)), M_goes_eq N (by omega) I hL hi _ M1 (by rw [sA_ne _ _ (by decide)]; exact e27), bnS]
      unfold f_M_laySeen_B59
      simp only [nI_1, nI_add]
      by_cases g : D.goL L i = true
      · obtain ⟨f', r1, r2⟩ := M_lookOut_eq N hN I hi (goL_go g) hJ μ0 M F e31 (fun t => D.sa (D.goL L) t i) (fun t _ => D.sa_lt I.g _ _ _) f hf
        rw [if_neg (by rw [g]; decide), r1, bvS]
        refine ih (i + 1) f' (by omega) (by omega) (fun t ht => ?_)
        rw [r2 t ht, Da.sa, if_pos g]
      · have g' : D.goL L i = false := by simpa using g
        rw [if_pos (by rw [g']; decide)]
        refine ih (i + 1) f (by omega) (by omega) (fun t ht => ?_)
        rw [hf t ht, Da.sa, if_neg g, Nat.or_zero]
theorem M_seen_clear (N : Nat) {J : Nat} (hJ : J ≤ 14400) (μ0 : Mm) (e31 : μ0.1 0 31 = nI J) : ∀ (m t : Nat) (f : Nat → Int32), t ≤ J → J < m + t → (∀ x, x < t → f x = 0) → ∃ f', f_M_laySeen_L15 N m (nI t) (sA μ0 21 f) = f_M_laySeen_B36 N (sA μ0 21 f') ∧ ∀ x, x < J → f' x = 0 := by
  intro m
  induction m with
  | zero => intro t f h1 h2; omega
  | succ m ih =>
    intro t f h1 h2 hf
    have e0 : (sA μ0 21 f).1 0 31 = nI J := by rw [sA_ne _ _ (by decide)]; exact e31
    rw [f_M_laySeen_L15, e0]
    by_cases c : t = J
    · rw [if_pos (by rw [c]; exact nI_le (Nat.le_refl _) (by omega))]
      exact ⟨f, rfl, fun x hx => hf x (by omega)⟩
    · rw [if_neg (nI_ge (by omega) (by omega)), if_pos (ixb_t (show t < 14400 by omega) (by decide)), nI_clamp (show t < 2 ^ 31 by omega)]
      simp only [nI_1, nI_add, sI_A]
      refine ih (t + 1) _ (by omega) (by omega) (fun x hx => ?_)
      rw [upd_at]
      by_cases e : x = t
      · rw [if_pos e]
      · rw [if_neg e]; exact hf x (by omega)
/-- the table is laid; or the joint time is spent -/
theorem M_laySeen_eq (N : Nat) (hN : 61000 ≤ N) {D : Da} (I : DI D) {L : Nat} (hL : L < 256) (μ : Mm) (M : DM D μ) (e27 : μ.1 0 27 = nI L) : (14400 < D.jn (D.goL L) D.w ∧ ∃ μ', f_M_laySeen N μ = some (0, μ') ∧ MFr μ μ') ∨ (D.jn (D.goL L) D.w ≤ 14400 ∧ ∃ μ', f_M_laySeen N μ = some (1, μ') ∧ MFr μ μ' ∧ μ'.1 0 31 = nI (D.jn (D.goL L) D.w) ∧ FA D.n (fw D.n D.len) (μ'.1 9) ∧ ∀ t : Nat, t < D.jn (D.goL L) D.w → μ'.1 21 t = nI (D.sa (D.goL L) t D.w)) := by
  unfold f_M_laySeen
  rw [M_layJoint_eq N (by omega) I hL μ M e27, bnS]
  have f1 := MFr.fld (f := 31) (by decide) μ (nI (if D.jn (D.goL L) D.w ≤ 14400 then D.jn (D.goL L) D.w else 0))
  by_cases c : D.jn (D.goL L) D.w ≤ 14400
  · right
    refine ⟨c, ?_⟩
    rw [decide_eq_true c, if_neg (by decide)]
    rw [if_pos c] at f1 ⊢
    obtain ⟨g, eg, G⟩ := M_layFars_eq N D I.g (by omega) _ (f1.dm M)
    rw [eg, bvS]
    have f2 := f1.trans (MFr.cell (Or.inl rfl) _ g)
    generalize hμ : sA (sI μ 0 31 (nI (D.jn (D.goL L) D.w))) 9 g = μ0 at f2
    have e31 : μ0.1 0 31 = nI (D.jn (D.goL L) D.w) := by rw [← hμ, sA_ne _ _ (by decide), sI_at, upd_eq]
    have F : FA D.n (fw D.n D.len) (μ0.1 9) := by rw [← hμ, sAat]; exact G
    obtain ⟨f', r1, r2⟩ := M_seen_clear N c μ0 e31 N 0 (μ0.1 21) (by omega) (by omega) (fun x h => by omega)
    rw [sA_id, show nI 0 = (0 : Int32) from rfl] at r1
    rw [r1]
    unfold f_M_laySeen_B36
    obtain ⟨f'', s1, s2⟩ := M_seen_walkers N hN I hL c μ0 (f2.dm M) F e31 (by rw [f2.1 27 (by omega)]; exact e27) N 0 f' (by omega) (by have := I.w8; omega) (fun t ht => r2 t ht)
    refine ⟨_, s1, f2.trans (MFr.cell (by omega) _ _), by rw [sA_ne _ _ (by decide)]; exact e31, by rw [sA_ne _ _ (by decide)]; exact F, fun t ht => by rw [sAat]; exact s2 t ht⟩
  · left
    refine ⟨by omega, ?_⟩
    rw [decide_eq_false c, if_pos (by decide)]
    exact ⟨_, rfl, f1⟩
