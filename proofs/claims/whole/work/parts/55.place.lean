/-! PURE 35: rests of divisions, ways within a round, where a walker is -/
def zI (z : Int) : Int32 := Int32.ofInt z
theorem zI_toInt {z : Int} (h1 : -2 ^ 31 ≤ z) (h2 : z < 2 ^ 31) : (zI z).toInt = z := Int32.toInt_ofInt_of_le h1 h2
theorem zI_of (x : Int32) : x = zI x.toInt := (Int32.ofInt_toInt x).symm
theorem zI_add (a b : Int) : zI a + zI b = zI (a + b) := (Int32.ofInt_add a b).symm
theorem zI_sub (a b : Int) : zI a - zI b = zI (a - b) := (Int32.ofInt_sub a b).symm
theorem zI_mul (a b : Int) : zI a * zI b = zI (a * b) := (Int32.ofInt_mul a b).symm
theorem zI_div {a b : Int} (a1 : -2 ^ 31 ≤ a) (a2 : a < 2 ^ 31) (b1 : -2 ^ 31 ≤ b) (b2 : b < 2 ^ 31) : zI a / zI b = zI (a.tdiv b) := (Int32.ofInt_tdiv a1 (by rw [show Int32.maxValue.toInt = 2 ^ 31 - 1 from rfl]; omega) b1 (by rw [show Int32.maxValue.toInt = 2 ^ 31 - 1 from rfl]; omega)).symm
theorem zI_rem {a b : Int} (a1 : -2 ^ 31 ≤ a) (a2 : a < 2 ^ 31) (b1 : -2 ^ 31 ≤ b) (b2 : b < 2 ^ 31) : zI a - zI a / zI b * zI b = zI (a.tmod b) := by
  rw [zI_div a1 a2 b1 b2, zI_mul, zI_sub]
  congr 1
  have := Int.mul_tdiv_add_tmod a b
  rw [Int.mul_comm] at this
  omega
theorem xor_neg (x y : Int32) : x ^^^ y < 0 ↔ ¬ (x < 0 ↔ y < 0) := by
  have h : ∀ z : Int32, z < 0 ↔ z.toBitVec.msb = true := fun z => by
    rw [Int32.lt_iff_toInt_lt, show (0 : Int32).toInt = 0 from rfl, BitVec.msb_eq_toInt]
    simp
  rw [h, h, h, Int32.toBitVec_xor, BitVec.msb_xor]
  cases x.toBitVec.msb <;> cases y.toBitVec.msb <;> decide
theorem xor64 (x y : Int64) : x ^^^ y < 0 ↔ ¬ (x < 0 ↔ y < 0) := by
  have h : ∀ z : Int64, z < 0 ↔ z.toBitVec.msb = true := fun z => by
    rw [Int64.lt_iff_toInt_lt, show (0 : Int64).toInt = 0 from rfl, BitVec.msb_eq_toInt]
    simp
  rw [h, h, h, Int64.toBitVec_xor, BitVec.msb_xor]
  cases x.toBitVec.msb <;> cases y.toBitVec.msb <;> decide
theorem tmod_emod {a b : Int} (hb : 0 < b) : a % b = if a.tmod b < 0 then a.tmod b + b else a.tmod b := by
  rw [Int.emod_eq_tmod] 
  have h1 := Int.tmod_lt_of_pos a hb
  by_cases c : 0 ≤ a
  · have := Int.tmod_nonneg b c
    rw [if_pos (Or.inl c), if_neg (by omega)]; omega
  · by_cases d : b ∣ a
    · have := Int.tmod_eq_zero_of_dvd d
      rw [if_pos (Or.inr d), this, if_neg (by omega)]; omega
    · rw [if_neg (by simp [c, d])]
      have : a.tmod b ≤ 0 := by
        have := Int.tmod_nonneg b (a := -a) (by omega)
        rw [Int.neg_tmod] at this
        omega
      have : a.tmod b ≠ 0 := fun q => d (Int.dvd_of_tmod_eq_zero q)
      rw [if_pos (by omega)]
      omega
theorem zI_n (n : Nat) : nI n = zI n := rfl
theorem Jfmod (N : Nat) {z : Int} {p : Nat} (h1 : -2 ^ 31 ≤ z) (h2 : z < 2 ^ 31) (hp : 0 < p) (hp2 : p < 2 ^ 30) (μ : Mm) : f_Jm_floorMod_7cf53 N (zI z) (nI p) μ = some (nI (z % (p : Int)).toNat, μ) := by
  unfold f_Jm_floorMod_7cf53
  rw [if_neg (nI_ne0 hp (by omega)), zI_n p, zI_rem h1 h2 (by omega) (by omega)]
  have hb : (0 : Int) < p := by omega
  have e := tmod_emod (a := z) hb
  have t1 := Int.tmod_lt_of_pos z hb
  have t2 : -(p : Int) < z.tmod p := by
    have := Int.tmod_lt_of_pos (-z) hb
    rw [Int.neg_tmod] at this
    omega
  have tm : (zI (z.tmod p)).toInt = z.tmod p := zI_toInt (by omega) (by omega)
  have nn := Int.emod_nonneg z (show (p : Int) ≠ 0 by omega)
  have pos : ¬ zI (p : Int) < 0 := fun q => by
    have := lt_I.mp q
    rw [zI_toInt (by omega) (by omega), show (0 : Int32).toInt = 0 from rfl] at this
    omega
  have xr := xor_neg (zI z) (zI p)
  have zn : zI z < 0 ↔ z < 0 := by
    rw [lt_I, zI_toInt h1 h2, show (0 : Int32).toInt = 0 from rfl]
  simp only []
  have fin : nI (z % (p : Int)).toNat = zI (z % (p : Int)) := by
    rw [zI_n, Int.toNat_of_nonneg nn]
  rw [fin, e]
  by_cases c : z < 0
  · rw [if_neg (fun q => absurd (xr.mpr (fun r => pos (r.mp (zn.mpr c)))) (by rw [lt_I]; have := le_I.mp q; omega))]
    by_cases c2 : z.tmod p = 0
    · rw [if_pos (by rw [c2]; rfl), if_neg (by omega)]
    · rw [if_neg (fun q => c2 (by rw [← tm, q]; rfl)), zI_add, if_pos]
      have : z.tmod p ≤ 0 := by
        have := Int.tmod_nonneg (p : Int) (a := -z) (by omega)
        rw [Int.neg_tmod] at this
        omega
      omega
  · rw [if_pos (by
      have : ¬ (zI z ^^^ zI (p : Int) < 0) := fun q => (xr.mp q) ⟨fun r => absurd (zn.mp r) c, fun r => absurd r pos⟩
      rw [lt_I] at this
      rw [le_I]; omega)]
    have := Int.tmod_nonneg (p : Int) (a := z) (by omega)
    rw [if_neg (by omega)]
/-- how far into its round -/
def Da.ph (D : Da) (j : Nat) (t : Int) : Nat := ((t - D.st j) % (D.per j : Int)).toNat
theorem DI.ph_lt {D : Da} (I : DI D) {j : Nat} (hj : j < D.w) (g : D.go j = true) (t : Int) : D.ph j t < D.per j := by
  have h := (I.per1 hj g).1
  unfold Da.ph
  have h1 := Int.emod_lt_of_pos (t - D.st j) (show (0 : Int) < D.per j by omega)
  have h2 := Int.emod_nonneg (t - D.st j) (show (D.per j : Int) ≠ 0 by omega)
  omega
/-- the last leg that has begun -/
def Da.la (D : Da) (j x : Nat) : Nat → Nat
  | 0 => 0
  | i + 1 => if D.cm j i ≤ x then i else D.la j x i
theorem Da.la_spec (D : Da) (j x : Nat) : ∀ n, 1 ≤ n → D.la j x n < n ∧ D.cm j (D.la j x n) ≤ x ∧ ∀ i, D.la j x n < i → i < n → x < D.cm j i
  | 0, h => by omega
  | n + 1, _ => by
    unfold Da.la
    by_cases c : D.cm j n ≤ x
    · rw [if_pos c]
      exact ⟨by omega, c, fun i h1 h2 => by omega⟩
    · rw [if_neg c]
      by_cases n0 : n = 0
      · subst n0
        exact absurd (Nat.zero_le x) c
      · obtain ⟨a, b, d⟩ := D.la_spec j x n (by omega)
        refine ⟨by omega, b, fun i h1 h2 => ?_⟩
        by_cases e : i = n
        · subst e; omega
        · exact d i h1 (by omega)
/-- the leg of a phase -/
def Da.lf (D : Da) (j x : Nat) : Nat := D.la j x (D.sz j)
theorem Da.cm_mono (D : Da) (j : Nat) {a b : Nat} (h : a ≤ b) : D.cm j a ≤ D.cm j b := by
  induction b with
  | zero => have : a = 0 := by omega
            subst this; exact Nat.le_refl _
  | succ b ih =>
    by_cases c : a = b + 1
    · subst c; exact Nat.le_refl _
    · have := ih (by omega)
      show D.cm j a ≤ D.cm j b + D.lt j b
      omega
theorem Da.lf_spec {D : Da} {j x : Nat} (h0 : D.sz j ≠ 0) (hx : x < D.cm j (D.sz j)) : D.lf j x < D.sz j ∧ D.cm j (D.lf j x) ≤ x ∧ x < D.cm j (D.lf j x + 1) := by
  obtain ⟨a, b, d⟩ := D.la_spec j x (D.sz j) (by omega)
  refine ⟨a, b, ?_⟩
  by_cases c : D.lf j x + 1 = D.sz j
  · rw [c]; exact hx
  · exact d _ (Nat.lt_succ_self _) (by have : D.lf j x < D.sz j := a; omega)
theorem Da.lf_one {D : Da} {j x i : Nat} (hi : i < D.sz j) (h1 : D.cm j i ≤ x) (h2 : x < D.cm j (i + 1)) : D.lf j x = i := by
  have hx : x < D.cm j (D.sz j) := Nat.lt_of_lt_of_le h2 (D.cm_mono j (by omega))
  obtain ⟨a, b, d⟩ := Da.lf_spec (D := D) (j := j) (by omega) hx
  rcases Nat.lt_trichotomy (D.lf j x) i with c | c | c
  · have := D.cm_mono j (show D.lf j x + 1 ≤ i by omega)
    omega
  · exact c
  · have := D.cm_mono j (show i + 1 ≤ D.lf j x by omega)
    omega
theorem Wk_phaseAt_eq (N : Nat) {D : Da} (I : DI D) {j : Nat} (hj : j < D.w) (g : D.go j = true) (hk : D.kd j ≠ 3) {t : Int} (h1 : -2 ^ 30 ≤ t) (h2 : t < 2 ^ 30) (μ : Mm) (X : DX D μ) (C : CrewOk D μ) : f_Wk_phaseAt N j (zI t) μ = some (nI (D.ph j t), μ) := by
  have z0 := (Da.why0 ((Da.go_ok g).2.2.2 hk)).1
  have s1 := I.st j hj z0
  have p1 := I.per1 hj g
  unfold f_Wk_phaseAt
  rw [X.st j hj z0, (C.2 j hj g).1, zI_n (D.st j), zI_sub, Jfmod N (by omega) (by omega) (by omega) (by omega)]
  rfl
theorem Wk_leg_loop (N : Nat) {D : Da} (I : DI D) {j x : Nat} (hj : j < D.w) (g : D.go j = true) (hk : D.kd j ≠ 3) (hx : x < D.cm j (D.sz j)) (μ : Mm) (X : DX D μ) (C : CrewOk D μ) : ∀ (m l : Nat), l ≤ D.lf j x → D.lf j x < m + l → f_Wk_legAt_L2 N j m (nI x) (nI l) μ = some (nI (D.lf j x), μ) := by
  have h24 := I.sz24 hj
  have z0 := (Da.why0 ((Da.go_ok g).2.2.2 hk)).1
  have c46 := I.cm_46 hj (Nat.le_refl (D.sz j))
  obtain ⟨a, b, d⟩ := Da.lf_spec (D := D) (j := j) z0 hx
  have com := ((C.2 j hj g).2.2 hk).1
  intro m
  induction m with
  | zero => intro l h1 h2; omega
  | succ m ih =>
    intro l h1 h2
    rw [f_Wk_legAt_L2, X.sz j hj, show (1 : Int32) = nI 1 from rfl, nI_add]
    by_cases c : D.sz j ≤ l + 1
    · rw [if_pos (nI_le c (by omega)), show l = D.lf j x by omega]
    · have cl := I.cm_46 hj (show l + 1 ≤ D.sz j by omega)
      rw [if_neg (nI_ge (by omega) (by omega))]
      simp only [if_pos (ixb_t (show l + 1 < 25 by omega) (by decide)), nI_clamp (show l + 1 < 2 ^ 31 by omega), com (l + 1) (by omega)]
      by_cases e : l = D.lf j x
      · rw [if_pos (nI_lt (by rw [e]; exact d) (by omega)), e]
      · have := D.cm_mono j (show l + 1 ≤ D.lf j x by omega)
        rw [if_neg (nI_nlt (by omega) (by omega))]
        exact ih (l + 1) (by omega) (by omega)
theorem Wk_legAt_eq (N : Nat) (hN : 30 ≤ N) {D : Da} (I : DI D) {j x : Nat} (hj : j < D.w) (g : D.go j = true) (hk : D.kd j ≠ 3) (hx : x < D.cm j (D.sz j)) (μ : Mm) (X : DX D μ) (C : CrewOk D μ) : f_Wk_legAt N j (nI x) μ = some (nI (D.lf j x), μ) := by
  have h24 := I.sz24 hj
  have z0 := (Da.why0 ((Da.go_ok g).2.2.2 hk)).1
  obtain ⟨a, b, d⟩ := Da.lf_spec (D := D) (j := j) z0 hx
  exact Wk_leg_loop N I hj g hk hx μ X C N 0 (by omega) (by omega)
/-- the post a walker is at or came from, the one it goes to, how long it has been on its way -/
def Da.hl (D : Da) (j : Nat) (t : Int) : Nat := D.lf j (D.ph j t)
def Da.hr (D : Da) (j : Nat) (t : Int) : Bool := decide (D.kd j = 3) || decide (D.ph j t ≤ D.cm j (D.hl j t) + D.pr j (D.hl j t))
def Da.hp (D : Da) (j : Nat) (t : Int) : Nat := if D.kd j = 3 then D.po j else D.pp j (D.hl j t)
def Da.hn (D : Da) (j : Nat) (t : Int) : Nat := if D.kd j = 3 then D.po j else if D.hr j t = true then D.pp j (D.hl j t) else D.pp j (nx (D.sz j) (D.hl j t))
def Da.hg (D : Da) (j : Nat) (t : Int) : Nat := if D.hr j t = true then 0 else D.ph j t - (D.cm j (D.hl j t) + D.pr j (D.hl j t))
theorem DI.hl_spec {D : Da} (I : DI D) {j : Nat} (hj : j < D.w) (g : D.go j = true) (hk : D.kd j ≠ 3) (t : Int) : D.hl j t < D.sz j ∧ D.cm j (D.hl j t) ≤ D.ph j t ∧ D.ph j t < D.cm j (D.hl j t + 1) := by
  have z0 := (Da.why0 ((Da.go_ok g).2.2.2 hk)).1
  have hp := I.ph_lt hj g t
  have : D.per j = D.cm j (D.sz j) := by unfold Da.per; rw [if_neg hk]
  exact Da.lf_spec z0 (by omega)
theorem Wk_placeAt_eq (N : Nat) (hN : 30 ≤ N) {D : Da} (I : DI D) {j : Nat} (hj : j < D.w) (g : D.go j = true) {t : Int} (h1 : -2 ^ 30 ≤ t) (h2 : t < 2 ^ 30) {z : Nat} (hz : z < 3) (μ : Mm) (X : DX D μ) (C : CrewOk D μ) : f_Wk_placeAt N j (zI t) (nI z) μ = some (nI (if z = 0 then D.hp j t else if z = 1 then D.hn j t else D.hg j t), μ) := by
  have h24 := I.sz24 hj
  have k3 := I.kd j hj
  unfold f_Wk_placeAt
  rw [X.kd j hj]
  by_cases c : D.kd j = 3
  · rw [if_pos (by rw [c]; rfl), X.po j hj c]
    have r : D.hr j t = true := by unfold Da.hr; rw [decide_eq_true c]; rfl
    have e1 : D.hp j t = D.po j := by unfold Da.hp; rw [if_pos c]
    have e2 : D.hn j t = D.po j := by unfold Da.hn; rw [if_pos c]
    have e3 : D.hg j t = 0 := by unfold Da.hg; rw [if_pos r]
    rw [e1, e2, e3]
    rcases (show z = 0 ∨ z = 1 ∨ z = 2 by omega) with rfl | rfl | rfl
    · rw [if_neg (by decide), if_pos rfl]
    · rw [if_neg (by decide), if_neg (by decide), if_pos rfl]
    · rw [if_pos (by decide), if_neg (by decide), if_neg (by decide)]; rfl
  · have hp := I.ph_lt hj g t
    have pe : D.per j = D.cm j (D.sz j) := by unfold Da.per; rw [if_neg c]
    obtain ⟨a, b, d⟩ := I.hl_spec hj g c t
    have c46 := I.cm_46 hj (Nat.le_refl (D.sz j))
    have cl := I.cm_46 hj (show D.hl j t ≤ D.sz j by omega)
    have pl := I.pr j _ hj a
    have nl : nx (D.sz j) (D.hl j t) < D.sz j := by unfold nx; split <;> omega
    rw [if_neg (show ¬ nI (D.kd j) = 3 from fun q => c ((nI_eq (b := 3) (by omega) (by decide)).mp q)), Wk_phaseAt_eq N I hj g c h1 h2 μ X C]
    simp only [bnS]
    rw [Wk_legAt_eq N hN I hj g c (by omega) μ X C]
    simp only [bnS]
    rw [show D.lf j (D.ph j t) = D.hl j t from rfl, if_pos (ixb_t (show D.hl j t < 24 by omega) (by decide)), nI_clamp (show D.hl j t < 2 ^ 31 by omega), (((C.2 j hj g).2.2 c).2 _ a).1]
    have e1 : D.hp j t = D.pp j (D.hl j t) := by unfold Da.hp; rw [if_neg c]
    rw [e1]
    unfold f_Wk_placeAt_B51
    by_cases r : D.ph j t ≤ D.cm j (D.hl j t) + D.pr j (D.hl j t)
    · have hr : D.hr j t = true := by unfold Da.hr; rw [decide_eq_true r, Bool.or_true]
      have e2 : D.hn j t = D.pp j (D.hl j t) := by unfold Da.hn; rw [if_neg c, if_pos hr]
      have e3 : D.hg j t = 0 := by unfold Da.hg; rw [if_pos hr]
      rw [if_neg (nI_nlt r (by omega)), e2, e3]
      simp only [if_pos (ixb_t (show D.hl j t < 24 by omega) (by decide)), nI_clamp (show D.hl j t < 2 ^ 31 by omega)]
      rcases (show z = 0 ∨ z = 1 ∨ z = 2 by omega) with rfl | rfl | rfl
      · rw [if_pos (by decide), if_pos rfl, X.pp j _ hj a]
      · rw [if_neg (by decide), if_pos (by decide), if_neg (by decide), if_neg (by decide), if_pos rfl, X.pp j _ hj a]
      · rw [if_neg (by decide), if_neg (by decide), if_neg (by decide), if_neg (by decide), if_neg (by decide)]; rfl
    · have hr : ¬ D.hr j t = true := by unfold Da.hr; rw [decide_eq_false r, decide_eq_false c]; decide
      have e2 : D.hn j t = D.pp j (nx (D.sz j) (D.hl j t)) := by unfold Da.hn; rw [if_neg c, if_neg hr]
      have e3 : D.hg j t = D.ph j t - (D.cm j (D.hl j t) + D.pr j (D.hl j t)) := by unfold Da.hg; rw [if_neg hr]
      rw [if_pos (nI_lt (by omega) (by omega)), e2, e3]
      simp only [if_pos (ixb_t (show D.hl j t < 24 by omega) (by decide)), nI_clamp (show D.hl j t < 2 ^ 31 by omega)]
      rcases (show z = 0 ∨ z = 1 ∨ z = 2 by omega) with rfl | rfl | rfl
      · rw [if_pos (by decide), if_pos rfl, X.pp j _ hj a]
      · rw [if_neg (by decide), if_pos (by decide), if_pos (by decide), if_neg (by decide), if_pos rfl, Wk_legBehind_eq N I hj a μ X, bnS, if_pos (ixb_t (show nx (D.sz j) (D.hl j t) < 24 by omega) (by decide)), nI_clamp (show nx (D.sz j) (D.hl j t) < 2 ^ 31 by omega), X.pp j _ hj nl]
      · rw [if_neg (by decide), if_neg (by decide), if_pos (by decide), if_neg (by decide), if_neg (by decide), (((C.2 j hj g).2.2 c).2 _ a).1, pk_sub (by omega)]
/-- what finding a walker leaves as it was -/
def FFr (μ μ' : Mm) : Prop := (∀ c, c ≠ 0 → μ'.1 c = μ.1 c) ∧ (∀ f, f < 28 ∨ 30 < f → μ'.1 0 f = μ.1 0 f) ∧ μ'.2 = μ.2
theorem FFr.refl (μ : Mm) : FFr μ μ := ⟨fun _ _ => rfl, fun _ _ => rfl, rfl⟩
theorem FFr.trans {μ μ' μ'' : Mm} (a : FFr μ μ') (b : FFr μ' μ'') : FFr μ μ'' := ⟨fun c h => (b.1 c h).trans (a.1 c h), fun f h => (b.2.1 f h).trans (a.2.1 f h), b.2.2.trans a.2.2⟩
theorem FFr.fld {f : Nat} (h : 28 ≤ f) (h' : f ≤ 30) (μ : Mm) (v : Int32) : FFr μ (sI μ 0 f v) := ⟨fun c hc => sI_ne _ _ _ hc, fun g hg => by rw [sI_at, upd_ne _ _ (by omega)], rfl⟩
theorem FFr.mfr {μ μ' : Mm} (a : FFr μ μ') : MFr μ μ' := ⟨fun f h => a.2.1 f (by omega), fun c h => a.1 c (by omega), fun f _ => by rw [a.2.2]⟩
theorem M_find_loop (N : Nat) {D : Da} (I : DI D) {j x : Nat} (hj : j < D.w) (g : D.go j = true) (hk : D.kd j ≠ 3) (hx : x < D.cm j (D.sz j)) : ∀ (m l : Nat) (μ : Mm), DM D μ → μ.1 0 30 = 0 → l ≤ D.lf j x → D.lf j x + 1 < m + l → ∃ μ', f_M_find_L76 N m (nI j) (nI (x - D.cm j l)) (nI l) 0 μ = some μ' ∧ FFr μ μ' ∧ μ'.1 0 28 = nI (D.pp j (D.lf j x)) ∧ μ'.1 0 29 = nI (if x ≤ D.cm j (D.lf j x) + D.pr j (D.lf j x) then D.pp j (D.lf j x) else D.pp j (nx (D.sz j) (D.lf j x))) ∧ μ'.1 0 30 = nI (if x ≤ D.cm j (D.lf j x) + D.pr j (D.lf j x) then 0 else x - (D.cm j (D.lf j x) + D.pr j (D.lf j x))) := by
  have h24 := I.sz24 hj
  have w8 := I.w8
  have z0 := (Da.why0 ((Da.go_ok g).2.2.2 hk)).1
  have c46 := I.cm_46 hj (Nat.le_refl (D.sz j))
  obtain ⟨a, b, d⟩ := Da.lf_spec (D := D) (j := j) z0 hx
  intro m
  induction m with
  | zero => intro l μ _ _ h1 h2; omega
  | succ m ih =>
    intro l μ X h30 h1 h2
    have hl : l < D.sz j := by omega
    have cml := D.cm_mono j h1
    have lt1 : D.cm j (l + 1) = D.cm j l + (D.pr j l + D.un j * D.ln j l) := rfl
    have un := I.un10 hj hk
    have lnp : 1 ≤ D.ln j l := by
      have := (Da.why0 ((Da.go_ok g).2.2.2 hk)).2.2 l hl
      unfold Da.ln; omega
    have wp : 10 * 1 ≤ D.un j * D.ln j l := Nat.mul_le_mul un lnp
    have w46 := I.cm_46 hj (show l + 1 ≤ D.sz j by omega)
    have pql := D.pq_lt I hj hl
    have X1 : ∀ v, DM D (sI μ 0 28 v) := fun v => (FFr.fld (by decide) (by decide) μ v).mfr.dm X
    rw [f_M_find_L76, if_pos rfl, M_pr_eq N I hj hl μ X]
    simp only [bnS, if_pos (ixb_t pql (show 256 < 2 ^ 31 by decide)), nI_clamp (show D.pq j l < 2 ^ 31 by omega), X.ln I hj hl, M_unitOf_eq N I hj μ X, pk_mul, M_post_eq N (show j < 8 by omega) (show l < 24 by omega), X.pp j l hj hl, M_rest_eq N (show j < 8 by omega) (show l < 24 by omega), (X1 _).pr j l hj hl]
    have mc : D.ln j l * D.un j = D.un j * D.ln j l := Nat.mul_comm _ _
    unfold f_M_find_B211
    by_cases c1 : x - D.cm j l ≤ D.pr j l
    · have el : l = D.lf j x := by
        rcases Nat.lt_or_ge l (D.lf j x) with q | q
        · have := D.cm_mono j (show l + 1 ≤ D.lf j x by omega)
          omega
        · omega
      rw [if_neg (nI_nlt c1 (by omega))]
      obtain ⟨m, rfl⟩ : ∃ m', m = m' + 1 := ⟨m - 1, by omega⟩
      rw [f_M_find_L76, if_neg (by decide)]
      have xle : x ≤ D.cm j (D.lf j x) + D.pr j (D.lf j x) := by rw [← el]; omega
      rw [if_pos xle, if_pos xle, ← el]
      refine ⟨_, rfl, (FFr.fld (by decide) (by decide) μ _).trans (FFr.fld (by decide) (by decide) _ _), ?_, ?_, ?_⟩
      · rw [sI_at, upd_ne _ _ (by decide), sI_at, upd_eq]
      · rw [sI_at, upd_eq, sI_at, upd_eq]
      · rw [sI_at, upd_ne _ _ (by decide), sI_at, upd_ne _ _ (by decide), h30]; rfl
    · rw [if_pos (nI_lt (by omega) (by omega)), nI_add, mc]
      by_cases c2 : D.pr j l + D.un j * D.ln j l ≤ x - D.cm j l
      · have ll : l + 1 ≤ D.lf j x := by
          rcases Nat.lt_or_ge l (D.lf j x) with q | q
          · exact q
          · have e : l = D.lf j x := by omega
            rw [← e] at d
            omega
        rw [if_pos (nI_le c2 (by omega)), pk_sub c2, show (1 : Int32) = nI 1 from rfl, nI_add, show x - D.cm j l - (D.pr j l + D.un j * D.ln j l) = x - D.cm j (l + 1) by omega]
        obtain ⟨μ', r1, r2, r3, r4, r5⟩ := ih (l + 1) (sI μ 0 28 (nI (D.pp j l))) (X1 _) (by rw [sI_at, upd_ne _ _ (by decide), h30]) ll (by omega)
        exact ⟨μ', r1, (FFr.fld (by decide) (by decide) μ _).trans r2, r3, r4, r5⟩
      · have el : l = D.lf j x := by
          rcases Nat.lt_or_ge l (D.lf j x) with q | q
          · have := D.cm_mono j (show l + 1 ≤ D.lf j x by omega)
            omega
          · omega
        have nl : nx (D.sz j) l < D.sz j := by unfold nx; split <;> omega
        have s17 : (sI μ 0 28 (nI (D.pp j l))).1 17 j = nI (D.sz j) := (X1 _).sz j hj
        rw [if_neg (nI_ge (by omega) (by omega)), if_pos (ixb_t (show j < 8 by omega) (show 8 < 2 ^ 31 by decide)), nI_clamp (show j < 2 ^ 31 by omega), s17, show (1 : Int32) = nI 1 from rfl, nI_add, if_neg (nI_ne0 (by omega) (by omega)), M_rem_nx hl h24, M_post_eq N (show j < 8 by omega) (show nx (D.sz j) l < 24 by omega), bnS, (X1 _).pp j _ hj nl]
        have X2 : DM D (sI (sI μ 0 28 (nI (D.pp j l))) 0 29 (nI (D.pp j (nx (D.sz j) l)))) := (FFr.fld (by decide) (by decide) _ _).mfr.dm (X1 _)
        rw [X2.pr j l hj hl, pk_sub (by omega)]
        obtain ⟨m, rfl⟩ : ∃ m', m = m' + 1 := ⟨m - 1, by omega⟩
        rw [f_M_find_L76, if_neg (by decide)]
        have xle : ¬ x ≤ D.cm j (D.lf j x) + D.pr j (D.lf j x) := by rw [← el]; omega
        rw [if_neg xle, if_neg xle, ← el]
        refine ⟨_, rfl, ((FFr.fld (by decide) (by decide) μ _).trans (FFr.fld (by decide) (by decide) _ _)).trans (FFr.fld (by decide) (by decide) _ _), ?_, ?_, ?_⟩
        · rw [sI_at, upd_ne _ _ (by decide), sI_at, upd_ne _ _ (by decide), sI_at, upd_eq]
        · rw [sI_at, upd_ne _ _ (by decide), sI_at, upd_eq]
        · rw [sI_at, upd_eq, show x - D.cm j l - D.pr j l = x - (D.cm j l + D.pr j l) by omega]
theorem M_find_eq (N : Nat) (hN : 30 ≤ N) {D : Da} (I : DI D) {j : Nat} (hj : j < D.w) (g : D.go j = true) {t : Int} (h1 : -2 ^ 30 ≤ t) (h2 : t < 2 ^ 30) (μ : Mm) (X : DM D μ) : ∃ μ', f_M_find N (nI j) (zI t) μ = some μ' ∧ FFr μ μ' ∧ μ'.1 0 28 = nI (D.hp j t) ∧ μ'.1 0 29 = nI (D.hn j t) ∧ μ'.1 0 30 = nI (D.hg j t) := by
  have h24 := I.sz24 hj
  have w8 := I.w8
  have k3 := I.kd j hj
  have f1 := FFr.fld (f := 30) (by decide) (by decide) μ 0
  have X1 : DM D (sI μ 0 30 0) := f1.mfr.dm X
  unfold f_M_find
  simp only [if_pos (ixb_t (show j < 8 by omega) (show 8 < 2 ^ 31 by decide)), nI_clamp (show j < 2 ^ 31 by omega), X1.kd j hj]
  by_cases c : D.kd j = 3
  · have r : D.hr j t = true := by unfold Da.hr; rw [decide_eq_true c]; rfl
    have e1 : D.hp j t = D.po j := by unfold Da.hp; rw [if_pos c]
    have e2 : D.hn j t = D.po j := by unfold Da.hn; rw [if_pos c]
    have e3 : D.hg j t = 0 := by unfold Da.hg; rw [if_pos r]
    have X3 : ∀ v, DM D (sI (sI μ 0 30 0) 0 28 v) := fun v => (FFr.fld (by decide) (by decide) _ v).mfr.dm X1
    rw [if_pos (by rw [c]; rfl), X1.po j hj c, (X3 _).po j hj c, e1, e2, e3]
    refine ⟨_, rfl, (f1.trans (FFr.fld (by decide) (by decide) _ _)).trans (FFr.fld (by decide) (by decide) _ _), ?_, ?_, ?_⟩
    · rw [sI_at, upd_ne _ _ (by decide), sI_at, upd_eq]
    · rw [sI_at, upd_eq]
    · rw [sI_at, upd_ne _ _ (by decide), sI_at, upd_ne _ _ (by decide), sI_at, upd_eq]; rfl
  · have z0 := (Da.why0 ((Da.go_ok g).2.2.2 c)).1
    have s1 := I.st j hj z0
    have p1 := I.per1 hj g
    have hp := I.ph_lt hj g t
    have pe : D.per j = D.cm j (D.sz j) := by unfold Da.per; rw [if_neg c]
    rw [if_neg (show ¬ nI (D.kd j) = 3 from fun q => c ((nI_eq (b := 3) (by omega) (by decide)).mp q)), M_periodOf_eq N hN I hj _ X1]
    simp only [bnS]
    rw [X1.st j hj z0, if_neg (nI_ne0 (by omega) (by omega)), zI_n (D.st j), zI_n (D.per j), zI_sub, zI_rem (by omega) (by omega) (by omega) (by omega), zI_add]
    have hb : (0 : Int) < D.per j := by omega
    have e := tmod_emod (a := t - D.st j) hb
    have t1 := Int.tmod_lt_of_pos (t - D.st j) hb
    have t2 : -(D.per j : Int) < (t - D.st j).tmod (D.per j) := by
      have := Int.tmod_lt_of_pos (-(t - D.st j)) hb
      rw [Int.neg_tmod] at this
      omega
    have nn := Int.emod_nonneg (t - D.st j) (show (D.per j : Int) ≠ 0 by omega)
    have tm : (zI ((t - D.st j).tmod (D.per j))).toInt = (t - D.st j).tmod (D.per j) := zI_toInt (by omega) (by omega)
    have ze : zI ((t - D.st j) % (D.per j : Int)) = nI (D.ph j t) := by
      unfold Da.ph
      rw [zI_n, Int.toNat_of_nonneg nn]
    have r28 : D.hr j t = decide (D.ph j t ≤ D.cm j (D.hl j t) + D.pr j (D.hl j t)) := by unfold Da.hr; rw [decide_eq_false c, Bool.false_or]
    have key : ∃ μ', f_M_find_B68 N (nI j) (nI (D.ph j t)) (sI μ 0 30 0) = some μ' ∧ FFr μ μ' ∧ μ'.1 0 28 = nI (D.hp j t) ∧ μ'.1 0 29 = nI (D.hn j t) ∧ μ'.1 0 30 = nI (D.hg j t) := by
      obtain ⟨a, _, _⟩ := I.hl_spec hj g c t
      have a' : D.lf j (D.ph j t) < D.sz j := a
      obtain ⟨μ', r1, r2, r3, r4, r5⟩ := M_find_loop N I hj g c (x := D.ph j t) (by omega) N 0 (sI μ 0 30 0) X1 (by rw [sI_at, upd_eq]) (by omega) (by omega)
      unfold Da.hp Da.hn Da.hg
      rw [if_neg c, if_neg c, r28]
      simp only [decide_eq_true_eq]
      exact ⟨μ', r1, f1.trans r2, r3, r4, r5⟩
    by_cases cc : (t - D.st j).tmod (D.per j) < 0
    · rw [if_neg (by rw [le_I, tm, show (0 : Int32).toInt = 0 from rfl]; omega)]
      rw [if_pos cc] at e
      rw [← e, ze]
      exact key
    · rw [if_pos (by rw [le_I, tm, show (0 : Int32).toInt = 0 from rfl]; omega)]
      rw [if_neg cc] at e
      rw [← e, ze]
      exact key
