/-! PURE 55: rounds in the class: sets the other way round -/
def cmp (K s : Nat) : Nat := 2 * (2 ^ K - (s + 1))
theorem cmp_tb0 (K s : Nat) : (cmp K s).testBit 0 = false := by
  unfold cmp
  rw [Nat.testBit_zero]
  simp
theorem cmp_tb {K s : Nat} (hs : s < 2 ^ K) (j : Nat) : (cmp K s).testBit (j + 1) = (decide (j < K) && !s.testBit j) := by
  unfold cmp
  rw [Nat.testBit_succ, Nat.mul_div_cancel_left _ (by decide), Nat.testBit_two_pow_sub_succ hs]
theorem cmp_lt {K s : Nat} (hs : s < 2 ^ K) : cmp K s < 2 ^ (K + 1) := by
  unfold cmp
  rw [Nat.pow_succ]
  omega
theorem or_pow_lt {K s j : Nat} (hs : s < 2 ^ K) (hj : j < K) : s ||| 2 ^ j < 2 ^ K := Nat.or_lt_two_pow hs (Nat.pow_lt_pow_right (by decide) hj)
theorem cmp_or {K s j : Nat} (hs : s < 2 ^ K) (hj : j < K) : anN (cmp K s) (2 ^ (j + 1)) = cmp K (s ||| 2 ^ j) := by
  apply Nat.eq_of_testBit_eq
  intro i
  cases i with
  | zero => rw [anN_tb, cmp_tb0, cmp_tb0]; rfl
  | succ i =>
    rw [anN_tb, cmp_tb hs, cmp_tb (or_pow_lt hs hj), Nat.testBit_or, Nat.testBit_two_pow, Nat.testBit_two_pow]
    by_cases e : j = i
    · subst e; simp
    · rw [decide_eq_false (show ¬ j + 1 = i + 1 by omega), decide_eq_false e]; simp
theorem or_gt {s j : Nat} (h : s.testBit j = false) : s < s ||| 2 ^ j := by
  have h1 : s ≤ s ||| 2 ^ j := Nat.left_le_or
  have h2 : s ≠ s ||| 2 ^ j := fun q => by
    have := Nat.testBit_or s (2 ^ j) j
    rw [← q, h, Nat.testBit_two_pow, decide_eq_true rfl] at this
    cases this
  omega
/-- the recurrence, with sets the class's way -/
theorem Tw_cmp (H : Nat → Nat → Nat) {K s last : Nat} (hs : s < 2 ^ K) (hn : cmp K s ≠ 0) : Tw H (K + 1) (cmp K s) last = mnF (fun j => !s.testBit j) (fun j => H last (j + 1) + Tw H (K + 1) (cmp K (s ||| 2 ^ j)) (j + 1)) 1000000 K := by
  rw [Tw_s H (K + 1) hn]
  have : ∀ n, n ≤ K → mnF (fun x => (cmp K s).testBit x) (fun x => H last x + Tw H (K + 1) (anN (cmp K s) (2 ^ x)) x) 1000000 (n + 1) = mnF (fun j => !s.testBit j) (fun j => H last (j + 1) + Tw H (K + 1) (cmp K (s ||| 2 ^ j)) (j + 1)) 1000000 n := by
    intro n
    induction n with
    | zero =>
      intro _
      show (if (cmp K s).testBit 0 = true then _ else _) = _
      rw [cmp_tb0, if_neg (by decide)]
      rfl
    | succ n ih =>
      intro hn
      have ih := ih (by omega)
      show (if (cmp K s).testBit (n + 1) = true then min _ _ else _) = (if (!s.testBit n) = true then min _ _ else _)
      rw [ih, cmp_tb hs, decide_eq_true (show n < K by omega), Bool.true_and]
      simp only [cmp_or hs (show n < K by omega)]
  exact this K (Nat.le_refl _)
/-- the order of a round -/
def nxS (H : Nat → Nat → Nat) (k s last : Nat) : Nat := fsN (fun x => s.testBit x && decide (H last x + Tw H k (anN s (2 ^ x)) x = Tw H k s last)) k
def sqS (H : Nat → Nat → Nat) (k : Nat) : Nat → Nat × Nat
  | 0 => (2 ^ k - 2, 0)
  | t + 1 => (anN (sqS H k t).1 (2 ^ nxS H k (sqS H k t).1 (sqS H k t).2), nxS H k (sqS H k t).1 (sqS H k t).2)
theorem Tw_small {H : Nat → Nat → Nat} {k : Nat} (hH : ∀ a b, a < k → b < k → H a b ≤ 480) : ∀ f s last, s ≤ f → s < 2 ^ k → last < k → Tw H k s last ≤ 480 * (s + 1) := by
  intro f
  induction f with
  | zero =>
    intro s last h1 h2 h3
    have : s = 0 := by omega
    subst this
    rw [Tw_0]
    have := hH last 0 h3 (by omega)
    omega
  | succ f ih =>
    intro s last h1 h2 h3
    by_cases c : s = 0
    · subst c
      rw [Tw_0]
      have := hH last 0 h3 (by omega)
      omega
    · rw [Tw_s H k c]
      obtain ⟨x, x1, x2⟩ : ∃ x, x < k ∧ s.testBit x = true := by
        rcases Classical.em (∃ x, x < k ∧ s.testBit x = true) with q | q
        · exact q
        · exfalso
          refine c ((bs_zero (n := k) h2).mpr (fun i hi => ?_))
          cases e : s.testBit i with
          | false => rfl
          | true => exact absurd ⟨i, hi, e⟩ q
      have al := anN_less x2
      have := (mnF_le (fun x => s.testBit x) (fun x => H last x + Tw H k (anN s (2 ^ x)) x) 1000000 k).2 x x1 x2
      have i1 := ih (anN s (2 ^ x)) x (by omega) (by omega) x1
      have i2 := hH last x h3 x1
      omega
theorem Tw_tri {H : Nat → Nat → Nat} {k : Nat} (tri : ∀ a b c, a < k → b < k → c < k → H a b ≤ H a c + H c b) : ∀ f s last x, s ≤ f → last < k → x < k → s.testBit x = true → min 1000000 (H last x) ≤ Tw H k s last := by
  intro f
  induction f with
  | zero =>
    intro s last x h1 _ _ hb
    have : s = 0 := by omega
    subst this
    rw [Nat.zero_testBit] at hb
    cases hb
  | succ f ih =>
    intro s last x h1 h2 h3 hb
    have c : s ≠ 0 := fun q => by rw [q, Nat.zero_testBit] at hb; cases hb
    rw [Tw_s H k c]
    rcases mnF_at (fun x => s.testBit x) (fun x => H last x + Tw H k (anN s (2 ^ x)) x) 1000000 k with q | ⟨y, y1, y2, y3⟩
    · rw [q]; omega
    · rw [y3]
      by_cases e : y = x
      · subst e
        omega
      · have al := anN_less y2
        have := ih (anN s (2 ^ y)) y x (by omega) y1 h3 (by rw [anN_tb, hb, Nat.testBit_two_pow, decide_eq_false e]; rfl)
        have t := tri last x y h2 h3 y1
        omega
theorem nxS_spec {H : Nat → Nat → Nat} {k s last : Nat} (hH : ∀ a b, a < k → b < k → H a b ≤ 480) (k10 : k ≤ 10) (hs : s < 2 ^ k) (hs0 : s ≠ 0) (hl : last < k) : nxS H k s last < k ∧ s.testBit (nxS H k s last) = true ∧ H last (nxS H k s last) + Tw H k (anN s (2 ^ nxS H k s last)) (nxS H k s last) = Tw H k s last ∧ ∀ t, t < nxS H k s last → ¬ (s.testBit t = true ∧ H last t + Tw H k (anN s (2 ^ t)) t = Tw H k s last) := by
  have p1024 : 2 ^ k ≤ 1024 := (show 2 ^ k ≤ 2 ^ 10 from Nat.pow_le_pow_right (by decide) k10)
  obtain ⟨a, b, c⟩ := fsN_spec (fun x => s.testBit x && decide (H last x + Tw H k (anN s (2 ^ x)) x = Tw H k s last)) k
  have sm := Tw_small hH s s last (Nat.le_refl _) hs hl
  have hlt : nxS H k s last < k := by
    rcases Nat.lt_or_ge (nxS H k s last) k with q | q
    · exact q
    · exfalso
      rcases mnF_at (fun x => s.testBit x) (fun x => H last x + Tw H k (anN s (2 ^ x)) x) 1000000 k with z | ⟨y, y1, y2, y3⟩
      · rw [← Tw_s H k hs0] at z
        omega
      · rw [← Tw_s H k hs0] at y3
        have := c y (by unfold nxS at q; omega)
        simp only [y2, Bool.true_and, decide_eq_false_iff_not] at this
        exact this y3.symm
  have hb := b hlt
  rw [Bool.and_eq_true, decide_eq_true_eq] at hb
  refine ⟨hlt, hb.1, hb.2, fun t ht q => ?_⟩
  have := c t ht
  rw [q.1, decide_eq_true q.2] at this
  cases this
theorem cnt_clear {p q : Nat → Bool} {c : Nat} (h1 : p c = true) (h2 : q c = false) (h : ∀ x, x ≠ c → q x = p x) : ∀ n, c < n → cnt q n + 1 = cnt p n
  | 0, hc => by omega
  | n + 1, hc => by
    show cnt q n + (if q n = true then 1 else 0) + 1 = cnt p n + (if p n = true then 1 else 0)
    by_cases e : c = n
    · subst e
      rw [cnt_ext c (fun i hi => h i (by omega)), h1, h2]
      simp
    · have := cnt_clear h1 h2 h n (by omega)
      rw [h n (fun q => e q.symm)]
      omega
theorem all_cmp (K : Nat) : 2 ^ (K + 1) - 2 = cmp K 0 := by
  unfold cmp
  rw [Nat.pow_succ]
  omega
/-- along a round: the set shrinks by one each time -/
theorem sqS_inv {H : Nat → Nat → Nat} {K : Nat} (hH : ∀ a b, a < K + 1 → b < K + 1 → H a b ≤ 480) (k10 : K + 1 ≤ 10) : ∀ t, t ≤ K → (sqS H (K + 1) t).1 < 2 ^ (K + 1) ∧ (sqS H (K + 1) t).2 < K + 1 ∧ (sqS H (K + 1) t).1.testBit 0 = false ∧ cnt (fun x => (sqS H (K + 1) t).1.testBit x) (K + 1) + t = K
  | 0, _ => by
    have e : (sqS H (K + 1) 0) = (cmp K 0, 0) := by unfold sqS; rw [all_cmp]
    rw [e]
    refine ⟨cmp_lt (Nat.two_pow_pos K), by omega, cmp_tb0 K 0, ?_⟩
    have := cnt_shift (fun x => (cmp K 0).testBit x) 1 K
    rw [Nat.add_comm 1 K] at this
    rw [this, cnt_all K (fun i hi => by show (cmp K 0).testBit (1 + i) = true; rw [Nat.add_comm, cmp_tb (Nat.two_pow_pos K), decide_eq_true hi, Nat.zero_testBit]; rfl)]
    have z : cnt (fun x => (cmp K 0).testBit x) 1 = 0 := by
      show 0 + (if (cmp K 0).testBit 0 = true then 1 else 0) = 0
      rw [cmp_tb0]; rfl
    omega
  | t + 1, ht => by
    obtain ⟨i1, i2, i3, i4⟩ := sqS_inv hH k10 t (by omega)
    have ne : (sqS H (K + 1) t).1 ≠ 0 := fun q => by
      rw [q] at i4
      rw [cnt_none (K + 1) (fun i _ => Nat.zero_testBit i)] at i4
      omega
    obtain ⟨n1, n2, n3, n4⟩ := nxS_spec hH k10 i1 ne i2
    have e : sqS H (K + 1) (t + 1) = (anN (sqS H (K + 1) t).1 (2 ^ nxS H (K + 1) (sqS H (K + 1) t).1 (sqS H (K + 1) t).2), nxS H (K + 1) (sqS H (K + 1) t).1 (sqS H (K + 1) t).2) := rfl
    rw [e]
    generalize nxS H (K + 1) (sqS H (K + 1) t).1 (sqS H (K + 1) t).2 = x at *
    generalize (sqS H (K + 1) t).1 = s at *
    refine ⟨Nat.lt_trans (anN_less n2) i1, n1, by rw [anN_tb, i3]; rfl, ?_⟩
    have := cnt_clear (p := fun y => s.testBit y) (q := fun y => (anN s (2 ^ x)).testBit y) (c := x) n2 (by show (anN s (2 ^ x)).testBit x = false; rw [anN_tb, Nat.testBit_two_pow, decide_eq_true rfl, Bool.not_true, Bool.and_false]) (fun y hy => by
      show (anN s (2 ^ x)).testBit y = s.testBit y
      rw [anN_tb, Nat.testBit_two_pow, decide_eq_false (fun q => hy q.symm), Bool.not_false, Bool.and_true]) (K + 1) n1
    show cnt (fun y => (anN s (2 ^ x)).testBit y) (K + 1) + (t + 1) = K
    omega
/-- what the class keeps of a round -/
def TKt (n : Nat) (len : Nat → Nat → Int) (wor : Nat → Nat) (t o : Nat → Int32) : Prop := cnt (wyF wor) n ≤ 10 → t 5 = nI (cnt (wyF wor) n) ∧ (cnt (wyF wor) n < 2 → t 0 = 0 ∧ (cnt (wyF wor) n = 1 → o 0 = nI (stN (wyF wor) n 0))) ∧ (2 ≤ cnt (wyF wor) n → (∃ i, i < cnt (wyF wor) n ∧ 1000000 ≤ HL (fw n len) (stN (wyF wor) n) 0 i) → t 0 = -9) ∧ (2 ≤ cnt (wyF wor) n → (∀ i, i < cnt (wyF wor) n → HL (fw n len) (stN (wyF wor) n) 0 i < 1000000) → t 0 = nI (Tw (HL (fw n len) (stN (wyF wor) n)) (cnt (wyF wor) n) (2 ^ cnt (wyF wor) n - 2) 0) ∧ ∀ i, i < cnt (wyF wor) n → o i = nI (stN (wyF wor) n (sqS (HL (fw n len) (stN (wyF wor) n)) (cnt (wyF wor) n) i).2))
theorem X_farOf (N : Nat) {n : Nat} {len : Nat → Nat → Int} (G : GI n len) {a b : Nat} (ha : a < n) (hb : b < n) (μ : Mm) (F : FA n (fw n len) (μ.1 10)) : f_Gr_farOf N (nI a) (nI b) μ = some (if 1000000 ≤ fw n len a b then -9 else nI (fw n len a b), μ) := by
  have n16 := G.n16
  have hl := fw_le G ha hb
  unfold f_Gr_farOf
  rw [show (16 : Int32) = nI 16 from rfl, pk_mul, nI_add, show a * 16 + b = 16 * a + b by omega]
  simp only [if_pos (ixb_t (show 16 * a + b < 256 by omega) (by decide)), nI_clamp (show 16 * a + b < 2 ^ 31 by omega), F a b ha hb]
  rw [show (1000000 : Int32) = nI 1000000 from rfl]
  by_cases c : 1000000 ≤ fw n len a b
  · rw [if_pos ((nIc (by decide) (by omega)).mpr c), if_pos c]
  · rw [if_neg (fun q => c ((nIc (by decide) (by omega)).mp q)), if_neg c]
/-- only the tour's own places change -/
def TFr (μ μ' : Mm) : Prop := (∀ c, c < 75 ∨ 78 < c → μ'.1 c = μ.1 c) ∧ μ'.1 75 6 = μ.1 75 6 ∧ μ'.2 = μ.2
theorem TFr.refl (μ : Mm) : TFr μ μ := ⟨fun _ _ => rfl, rfl, rfl⟩
theorem TFr.trans {μ μ' μ'' : Mm} (a : TFr μ μ') (b : TFr μ' μ'') : TFr μ μ'' := ⟨fun c h => (b.1 c h).trans (a.1 c h), b.2.1.trans a.2.1, b.2.2.trans a.2.2⟩
theorem TFr.cell {c : Nat} (h : 76 ≤ c) (h2 : c ≤ 78) (μ : Mm) (f : Nat) (v : Int32) : TFr μ (sI μ c f v) := ⟨fun d hd => sI_ne _ _ _ (by omega), by rw [sI_ne _ _ _ (by omega)], rfl⟩
theorem TFr.fld {f : Nat} (h : f ≠ 6) (μ : Mm) (v : Int32) : TFr μ (sI μ 75 f v) := ⟨fun d hd => sI_ne _ _ _ (by omega), by rw [sI_at, upd_ne _ _ (fun q => h q.symm)], rfl⟩
theorem X_gather (N : Nat) {n : Nat} {wor : Nat → Nat} (n16 : n ≤ 16) (hc : cnt (wyF wor) n ≤ 10) : ∀ (m p : Nat) (μ : Mm), μ.1 6 1 = nI n → (∀ q, q < n → wor q ≤ 9 ∧ μ.1 8 q = nI (wor q)) → p ≤ n → n < m + p → μ.1 75 5 = nI (cnt (wyF wor) p) → (∀ i, i < cnt (wyF wor) p → μ.1 76 i = nI (stN (wyF wor) p i)) → ∃ μ', f_To_gatherStops_L7 N m (nI p) μ = some μ' ∧ TFr μ μ' ∧ μ'.1 75 5 = nI (cnt (wyF wor) n) ∧ (∀ i, i < cnt (wyF wor) n → μ'.1 76 i = nI (stN (wyF wor) n i)) := by
  intro m
  induction m with
  | zero => intro p μ _ _ h1 h2; omega
  | succ m ih =>
    intro p μ en hw h1 h2 e5 e76
    rw [f_To_gatherStops_L7, en]
    by_cases c : p = n
    · rw [if_pos (nI_le (by omega) (by omega))]
      rw [c] at e5 e76
      exact ⟨μ, rfl, TFr.refl μ, e5, e76⟩
    · have hp : p < n := by omega
      obtain ⟨w9, w8⟩ := hw p hp
      have cs : cnt (wyF wor) (p + 1) = cnt (wyF wor) p + (if wyF wor p = true then 1 else 0) := rfl
      have cl := cnt_le (wyF wor) p
      have mono : cnt (wyF wor) (p + 1) ≤ cnt (wyF wor) n := by
        have := cnt_shift (wyF wor) (p + 1) (n - (p + 1))
        rw [show p + 1 + (n - (p + 1)) = n by omega] at this
        omega
      unfold f_Gr_worthOf
      rw [if_neg (nI_ge (by omega) (by omega)), if_pos (ixb_t (show p < 16 by omega) (by decide)), nI_clamp (show p < 2 ^ 31 by omega), w8, bnS]
      unfold f_To_gatherStops_B58
      simp only [nI_1, nI_add, e5]
      by_cases z : wor p = 0
      · have zf : wyF wor p = false := by unfold wyF; exact decide_eq_false (by omega)
        rw [if_pos (show nI (wor p) ≤ (0 : Int32) by rw [z]; decide)]
        rw [zf, if_neg (by decide)] at cs
        exact ih (p + 1) μ en hw (by omega) (by omega) (by rw [cs]; exact e5) (fun i hi => by
          rw [cs] at hi
          show _ = nI (if wyF wor p = true ∧ i = cnt (wyF wor) p then p else stN (wyF wor) p i)
          rw [if_neg (by rw [zf]; simp)]
          exact e76 i hi)
      · have zf : wyF wor p = true := by unfold wyF; exact decide_eq_true (by omega)
        rw [zf, if_pos rfl] at cs
        rw [if_neg (show ¬ nI (wor p) ≤ (0 : Int32) from nI_ge (a := 0) (by omega) (by omega)), if_neg (show ¬ (10 : Int32) ≤ nI (cnt (wyF wor) p) from nI_ge (b := 10) (by omega) (by decide)), if_pos (ixb_t (show cnt (wyF wor) p < 10 by omega) (by decide)), nI_clamp (show cnt (wyF wor) p < 2 ^ 31 by omega)]
        have e5' : (sI μ 76 (cnt (wyF wor) p) (nI p)).1 75 5 = nI (cnt (wyF wor) p) := by rw [sI_ne _ _ _ (by decide)]; exact e5
        rw [e5', ← nI_succ]
        have f1 : TFr μ (sI (sI μ 76 (cnt (wyF wor) p) (nI p)) 75 5 (nI (cnt (wyF wor) p + 1))) := (TFr.cell (by decide) (by decide) μ _ _).trans (TFr.fld (by decide) _ _)
        obtain ⟨μ', r1, r2, r3, r4⟩ := ih (p + 1) (sI (sI μ 76 (cnt (wyF wor) p) (nI p)) 75 5 (nI (cnt (wyF wor) p + 1))) (by rw [f1.1 6 (by omega)]; exact en) (fun q hq => by rw [f1.1 8 (by omega)]; exact hw q hq) (by omega) (by omega) (by rw [sI_at, upd_eq, cs]) (fun i hi => by
          rw [sI_ne _ _ _ (by decide), sI_at, upd_at]
          show _ = nI (if wyF wor p = true ∧ i = cnt (wyF wor) p then p else stN (wyF wor) p i)
          by_cases g : i = cnt (wyF wor) p
          · rw [if_pos g, if_pos ⟨zf, g⟩]
          · rw [if_neg g, if_neg (fun q => g q.2)]
            exact e76 i (by omega))
        exact ⟨μ', r1, f1.trans r2, r3, r4⟩
theorem X_way (N : Nat) {n k : Nat} {len : Nat → Nat → Int} {st : Nat → Nat} (G : GI n len) (k10 : k ≤ 10) (hst : ∀ i, i < k → st i < n) {a b : Nat} (ha : a < k) (hb : b < k) (μ : Mm) (e76 : ∀ i, i < k → μ.1 76 i = nI (st i)) (F : FA n (fw n len) (μ.1 10)) : f_To_way N (nI a) (nI b) μ = some (if 1000000 ≤ HL (fw n len) st a b then -9 else nI (HL (fw n len) st a b), μ) := by
  unfold f_To_way
  rw [if_pos (ixb_t (show a < 10 by omega) (by decide)), if_pos (ixb_t (show b < 10 by omega) (by decide)), nI_clamp (show a < 2 ^ 31 by omega), nI_clamp (show b < 2 ^ 31 by omega), e76 a ha, e76 b hb, X_farOf N G (hst a ha) (hst b hb) μ F, bnS]
  rfl
theorem X_parted (N : Nat) {n k : Nat} {len : Nat → Nat → Int} {st : Nat → Nat} (G : GI n len) (k10 : k ≤ 10) (hst : ∀ i, i < k → st i < n) (μ : Mm) (e5 : μ.1 75 5 = nI k) (e76 : ∀ i, i < k → μ.1 76 i = nI (st i)) (F : FA n (fw n len) (μ.1 10)) : ∀ (m i : Nat), 1 ≤ i → i ≤ k → k < m + i → (∀ x, x < i → HL (fw n len) st 0 x < 1000000) → ∃ r : Bool, f_To_isParted_L2 N m (nI i) μ = some (b2 r, μ) ∧ (r = true ↔ ∃ x, x < k ∧ 1000000 ≤ HL (fw n len) st 0 x) := by
  intro m
  induction m with
  | zero => intro i h0 h1 h2; omega
  | succ m ih =>
    intro i h0 h1 h2 hx
    rw [f_To_isParted_L2, e5]
    by_cases c : i = k
    · rw [if_pos (nI_le (by omega) (by omega))]
      exact ⟨false, rfl, fun q => (by cases q), fun ⟨x, x1, x2⟩ => by have := hx x (by omega); omega⟩
    · have hl := fw_le G (hst 0 (by omega)) (hst i (by omega))
      have hl' : HL (fw n len) st 0 i ≤ 1000000 := hl
      have w := X_way N G k10 hst (show 0 < k by omega) (show i < k by omega) μ e76 F
      rw [show nI 0 = (0 : Int32) from rfl] at w
      rw [if_neg (nI_ge (by omega) (by omega)), w, bnS]
      by_cases d : 1000000 ≤ HL (fw n len) st 0 i
      · rw [if_pos d, if_neg (by decide)]
        exact ⟨true, rfl, fun _ => ⟨i, by omega, d⟩, fun _ => rfl⟩
      · rw [if_neg d, if_pos (show (0 : Int32) ≤ nI (HL (fw n len) st 0 i) from nI_le (a := 0) (by omega) (by omega))]
        simp only [nI_1, nI_add]
        exact ih (i + 1) (by omega) (by omega) (by omega) (fun x hx' => by
          by_cases e : x = i
          · subst e; omega
          · exact hx x (by omega))
