/-! PURE 22: the same of the reference; what holds of distances -/
theorem M_cell_loop (N n y a : Nat) (F : Nat → Nat → Nat) (hn : n ≤ 16) (hy : y < n) (ha : a < n) (B : FB n F) (k85 : Int32 → Mm → Option Mm) (k95 : Int32 → Int32 → Mm → Option Mm) (μ0 : Mm) (en : μ0.1 0 9 = nI n) : ∀ (m i : Nat) (f : Nat → Int32), i ≤ n → n < m + i → (∀ x z, x < n → z < n → f (16 * x + z) = nI (if x < a ∨ (x = a ∧ z < i) then fws F y x z else F x z)) → ∃ g, f_M_layFars_L105 N k85 k95 m (nI y) (nI a) (nI i) (sA μ0 9 f) = k95 (nI y) (nI (a + 1)) (sA μ0 9 g) ∧ (∀ x z, x < n → z < n → g (16 * x + z) = nI (if x < a + 1 then fws F y x z else F x z)) := by
  intro m
  induction m with
  | zero => intro i f h1 h2; omega
  | succ m ih =>
    intro i f h1 h2 hf
    rw [f_M_layFars_L105, sA_ne _ _ (by decide), en]
    by_cases h : i = n
    · subst h
      rw [if_pos (nI_le (Nat.le_refl _) (by omega))]
      unfold f_M_layFars_B187
      simp only [nI_1]
      refine ⟨f, rfl, fun x z hx hz => ?_⟩
      rw [hf x z hx hz]
      by_cases c : x < a + 1
      · rw [if_pos c, if_pos (by omega)]
      · rw [if_neg c, if_neg (by omega)]
    · have hi : i < n := by omega
      have b1 := B.2 y i hy hi
      have b2 := B.2 a i ha hi
      have b3 := B.2 a y ha hy
      have hyy := B.1 y hy
      rw [if_neg (nI_ge (by omega) (by omega))]
      unfold f_M_layFars_B180
      simp only [ix16', nI_1, if_pos (ixb_t (show 16 * y + i < 256 by omega) (show 256 < 2 ^ 31 by decide)), if_pos (ixb_t (show 16 * a + i < 256 by omega) (show 256 < 2 ^ 31 by decide)), if_pos (ixb_t (show 16 * a + y < 256 by omega) (show 256 < 2 ^ 31 by decide)), nI_clamp (show 16 * y + i < 2 ^ 31 by omega), nI_clamp (show 16 * a + i < 2 ^ 31 by omega), nI_clamp (show 16 * a + y < 2 ^ 31 by omega), sAat, sI_A]
      have e1 : f (16 * y + i) = nI (F y i) := by
        rw [hf y i hy hi]
        split
        · rw [fws_row hyy]
        · rfl
      have e2 : f (16 * a + i) = nI (F a i) := by rw [hf a i ha hi, if_neg (by omega)]
      have e3 : f (16 * a + y) = nI (F a y) := by
        rw [hf a y ha hy]
        split
        · rw [fws_col hyy]
        · rfl
      rw [e1, e2, e3, nI_add]
      have fin : ∀ v, v = nI (fws F y a i) → ∃ g, f_M_layFars_L105 N k85 k95 m (nI y) (nI a) (nI (i + 1)) (sA μ0 9 (upd f (16 * a + i) v)) = k95 (nI y) (nI (a + 1)) (sA μ0 9 g) ∧ (∀ x z, x < n → z < n → g (16 * x + z) = nI (if x < a + 1 then fws F y x z else F x z)) := by
        intro v hv
        refine ih (i + 1) _ (by omega) (by omega) (fun x z hx hz => ?_)
        by_cases c : x = a ∧ z = i
        · rw [c.1, c.2, upd_eq, if_pos (by omega), hv]
        · rw [upd_ne _ _ (fun q2 => c ((ix_inj (by omega) (by omega)).mp q2)), hf x z hx hz]
          by_cases c2 : x < a ∨ (x = a ∧ z < i)
          · rw [if_pos c2, if_pos (by omega)]
          · rw [if_neg c2, if_neg (by omega)]
      by_cases c : F a i ≤ F a y + F y i
      · rw [if_pos ((nIc (by omega) (by omega)).mpr c)]
        exact fin _ (by unfold fws; congr 1; omega)
      · rw [if_neg (fun q => c ((nIc (by omega) (by omega)).mp q))]
        exact fin _ (by unfold fws; congr 1; omega)
theorem M_rows_loop (N n y : Nat) (F : Nat → Nat → Nat) (hn : n ≤ 16) (hN : 20 ≤ N) (hy : y < n) (B : FB n F) (k85 : Int32 → Mm → Option Mm) (μ0 : Mm) (en : μ0.1 0 9 = nI n) : ∀ (m i : Nat) (f : Nat → Int32), i ≤ n → n < m + i → (∀ x z, x < n → z < n → f (16 * x + z) = nI (if x < i then fws F y x z else F x z)) → ∃ g, f_M_layFars_L95 N k85 m (nI y) (nI i) (sA μ0 9 f) = k85 (nI (y + 1)) (sA μ0 9 g) ∧ FA n (fws F y) g := by
  intro m
  induction m with
  | zero => intro i f h1 h2; omega
  | succ m ih =>
    intro i f h1 h2 hf
    rw [f_M_layFars_L95, sA_ne _ _ (by decide), en]
    by_cases h : i = n
    · subst h
      rw [if_pos (nI_le (Nat.le_refl _) (by omega))]
      unfold f_M_layFars_B193
      simp only [nI_1]
      refine ⟨f, rfl, fun x z hx hz => ?_⟩
      rw [hf x z hx hz, if_pos hx]
    · rw [if_neg (nI_ge (by omega) (by omega))]
      obtain ⟨g, g1, g2⟩ := M_cell_loop N n y i F hn hy (by omega) B k85 (f_M_layFars_L95 N k85 m) μ0 en N 0 f (by omega) (by omega) (fun x z hx hz => by
        rw [hf x z hx hz]
        by_cases c : x < i
        · rw [if_pos c, if_pos (Or.inl c)]
        · rw [if_neg c, if_neg (by omega)])
      rw [show f_M_layFars_L105 N k85 (f_M_layFars_L95 N k85 m) N (nI y) (nI i) 0 (sA μ0 9 f) = f_M_layFars_L95 N k85 m (nI y) (nI (i + 1)) (sA μ0 9 g) from g1]
      exact ih (i + 1) g (by omega) (by omega) g2
theorem M_by_loop (N n : Nat) (len : Nat → Nat → Int) (G : GI n len) (hN : 20 ≤ N) (μ0 : Mm) (en : μ0.1 0 9 = nI n) : ∀ (m i : Nat) (f : Nat → Int32), i ≤ n → n < m + i → FA n (fwk len i) f → ∃ g, f_M_layFars_L85 N m (nI i) (sA μ0 9 f) = some (sA μ0 9 g) ∧ FA n (fw n len) g := by
  have hn := G.n16
  intro m
  induction m with
  | zero => intro i f h1 h2; omega
  | succ m ih =>
    intro i f h1 h2 hf
    rw [f_M_layFars_L85, sA_ne _ _ (by decide), en]
    by_cases h : i = n
    · subst h
      rw [if_pos (nI_le (Nat.le_refl _) (by omega))]
      exact ⟨f, rfl, hf⟩
    · rw [if_neg (nI_ge (by omega) (by omega))]
      obtain ⟨g, g1, g2⟩ := M_rows_loop N n i (fwk len i) hn hN (by omega) (FB_k G i (by omega)) (f_M_layFars_L85 N m) μ0 en N 0 f (by omega) (by omega) (fun x z hx hz => by rw [hf x z hx hz, if_neg (show ¬ x < 0 by omega)])
      rw [show f_M_layFars_L95 N (f_M_layFars_L85 N m) N (nI i) 0 (sA μ0 9 f) = f_M_layFars_L85 N m (nI (i + 1)) (sA μ0 9 g) from g1]
      exact ih (i + 1) g (by omega) (by omega) g2
theorem M_init_row (N a : Nat) (D : Da) (G : GI D.n D.len) (ha : a < D.n) (k2 : Int32 → Mm → Option Mm) (μ0 : Mm) (X : DM D μ0) : ∀ (m i : Nat) (f : Nat → Int32), i ≤ D.n → D.n < m + i → (∀ x y, x < D.n → y < D.n → (x < a ∨ (x = a ∧ y < i)) → f (16 * x + y) = nI (fw0 D.len x y)) → ∃ g, f_M_layFars_L12 N k2 m (nI a) (nI i) (sA μ0 9 f) = k2 (nI (a + 1)) (sA μ0 9 g) ∧ ∀ x y, x < D.n → y < D.n → x < a + 1 → g (16 * x + y) = nI (fw0 D.len x y) := by
  have hn := G.n16
  intro m
  induction m with
  | zero => intro i f h1 h2; omega
  | succ m ih =>
    intro i f h1 h2 hf
    rw [f_M_layFars_L12, sA_ne _ _ (by decide), X.n]
    by_cases h : i = D.n
    · subst h
      rw [if_pos (nI_le (Nat.le_refl _) (by omega))]
      unfold f_M_layFars_B77
      simp only [nI_1]
      exact ⟨f, rfl, fun x y hx hy q => hf x y hx hy (by omega)⟩
    · have hi : i < D.n := by omega
      rw [if_neg (nI_ge (by omega) (by omega))]
      unfold f_M_layFars_B68 f_M_layFars_B70
      simp only [ix16', nI_1, if_pos (ixb_t (show 16 * a + i < 256 by omega) (show 256 < 2 ^ 31 by decide)), nI_clamp (show 16 * a + i < 2 ^ 31 by omega), sI_A, sA_ne μ0 f (show 5 ≠ 9 by decide), sA_ne μ0 f (show 6 ≠ 9 by decide)]
      rw [X.len a i (by omega) (by omega), X.brk a i (by omega) (by omega)]
      have hl := G.lb a i (by omega) (by omega)
      have fin : ∀ v, v = nI (fw0 D.len a i) → ∃ g, f_M_layFars_L12 N k2 m (nI a) (nI (i + 1)) (sA μ0 9 (upd f (16 * a + i) v)) = k2 (nI (a + 1)) (sA μ0 9 g) ∧ ∀ x y, x < D.n → y < D.n → x < a + 1 → g (16 * x + y) = nI (fw0 D.len x y) := by
        intro v hv
        refine ih (i + 1) _ (by omega) (by omega) (fun x y hx hy q => ?_)
        by_cases c : x = a ∧ y = i
        · rw [c.1, c.2, upd_eq, hv]
        · rw [upd_ne _ _ (fun q2 => c ((ix_inj (by omega) (by omega)).mp q2)), hf x y hx hy (by omega)]
      by_cases c : a = i
      · rw [if_pos (by rw [c])]
        exact fin 0 (by unfold fw0; rw [if_pos c]; rfl)
      · rw [if_neg (fun q => c ((nI_eq (by omega) (by omega)).mp q))]
        by_cases c2 : D.len a i = 0
        · rw [if_pos (by rw [c2]; decide)]
          refine fin 1000000 ?_
          unfold fw0
          rw [if_neg c, if_neg (by omega)]
          rfl
        · rw [if_neg (show ¬ nI (D.len a i).natAbs ≤ 0 from fun q => by
            have := (nIc (b := 0) (by omega) (by decide)).mp q
            omega)]
          by_cases c3 : D.len a i < 0
          · rw [if_neg (by rw [decide_eq_true c3]; decide)]
            refine fin 1000000 ?_
            unfold fw0
            rw [if_neg c, if_neg (by omega)]
            rfl
          · rw [if_pos (by rw [decide_eq_false c3]; rfl)]
            refine fin _ ?_
            unfold fw0
            rw [if_neg c, if_pos (by omega)]
            congr 1
            omega
theorem M_init_loop (N : Nat) (D : Da) (G : GI D.n D.len) (hN : 20 ≤ N) (μ0 : Mm) (X : DM D μ0) : ∀ (m i : Nat) (f : Nat → Int32), i ≤ D.n → D.n < m + i → (∀ x y, x < D.n → y < D.n → x < i → f (16 * x + y) = nI (fw0 D.len x y)) → ∃ g, f_M_layFars_L2 N m (nI i) (sA μ0 9 f) = some (sA μ0 9 g) ∧ FA D.n (fw D.n D.len) g := by
  have hn := G.n16
  intro m
  induction m with
  | zero => intro i f h1 h2; omega
  | succ m ih =>
    intro i f h1 h2 hf
    rw [f_M_layFars_L2, sA_ne _ _ (by decide), X.n]
    by_cases h : i = D.n
    · subst h
      rw [if_pos (nI_le (Nat.le_refl _) (by omega))]
      unfold f_M_layFars_B83
      exact M_by_loop N D.n D.len G hN μ0 X.n N 0 f (by omega) (by omega) (fun x z hx hz => hf x z hx hz hx)
    · rw [if_neg (nI_ge (by omega) (by omega))]
      obtain ⟨g, g1, g2⟩ := M_init_row N i D G (by omega) (f_M_layFars_L2 N m) μ0 X N 0 f (by omega) (by omega) (fun x y hx hy q => hf x y hx hy (by omega))
      rw [show f_M_layFars_L12 N (f_M_layFars_L2 N m) N (nI i) 0 (sA μ0 9 f) = f_M_layFars_L2 N m (nI (i + 1)) (sA μ0 9 g) from g1]
      exact ih (i + 1) g (by omega) (by omega) g2
theorem M_layFars_eq (N : Nat) (D : Da) (G : GI D.n D.len) (hN : 20 ≤ N) (μ : Mm) (X : DM D μ) : ∃ g, f_M_layFars N μ = some (sA μ 9 g) ∧ FA D.n (fw D.n D.len) g := by
  have hn := G.n16
  unfold f_M_layFars
  obtain ⟨g, g1, g2⟩ := M_init_loop N D G hN μ X N 0 (μ.1 9) (by omega) (by omega) (fun x y _ _ q => by omega)
  rw [sA_id] at g1
  exact ⟨g, g1, g2⟩
/-! what holds of distances -/
theorem fwk_tri {n : Nat} {len : Nat → Nat → Int} (G : GI n len) : ∀ m, m ≤ n → ∀ a b c, a < n → b < n → c < m → fwk len m a b ≤ fwk len m a c + fwk len m c b
  | 0, _, _, _, _, _, _, h => by omega
  | m + 1, hm, a, b, c, ha, hb, hc => by
    have B := FB_k G m (by omega)
    have h0 := B.1 m (by omega)
    have ih := fwk_tri G m (by omega)
    show fws (fwk len m) m a b ≤ fws (fwk len m) m a c + fws (fwk len m) m c b
    unfold fws
    by_cases e : c = m
    · subst e
      omega
    · have i1 := ih a b c ha hb (by omega)
      have i2 := ih m b c (by omega) hb (by omega)
      have i3 := ih a m c ha (by omega) (by omega)
      omega
theorem fw_tri {n : Nat} {len : Nat → Nat → Int} (G : GI n len) {a b c : Nat} (ha : a < n) (hb : b < n) (hc : c < n) : fw n len a b ≤ fw n len a c + fw n len c b := fwk_tri G n (Nat.le_refl _) a b c ha hb hc
theorem fwk_sym {n : Nat} {len : Nat → Nat → Int} (G : GI n len) : ∀ m, m ≤ n → ∀ a b, a < n → b < n → fwk len m a b = fwk len m b a
  | 0, _, a, b, ha, hb => by
    have h16 := G.n16
    have := G.sym a b (by omega) (by omega)
    show fw0 len a b = fw0 len b a
    unfold fw0
    rw [this]
    by_cases e : a = b
    · rw [if_pos e, if_pos e.symm]
    · rw [if_neg e, if_neg (show ¬ b = a from fun q => e q.symm)]
  | m + 1, hm, a, b, ha, hb => by
    have ih := fwk_sym G m (by omega)
    show fws (fwk len m) m a b = fws (fwk len m) m b a
    unfold fws
    rw [ih a b ha hb, ih a m ha (by omega), ih m b (by omega) hb, Nat.add_comm]
theorem fw_sym {n : Nat} {len : Nat → Nat → Int} (G : GI n len) {a b : Nat} (ha : a < n) (hb : b < n) : fw n len a b = fw n len b a := fwk_sym G n (Nat.le_refl _) a b ha hb
theorem fw_self {n : Nat} {len : Nat → Nat → Int} (G : GI n len) {a : Nat} (ha : a < n) : fw n len a a = 0 := (FB_k G n (Nat.le_refl _)).1 a ha
theorem fw_le {n : Nat} {len : Nat → Nat → Int} (G : GI n len) {a b : Nat} (ha : a < n) (hb : b < n) : fw n len a b ≤ 1000000 := (FB_k G n (Nat.le_refl _)).2 a b ha hb
theorem fwk_pos {len : Nat → Nat → Int} : ∀ m a b, a ≠ b → 1 ≤ fwk len m a b
  | 0, a, b, h => by
    show 1 ≤ fw0 len a b
    unfold fw0
    rw [if_neg h]
    split <;> omega
  | m + 1, a, b, h => by
    have i1 := fwk_pos (len := len) m a b h
    show 1 ≤ fws (fwk len m) m a b
    unfold fws
    by_cases e : a = m
    · have i2 := fwk_pos (len := len) m m b (fun q => h (e.trans q))
      omega
    · have i2 := fwk_pos (len := len) m a m e
      omega
theorem fw_pos {n : Nat} {len : Nat → Nat → Int} {a b : Nat} (h : a ≠ b) : 1 ≤ fw n len a b := fwk_pos n a b h
theorem fwk_mono {len : Nat → Nat → Int} (a b : Nat) : ∀ d m, fwk len (m + d) a b ≤ fwk len m a b
  | 0, m => Nat.le_refl _
  | d + 1, m => by
    have := fwk_mono (len := len) a b d m
    show fws (fwk len (m + d)) (m + d) a b ≤ _
    unfold fws
    omega
theorem fw_mono {n : Nat} {len : Nat → Nat → Int} {m a b : Nat} (h : m ≤ n) : fw n len a b ≤ fwk len m a b := by
  have := fwk_mono (len := len) a b (n - m) m
  rw [show m + (n - m) = n by omega] at this
  exact this
/-- the first wall of a shortest way -/
theorem fw_first {n : Nat} {len : Nat → Nat → Int} (G : GI n len) : ∀ m, m ≤ n → ∀ a b, a < n → b < n → a ≠ b → fwk len m a b < 1000000 → ∃ c, c < n ∧ 0 < len a c ∧ (len a c).toNat + fw n len c b ≤ fwk len m a b
  | 0, _, a, b, ha, hb, hab, h => by
    have h' : fw0 len a b < 1000000 := h
    show ∃ c, c < n ∧ 0 < len a c ∧ (len a c).toNat + fw n len c b ≤ fw0 len a b
    unfold fw0 at h' ⊢
    rw [if_neg hab] at h' ⊢
    by_cases e : 0 < len a b
    · rw [if_pos e] at h' ⊢
      exact ⟨b, hb, e, by rw [fw_self G hb]; omega⟩
    · rw [if_neg e] at h'
      omega
  | m + 1, hm, a, b, ha, hb, hab, h => by
    have h' : fws (fwk len m) m a b < 1000000 := h
    show ∃ c, c < n ∧ 0 < len a c ∧ (len a c).toNat + fw n len c b ≤ fws (fwk len m) m a b
    unfold fws at h' ⊢
    by_cases e : fwk len m a b ≤ fwk len m a m + fwk len m m b
    · obtain ⟨c, c1, c2, c3⟩ := fw_first G m (by omega) a b ha hb hab (by omega)
      exact ⟨c, c1, c2, by omega⟩
    · have ham : a ≠ m := fun q => by
        subst q
        omega
      obtain ⟨c, c1, c2, c3⟩ := fw_first G m (by omega) a m ha (by omega) ham (by omega)
      have t := fw_tri G c1 hb (show m < n by omega)
      have mo := fw_mono (n := n) (len := len) (m := m) (a := m) (b := b) (by omega)
      exact ⟨c, c1, c2, by omega⟩
/-- how many of the first i posts satisfy p -/
def cnt (p : Nat → Bool) : Nat → Nat
  | 0 => 0
  | i + 1 => cnt p i + (if p i = true then 1 else 0)
theorem cnt_le (p : Nat → Bool) : ∀ i, cnt p i ≤ i
  | 0 => Nat.le_refl _
  | i + 1 => by
    have := cnt_le p i
    show cnt p i + _ ≤ _
    split <;> omega
theorem cnt_mono {p q : Nat → Bool} (h : ∀ x, p x = true → q x = true) : ∀ i, cnt p i ≤ cnt q i
  | 0 => Nat.le_refl _
  | i + 1 => by
    have := cnt_mono h i
    have h2 := h i
    show cnt p i + (if p i = true then 1 else 0) ≤ cnt q i + (if q i = true then 1 else 0)
    by_cases c : p i = true
    · rw [if_pos c, if_pos (h2 c)]; omega
    · rw [if_neg c]; omega
theorem cnt_lt {p q : Nat → Bool} (h : ∀ x, p x = true → q x = true) {c : Nat} (h1 : p c = false) (h2 : q c = true) : ∀ i, c < i → cnt p i < cnt q i
  | 0, hc => by omega
  | i + 1, hc => by
    show cnt p i + (if p i = true then 1 else 0) < cnt q i + (if q i = true then 1 else 0)
    by_cases e : c = i
    · subst e
      have := cnt_mono h c
      rw [if_neg (by rw [h1]; decide), if_pos h2]
      omega
    · have := cnt_lt h h1 h2 i (by omega)
      by_cases d : p i = true
      · rw [if_pos d, if_pos (h i d)]; omega
      · rw [if_neg d]; omega
theorem fw_small {n : Nat} {len : Nat → Nat → Int} (G : GI n len) {b : Nat} (hb : b < n) : ∀ v a, a < n → fw n len a b ≤ v → fw n len a b < 1000000 → fw n len a b ≤ 30 * cnt (fun c => decide (fw n len c b < fw n len a b)) n
  | 0, a, ha, hv, _ => by omega
  | v + 1, a, ha, hv, hf => by
    by_cases e : a = b
    · subst e
      rw [fw_self G ha]
      omega
    · obtain ⟨c, c1, c2, c3⟩ := fw_first G n (Nat.le_refl _) a b ha hb e hf
      have c3' : (len a c).toNat + fw n len c b ≤ fw n len a b := c3
      have hl := (G.lb a c (by have := G.n16; omega) (by have := G.n16; omega)).2
      have tr := fw_tri G ha hb c1
      have f0 : fw n len a c ≤ fwk len 0 a c := fw_mono (by omega)
      have f1 : fwk len 0 a c ≤ (len a c).toNat := by
        show fw0 len a c ≤ _
        unfold fw0
        split
        · omega
        · exact Nat.le_refl _
      have ih := fw_small G hb v c c1 (by omega) (by omega)
      have cl := cnt_lt (p := fun d => decide (fw n len d b < fw n len c b)) (q := fun d => decide (fw n len d b < fw n len a b)) (fun x q => by
        have := of_decide_eq_true q
        exact decide_eq_true (by omega)) (c := c) (decide_eq_false (by omega)) (decide_eq_true (by omega)) n c1
      omega
/-- a way that there is has at most 480 units -/
theorem fw_480 {n : Nat} {len : Nat → Nat → Int} (G : GI n len) {a b : Nat} (ha : a < n) (hb : b < n) (h : fw n len a b < 1000000) : fw n len a b ≤ 480 := by
  have h1 := fw_small G hb _ a ha (Nat.le_refl _) h
  have h2 := cnt_le (fun c => decide (fw n len c b < fw n len a b)) n
  have h3 := G.n16
  omega
