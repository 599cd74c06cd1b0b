/-! PURE 21: how far: what both loops work out -/
def fw0 (len : Nat → Nat → Int) (a b : Nat) : Nat := if a = b then 0 else if 0 < len a b then (len a b).toNat else 1000000
def fws (F : Nat → Nat → Nat) (m a b : Nat) : Nat := min (F a b) (F a m + F m b)
def fwk (len : Nat → Nat → Int) : Nat → Nat → Nat → Nat
  | 0 => fw0 len
  | m + 1 => fws (fwk len m) m
def fw (n : Nat) (len : Nat → Nat → Int) : Nat → Nat → Nat := fwk len n
/-- a table of numbers, row by row -/
def FA (n : Nat) (F : Nat → Nat → Nat) (f : Nat → Int32) : Prop := ∀ a b, a < n → b < n → f (16 * a + b) = nI (F a b)
def FB (n : Nat) (F : Nat → Nat → Nat) : Prop := (∀ a, a < n → F a a = 0) ∧ ∀ a b, a < n → b < n → F a b ≤ 1000000
theorem fws_row {F : Nat → Nat → Nat} {m y : Nat} (h : F m m = 0) : fws F m m y = F m y := by unfold fws; omega
theorem fws_col {F : Nat → Nat → Nat} {m x : Nat} (h : F m m = 0) : fws F m x m = F x m := by unfold fws; omega
theorem FB_s {n m : Nat} {F : Nat → Nat → Nat} (h : FB n F) (hm : m < n) : FB n (fws F m) := by
  refine ⟨fun a ha => ?_, fun a b ha hb => ?_⟩
  · have := h.1 a ha
    unfold fws; omega
  · have := h.2 a b ha hb
    unfold fws; omega
theorem FB_0 {n : Nat} {len : Nat → Nat → Int} (g : GI n len) : FB n (fw0 len) := by
  have h16 := g.n16
  refine ⟨fun a ha => if_pos rfl, fun a b ha hb => ?_⟩
  have := g.lb a b (by omega) (by omega)
  unfold fw0
  repeat' split
  all_goals omega
theorem FB_k {n : Nat} {len : Nat → Nat → Int} (g : GI n len) : ∀ m, m ≤ n → FB n (fwk len m)
  | 0, _ => FB_0 g
  | m + 1, h => FB_s (FB_k g m (by omega)) (by omega)
theorem sAat (μ : Mm) (c : Nat) (f : Nat → Int32) : (sA μ c f).1 c = f := if_pos rfl
theorem sA_ne (μ : Mm) {c d : Nat} (f : Nat → Int32) (h : d ≠ c) : (sA μ c f).1 d = μ.1 d := if_neg h
theorem sI_A (μ : Mm) (c k : Nat) (v : Int32) (f : Nat → Int32) : sI (sA μ c f) c k v = sA μ c (upd f k v) := by
  rw [sI_sA, sA_sA, sAat]
theorem ix_inj {a b x y : Nat} (hb : b < 16) (hy : y < 16) : 16 * a + b = 16 * x + y ↔ a = x ∧ b = y := by omega
theorem nIc {a b : Nat} (ha : a < 2 ^ 31) (hb : b < 2 ^ 31) : nI a ≤ nI b ↔ a ≤ b := by
  rw [le_I, tI ha, tI hb]; omega
theorem nIl {a b : Nat} (ha : a < 2 ^ 31) (hb : b < 2 ^ 31) : nI a < nI b ↔ a < b := by
  rw [lt_I, tI ha, tI hb]; omega
/-- one row shortened -/
theorem Gr_short_loop (N n y a s : Nat) (F : Nat → Nat → Nat) (hn : n ≤ 16) (hy : y < n) (ha : a < n) (hya : y ≠ a) (B : FB n F) (hs : s < 1000000) (μ0 : Mm) (en : μ0.1 6 1 = nI n) : ∀ (m i : Nat) (f : Nat → Int32), i ≤ n → n < m + i → (∀ x z, x < n → z < n → f (16 * x + z) = nI (if x = a ∧ z < i then min (F a z) (s + F y z) else F x z)) → ∃ g, f_Gr_shortenBy_L15 N m (nI y) (nI a) (nI s) (nI i) (sA μ0 10 f) = some (sA μ0 10 g) ∧ (∀ x z, x < n → z < n → g (16 * x + z) = nI (if x = a then min (F a z) (s + F y z) else F x z)) := by
  intro m
  induction m with
  | zero => intro i f h1 h2; omega
  | succ m ih =>
    intro i f h1 h2 hf
    rw [f_Gr_shortenBy_L15, sA_ne _ _ (by decide), en]
    by_cases h : i = n
    · subst h
      rw [if_pos (nI_le (Nat.le_refl _) (by omega))]
      refine ⟨f, rfl, fun x z hx hz => ?_⟩
      rw [hf x z hx hz]
      by_cases c : x = a
      · rw [if_pos c, if_pos ⟨c, hz⟩]
      · rw [if_neg c, if_neg (fun q => c q.1)]
    · have hi : i < n := by omega
      have b1 := B.2 y i hy hi
      have b2 := B.2 a i ha hi
      rw [if_neg (nI_ge (by omega) (by omega))]
      unfold f_Gr_shortenBy_B71
      simp only [ix16, nI_1, if_pos (ixb_t (show 16 * y + i < 256 by omega) (show 256 < 2 ^ 31 by decide)), if_pos (ixb_t (show 16 * a + i < 256 by omega) (show 256 < 2 ^ 31 by decide)), nI_clamp (show 16 * y + i < 2 ^ 31 by omega), nI_clamp (show 16 * a + i < 2 ^ 31 by omega), sAat, sI_A]
      have e1 : f (16 * y + i) = nI (F y i) := by rw [hf y i hy hi, if_neg (fun q => hya q.1)]
      have e2 : f (16 * a + i) = nI (F a i) := by rw [hf a i ha hi, if_neg (by omega)]
      rw [e1, e2, nI_add]
      have fin : ∀ f', (∀ x z, x < n → z < n → ¬ (x = a ∧ z = i) → f' (16 * x + z) = f (16 * x + z)) → f' (16 * a + i) = nI (min (F a i) (s + F y i)) → ∃ g, f_Gr_shortenBy_L15 N m (nI y) (nI a) (nI s) (nI (i + 1)) (sA μ0 10 f') = some (sA μ0 10 g) ∧ (∀ x z, x < n → z < n → g (16 * x + z) = nI (if x = a then min (F a z) (s + F y z) else F x z)) := by
        intro f' h3 h4
        refine ih (i + 1) f' (by omega) (by omega) (fun x z hx hz => ?_)
        by_cases c : x = a ∧ z = i
        · rw [c.1, c.2, h4, if_pos ⟨rfl, by omega⟩]
        · rw [h3 x z hx hz c, hf x z hx hz]
          by_cases c2 : x = a ∧ z < i
          · rw [if_pos c2, if_pos ⟨c2.1, by omega⟩]
          · rw [if_neg c2, if_neg (by omega)]
      by_cases c : F a i ≤ s + F y i
      · rw [if_pos ((nIc (by omega) (by omega)).mpr c)]
        refine fin f (fun _ _ _ _ _ => rfl) ?_
        rw [e2]
        congr 1; omega
      · rw [if_neg (fun q => c ((nIc (by omega) (by omega)).mp q))]
        refine fin _ (fun x z hx hz q => upd_ne _ _ (fun q2 => q ((ix_inj (by omega) (by omega)).mp q2))) ?_
        rw [upd_eq]
        congr 1; omega
theorem Gr_rows_loop (N n y : Nat) (F : Nat → Nat → Nat) (hn : n ≤ 16) (hN : 20 ≤ N) (hy : y < n) (B : FB n F) (k79 : Int32 → Mm → Option Mm) (μ0 : Mm) (en : μ0.1 6 1 = nI n) : ∀ (m i : Nat) (f : Nat → Int32), i ≤ n → n < m + i → (∀ x z, x < n → z < n → f (16 * x + z) = nI (if x < i then fws F y x z else F x z)) → ∃ g, f_Gr_measure_L89 N k79 m (nI y) (nI i) (sA μ0 10 f) = k79 (nI (y + 1)) (sA μ0 10 g) ∧ FA n (fws F y) g := by
  intro m
  induction m with
  | zero => intro i f h1 h2; omega
  | succ m ih =>
    intro i f h1 h2 hf
    rw [f_Gr_measure_L89, sA_ne _ _ (by decide), en]
    by_cases h : i = n
    · subst h
      rw [if_pos (nI_le (Nat.le_refl _) (by omega))]
      unfold f_Gr_measure_B130
      simp only [nI_1]
      refine ⟨f, rfl, fun x z hx hz => ?_⟩
      rw [hf x z hx hz, if_pos hx]
    · have hi : i < n := by omega
      have b1 := B.2 i y hi hy
      have hyy := B.1 y hy
      rw [if_neg (nI_ge (by omega) (by omega))]
      unfold f_Gr_measure_B124
      simp only [ix16, nI_1, if_pos (ixb_t (show 16 * i + y < 256 by omega) (show 256 < 2 ^ 31 by decide)), nI_clamp (show 16 * i + y < 2 ^ 31 by omega), sAat]
      have same : (∀ z, z < n → fws F y i z = F i z) → ∃ g, f_Gr_measure_L89 N k79 m (nI y) (nI (i + 1)) (sA μ0 10 f) = k79 (nI (y + 1)) (sA μ0 10 g) ∧ FA n (fws F y) g := by
        intro q
        refine ih (i + 1) f (by omega) (by omega) (fun x z hx hz => ?_)
        rw [hf x z hx hz]
        by_cases c : x < i
        · rw [if_pos c, if_pos (by omega)]
        · by_cases c2 : x = i
          · subst c2
            rw [if_neg c, if_pos (by omega), q z hz]
          · rw [if_neg c, if_neg (by omega)]
      by_cases c : i = y
      · rw [if_pos (by rw [c])]
        exact same (fun z _ => by rw [c]; exact fws_row hyy)
      · have e3 : f (16 * i + y) = nI (F i y) := by rw [hf i y hi hy, if_neg (by omega)]
        rw [if_neg (fun q => c ((nI_eq (by omega) (by omega)).mp q)), e3]
        by_cases c3 : 1000000 ≤ F i y
        · rw [if_pos (show (1000000 : Int32) ≤ nI (F i y) from (nIc (a := 1000000) (by decide) (by omega)).mpr c3)]
          refine same (fun z hz => ?_)
          have := B.2 i z hi hz
          unfold fws; omega
        · rw [if_neg (show ¬ (1000000 : Int32) ≤ nI (F i y) from fun q => c3 ((nIc (a := 1000000) (by decide) (by omega)).mp q))]
          unfold f_Gr_shortenBy
          simp only [ix16, if_pos (ixb_t (show 16 * i + y < 256 by omega) (show 256 < 2 ^ 31 by decide)), nI_clamp (show 16 * i + y < 2 ^ 31 by omega), sAat]
          rw [e3]
          have B2 : FB n (fun x z => if x < i then fws F y x z else F x z) := by
            have Bs := FB_s B hy
            refine ⟨fun x hx => ?_, fun x z hx hz => ?_⟩
            · show (if x < i then fws F y x x else F x x) = 0
              split
              · exact Bs.1 x hx
              · exact B.1 x hx
            · show (if x < i then fws F y x z else F x z) ≤ 1000000
              split
              · exact Bs.2 x z hx hz
              · exact B.2 x z hx hz
          obtain ⟨g, g1, g2⟩ := Gr_short_loop N n y i (F i y) (fun x z => if x < i then fws F y x z else F x z) hn hy hi (fun q => c q.symm) B2 (by omega) μ0 en N 0 f (by omega) (by omega) (fun x z hx hz => by
            rw [hf x z hx hz, if_neg (show ¬ (x = i ∧ z < 0) by omega)])
          rw [show f_Gr_shortenBy_L15 N N (nI y) (nI i) (nI (F i y)) 0 (sA μ0 10 f) = some (sA μ0 10 g) from g1]
          simp only [bvS]
          refine ih (i + 1) g (by omega) (by omega) (fun x z hx hz => ?_)
          rw [g2 x z hx hz]
          by_cases c4 : x = i
          · rw [if_pos c4, if_pos (show x < i + 1 by omega), if_neg (show ¬ i < i by omega), c4]
            have e1 : (if y < i then fws F y y z else F y z) = F y z := by
              split
              · exact fws_row hyy
              · rfl
            rw [e1]
            rfl
          · rw [if_neg c4]
            by_cases c5 : x < i
            · rw [if_pos c5, if_pos (show x < i + 1 by omega)]
            · rw [if_neg c5, if_neg (show ¬ x < i + 1 by omega)]
theorem Gr_by_loop (N n : Nat) (len : Nat → Nat → Int) (G : GI n len) (hN : 20 ≤ N) (μ0 : Mm) (en : μ0.1 6 1 = nI n) : ∀ (m i : Nat) (f : Nat → Int32), i ≤ n → n < m + i → FA n (fwk len i) f → ∃ g, f_Gr_measure_L79 N m (nI i) (sA μ0 10 f) = some (sI (sA μ0 10 g) 6 9 0) ∧ FA n (fw n len) g := by
  have hn := G.n16
  intro m
  induction m with
  | zero => intro i f h1 h2; omega
  | succ m ih =>
    intro i f h1 h2 hf
    rw [f_Gr_measure_L79, sA_ne _ _ (by decide), en]
    by_cases h : i = n
    · subst h
      rw [if_pos (nI_le (Nat.le_refl _) (by omega))]
      exact ⟨f, rfl, hf⟩
    · rw [if_neg (nI_ge (by omega) (by omega))]
      obtain ⟨g, g1, g2⟩ := Gr_rows_loop N n i (fwk len i) hn hN (by omega) (FB_k G i (by omega)) (f_Gr_measure_L79 N m) μ0 en N 0 f (by omega) (by omega) (fun x z hx hz => by rw [hf x z hx hz, if_neg (show ¬ x < 0 by omega)])
      rw [show f_Gr_measure_L89 N (f_Gr_measure_L79 N m) N (nI i) 0 (sA μ0 10 f) = f_Gr_measure_L79 N m (nI (i + 1)) (sA μ0 10 g) from g1]
      exact ih (i + 1) g (by omega) (by omega) g2
theorem Gr_lengthOf_at (N : Nat) {a b : Nat} (ha : a < 16) (hb : b < 16) (μ : Mm) : f_Gr_lengthOf N (nI a) (nI b) μ = some (μ.1 7 (16 * a + b), μ) := by
  unfold f_Gr_lengthOf
  simp only [ix16, if_pos (ixb_t (show 16 * a + b < 256 by omega) (show 256 < 2 ^ 31 by decide)), nI_clamp (show 16 * a + b < 2 ^ 31 by omega)]
theorem Gr_init_row (N n a : Nat) (len : Nat → Nat → Int) (G : GI n len) (ha : a < n) (k10 : Int32 → Mm → Option Mm) (μ0 : Mm) (X : GX n len μ0) : ∀ (m i : Nat) (f : Nat → Int32), i ≤ n → n < m + i → (∀ x y, x < n → y < n → (x < a ∨ (x = a ∧ y < i)) → f (16 * x + y) = nI (fw0 len x y)) → ∃ g, f_Gr_measure_L20 N k10 m (nI a) (nI i) (sA μ0 10 f) = k10 (nI (a + 1)) (sA μ0 10 g) ∧ ∀ x y, x < n → y < n → x < a + 1 → g (16 * x + y) = nI (fw0 len x y) := by
  have hn := G.n16
  intro m
  induction m with
  | zero => intro i f h1 h2; omega
  | succ m ih =>
    intro i f h1 h2 hf
    rw [f_Gr_measure_L20, sA_ne _ _ (by decide), X.n]
    by_cases h : i = n
    · subst h
      rw [if_pos (nI_le (Nat.le_refl _) (by omega))]
      unfold f_Gr_measure_B71
      simp only [nI_1]
      exact ⟨f, rfl, fun x y hx hy q => hf x y hx hy (by omega)⟩
    · have hi : i < n := by omega
      rw [if_neg (nI_ge (by omega) (by omega)), Gr_lengthOf_at N (by omega) (by omega)]
      unfold f_Gr_measure_B64
      simp only [bnS, ix16, nI_1, if_pos (ixb_t (show 16 * a + i < 256 by omega) (show 256 < 2 ^ 31 by decide)), nI_clamp (show 16 * a + i < 2 ^ 31 by omega), sI_A, sA_ne μ0 f (show 7 ≠ 10 by decide)]
      have hl := X.len a i (by omega) (by omega)
      have fin : ∀ v, v = nI (fw0 len a i) → ∃ g, f_Gr_measure_L20 N k10 m (nI a) (nI (i + 1)) (sA μ0 10 (upd f (16 * a + i) v)) = k10 (nI (a + 1)) (sA μ0 10 g) ∧ ∀ x y, x < n → y < n → x < a + 1 → g (16 * x + y) = nI (fw0 len x y) := by
        intro v hv
        refine ih (i + 1) _ (by omega) (by omega) (fun x y hx hy q => ?_)
        by_cases c : x = a ∧ y = i
        · rw [c.1, c.2, upd_eq, hv]
        · rw [upd_ne _ _ (fun q2 => c ((ix_inj (by omega) (by omega)).mp q2)), hf x y hx hy (by omega)]
      by_cases c : a = i
      · rw [if_pos (by rw [c])]
        exact fin 0 (by unfold fw0; rw [if_pos c]; rfl)
      · rw [if_neg (fun q => c ((nI_eq (by omega) (by omega)).mp q))]
        by_cases c2 : μ0.1 7 (16 * a + i) ≤ 0
        · rw [if_pos c2]
          refine fin 1000000 ?_
          rw [le_I, hl, show (0 : Int32).toInt = 0 from rfl] at c2
          unfold fw0
          rw [if_neg c, if_neg (by omega)]
          rfl
        · rw [if_neg c2]
          refine fin _ ?_
          rw [le_I, hl, show (0 : Int32).toInt = 0 from rfl] at c2
          unfold fw0
          rw [if_neg c, if_pos (by omega)]
          exact nI_tI (by omega) (by omega)
theorem Gr_init_loop (N n : Nat) (len : Nat → Nat → Int) (G : GI n len) (hN : 20 ≤ N) (μ0 : Mm) (X : GX n len μ0) : ∀ (m i : Nat) (f : Nat → Int32), i ≤ n → n < m + i → (∀ x y, x < n → y < n → x < i → f (16 * x + y) = nI (fw0 len x y)) → ∃ g, f_Gr_measure_L10 N m (nI i) (sA μ0 10 f) = some (sI (sA μ0 10 g) 6 9 0) ∧ FA n (fw n len) g := by
  have hn := G.n16
  intro m
  induction m with
  | zero => intro i f h1 h2; omega
  | succ m ih =>
    intro i f h1 h2 hf
    rw [f_Gr_measure_L10, sA_ne _ _ (by decide), X.n]
    by_cases h : i = n
    · subst h
      rw [if_pos (nI_le (Nat.le_refl _) (by omega))]
      unfold f_Gr_measure_B77
      exact Gr_by_loop N i len G hN μ0 X.n N 0 f (by omega) (by omega) (fun x z hx hz => hf x z hx hz hx)
    · rw [if_neg (nI_ge (by omega) (by omega))]
      obtain ⟨g, g1, g2⟩ := Gr_init_row N n i len G (by omega) (f_Gr_measure_L10 N m) μ0 X N 0 f (by omega) (by omega) (fun x y hx hy q => hf x y hx hy (by omega))
      rw [show f_Gr_measure_L20 N (f_Gr_measure_L10 N m) N (nI i) 0 (sA μ0 10 f) = f_Gr_measure_L10 N m (nI (i + 1)) (sA μ0 10 g) from g1]
      exact ih (i + 1) g (by omega) (by omega) g2
/-- what measure leaves behind -/
theorem Gr_measure_eq (N n : Nat) (len : Nat → Nat → Int) (G : GI n len) (hN : 20 ≤ N) (μ : Mm) (X : GX n len μ) (hold : μ.1 6 9 = 0 → FA n (fw n len) (μ.1 10)) : ∃ g, f_Gr_measure N μ = some (sI (sA μ 10 g) 6 9 0) ∧ FA n (fw n len) g := by
  have hn := G.n16
  unfold f_Gr_measure
  by_cases c : μ.1 6 9 = 0
  · rw [if_pos c]
    refine ⟨μ.1 10, ?_, hold c⟩
    rw [sA_id, sI_sA]
    have : upd (μ.1 6) 9 0 = μ.1 6 := by
      funext x
      rw [upd_at]
      split
      · rename_i e; rw [e, c]
      · rfl
    rw [this, sA_id]
  · rw [if_neg c]
    obtain ⟨g, g1, g2⟩ := Gr_init_loop N n len G hN μ X N 0 (μ.1 10) (by omega) (by omega) (fun x y _ _ q => by omega)
    rw [sA_id] at g1
    exact ⟨g, g1, g2⟩
