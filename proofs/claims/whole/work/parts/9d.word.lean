/-! PURE 83: the word, as numbers; the reference tells it on -/
def nwT (z t : Int) : Int := if z < 0 then t else if t < 0 then z else if z < t then z else t
def ErT (T : Nat → Int) (s : Nat → Bool) : Nat → Int
  | 0 => -9
  | n + 1 => if s n = false ∧ 0 ≤ T n ∧ (ErT T s n < 0 ∨ T n < T (ErT T s n).toNat) then (n : Int) else ErT T s n
theorem ErT_spec (T : Nat → Int) (s : Nat → Bool) : ∀ n, (ErT T s n = -9 ∧ ∀ w, w < n → s w = false → T w < 0) ∨ ∃ x : Nat, x < n ∧ ErT T s n = (x : Int) ∧ s x = false ∧ 0 ≤ T x
  | 0 => Or.inl ⟨rfl, fun w h => by omega⟩
  | n + 1 => by
    show ((if s n = false ∧ 0 ≤ T n ∧ (ErT T s n < 0 ∨ T n < T (ErT T s n).toNat) then (n : Int) else ErT T s n) = -9 ∧ _) ∨ ∃ x : Nat, x < n + 1 ∧ (if s n = false ∧ 0 ≤ T n ∧ (ErT T s n < 0 ∨ T n < T (ErT T s n).toNat) then (n : Int) else ErT T s n) = (x : Int) ∧ _
    by_cases c : s n = false ∧ 0 ≤ T n ∧ (ErT T s n < 0 ∨ T n < T (ErT T s n).toNat)
    · rw [if_pos c]
      exact Or.inr ⟨n, by omega, rfl, c.1, c.2.1⟩
    · rw [if_neg c]
      rcases ErT_spec T s n with ⟨e, q⟩ | ⟨x, x1, x2, x3⟩
      · refine Or.inl ⟨e, fun w h sw => ?_⟩
        by_cases d : w = n
        · subst d
          by_cases t : 0 ≤ T w
          · exact absurd ⟨sw, t, Or.inl (by rw [e]; decide)⟩ c
          · omega
        · exact q w (by omega) sw
      · exact Or.inr ⟨x, by omega, x2, x3⟩
def MW (D : Da) (T : Nat → Int) (s : Nat → Bool) (μ : Mm) : Prop := ∀ w, w < D.w → μ.2 22 w = zL (T w) ∧ μ.1 23 w = b2 (s w)
theorem MW.kfr {D : Da} {T : Nat → Int} {s : Nat → Bool} {μ μ' : Mm} (h : MW D T s μ) (f : KFr μ μ') : MW D T s μ' := fun w hw => ⟨by rw [f.2.2]; exact (h w hw).1, by rw [f.1 23 (by decide)]; exact (h w hw).2⟩
theorem MFr.l22 (μ : Mm) (i : Nat) (v : Int64) : MFr μ (sL μ 22 i v) := ⟨fun _ _ => rfl, fun _ _ => rfl, fun f _ => by rw [sL2, if_neg (by decide)]⟩
theorem MFr.i23 (μ : Mm) (i : Nat) (v : Int32) : MFr μ (sI μ 23 i v) := MFr.cell (c := 23) (Or.inr ⟨by decide, by decide⟩) μ (upd (μ.1 23) i v)
def upT (T : Nat → Int) (i : Nat) (v : Int) : Nat → Int := fun w => if w = i then v else T w
theorem upT_eq (T : Nat → Int) (i : Nat) (v : Int) : upT T i v i = v := by unfold upT; rw [if_pos rfl]
theorem upT_ne (T : Nat → Int) {i w : Nat} (v : Int) (h : w ≠ i) : upT T i v w = T w := by unfold upT; rw [if_neg h]
theorem MW.set {D : Da} {T : Nat → Int} {s : Nat → Bool} {μ : Mm} (h : MW D T s μ) (i : Nat) (v : Int) : MW D (upT T i v) s (sL μ 22 i (zL v)) := fun w hw => by
  refine ⟨?_, (h w hw).2⟩
  rw [sL2, if_pos rfl, updL_at]
  unfold upT
  by_cases c : w = i
  · rw [if_pos c, if_pos c]
  · rw [if_neg c, if_neg c]; exact (h w hw).1
theorem nwT_b {z t B : Int} (z1 : -1 ≤ z) (z2 : z < B) (t1 : -1 ≤ t) (t2 : t < B) : -1 ≤ nwT z t ∧ nwT z t < B := by
  unfold nwT
  by_cases a : z < 0
  · rw [if_pos a]; exact ⟨t1, t2⟩
  · rw [if_neg a]
    by_cases b : t < 0
    · rw [if_pos b]; exact ⟨z1, z2⟩
    · rw [if_neg b]
      by_cases c : z < t
      · rw [if_pos c]; exact ⟨z1, z2⟩
      · rw [if_neg c]; exact ⟨t1, t2⟩
/-- one after another is told -/
def StW (D : Da) (F : Nat) (T : Nat → Int) (s : Nat → Bool) (i : Nat) (T' : Nat → Int) (Q : Nat → Int64 → Prop) : Prop := (∀ w, ¬ (i ≤ w ∧ w < D.w ∧ D.go w = true ∧ s w = false) → T' w = T w) ∧ ∀ w, i ≤ w → w < D.w → D.go w = true → s w = false → ∃ z : Int, Q w (zL z) ∧ -1 ≤ z ∧ z < F + 2 ^ 29 ∧ T' w = nwT z (T w)
theorem StW.skip {D : Da} {F : Nat} {T T' : Nat → Int} {s : Nat → Bool} {i : Nat} {Q : Nat → Int64 → Prop} (h : StW D F T s (i + 1) T' Q) (n : ¬ (i < D.w ∧ D.go i = true ∧ s i = false)) : StW D F T s i T' Q := by
  refine ⟨fun w q => h.1 w (fun p => q ⟨by omega, p.2⟩), fun w w1 w2 w3 w4 => ?_⟩
  by_cases c : w = i
  · subst c; exact absurd ⟨w2, w3, w4⟩ n
  · exact h.2 w (by omega) w2 w3 w4
theorem StW.one {D : Da} {F : Nat} {T T' : Nat → Int} {s : Nat → Bool} {i : Nat} {Q : Nat → Int64 → Prop} {z : Int} (h : StW D F (upT T i (nwT z (T i))) s (i + 1) T' Q) (q : Q i (zL z)) (z1 : -1 ≤ z) (z2 : z < F + 2 ^ 29) (n : i < D.w ∧ D.go i = true ∧ s i = false) : StW D F T s i T' Q := by
  refine ⟨fun w p => ?_, fun w w1 w2 w3 w4 => ?_⟩
  · by_cases c : w = i
    · subst c; exact absurd ⟨Nat.le_refl _, n⟩ p
    · rw [h.1 w (fun r => p ⟨by omega, r.2⟩), upT_ne _ _ c]
  · by_cases c : w = i
    · subst c
      refine ⟨z, q, z1, z2, ?_⟩
      rw [h.1 w (fun r => by omega), upT_eq]
    · obtain ⟨z', a, b, d, e⟩ := h.2 w (by omega) w2 w3 w4
      exact ⟨z', a, b, d, by rw [e, upT_ne _ _ c]⟩
theorem M_tell_loop (N : Nat) (hN : 61000 ≤ N) {D : Da} (I : DI D) (sh : D.short) {x : Nat} (hx : x < D.w) (gx : D.go x = true) {F : Nat} (hF : F < 2 ^ 40) (s : Nat → Bool) (sx : s x = true) (k46 : Int32 → Mm → Option Mm) : ∀ (m i : Nat) (T : Nat → Int) (μ : Mm), DM D μ → μ.1 0 27 = nI 0 → MW D T s μ → T x = F → (∀ w, -1 ≤ T w ∧ T w < 2 ^ 41) → i ≤ D.w → D.w < m + i → ∃ T' μ', f_M_layWord_L62 N k46 m (nI x) (nI i) μ = f_M_layWord_B162 N k46 μ' ∧ MFr μ μ' ∧ MW D T' s μ' ∧ StW D F T s i T' (fun w r => D.MR x w F ((F / 27720 + D.j2 x w + 1) * 27720) r) := by
  have w8 := I.w8
  intro m
  induction m with
  | zero => intro i T μ _ _ _ _ _ h1 h2; omega
  | succ m ih =>
    intro i T μ M e0 W tx tb h1 h2
    rw [f_M_layWord_L62, M.w]
    unfold f_M_layWord_B156
    simp only [← nI_succ]
    by_cases z : i = D.w
    · rw [if_pos (by rw [z]; exact nI_le (Nat.le_refl _) (by omega))]
      exact ⟨T, μ, rfl, MFr.refl _, W, fun w _ => rfl, fun w w1 w2 => by omega⟩
    · have hi : i < D.w := by omega
      rw [if_neg (nI_ge (by omega) (by omega))]
      have gi := M_goes_eq N (by omega) I (L := 0) (by decide) hi μ M e0
      rw [D.goL0] at gi
      rw [gi, bnS]
      have skip : ¬ (i < D.w ∧ D.go i = true ∧ s i = false) → ∃ T' μ', f_M_layWord_L62 N k46 m (nI x) (nI (i + 1)) μ = f_M_layWord_B162 N k46 μ' ∧ MFr μ μ' ∧ MW D T' s μ' ∧ StW D F T s i T' (fun w r => D.MR x w F ((F / 27720 + D.j2 x w + 1) * 27720) r) := by
        intro n
        obtain ⟨T', μ', k1, k2, k3, k4⟩ := ih (i + 1) T μ M e0 W tx tb (by omega) (by omega)
        exact ⟨T', μ', k1, k2, k3, k4.skip n⟩
      by_cases g : D.go i = true
      · rw [if_neg (show ¬ b2 (D.go i) = 0 by rw [g]; decide), if_pos (ixb_t (show i < 8 by omega) (show 8 < 2 ^ 31 by decide)), nI_clamp (show i < 2 ^ 31 by omega), (W i hi).2]
        by_cases si : s i = false
        · rw [if_pos (show b2 (s i) = 0 by rw [si]; rfl), if_pos (ixb_t (show x < 8 by omega) (show 8 < 2 ^ 31 by decide)), nI_clamp (show x < 2 ^ 31 by omega), (W x hx).1, tx]
          have nxi : x ≠ i := fun q => by rw [q, si] at sx; cases sx
          have j := short2 I sh hx hi gx g nxi
          obtain ⟨r, μ1, l1, l2, l3⟩ := M_meetFrom_eq N (by omega) I hx hi gx g (F := F) (by omega) j μ M
          rw [show zL (F : Int) = lN F from rfl, l1, bnS]
          have W1 := W.kfr l2
          have fr1 : MFr μ μ1 := l2.mfr
          have fin : ∀ z : Int, r = zL z → -1 ≤ z → z < F + 2 ^ 29 → ∃ T' μ', f_M_layWord_L62 N k46 m (nI x) (nI (i + 1)) (sL μ1 22 i (zL (nwT z (T i)))) = f_M_layWord_B162 N k46 μ' ∧ MFr μ μ' ∧ MW D T' s μ' ∧ StW D F T s i T' (fun w r => D.MR x w F ((F / 27720 + D.j2 x w + 1) * 27720) r) := by
            intro z ez z1 z2
            have fr2 := fr1.trans (MFr.l22 μ1 i (zL (nwT z (T i))))
            have nb := nwT_b (B := 2 ^ 41) z1 (by omega) (tb i).1 (tb i).2
            obtain ⟨T', μ', k1, k2, k3, k4⟩ := ih (i + 1) (upT T i (nwT z (T i))) (sL μ1 22 i (zL (nwT z (T i)))) (fr2.dm M) ((fr2.1 27 (by decide)).trans e0) (W1.set i _) (by rw [upT_ne _ _ nxi]; exact tx) (fun w => by
              unfold upT
              by_cases c : w = i
              · rw [if_pos c]; exact nb
              · rw [if_neg c]; exact tb w) (by omega) (by omega)
            exact ⟨T', μ', k1, fr2.trans k2, k3, StW.one (z := z) k4 (by rw [← ez]; exact l3) z1 z2 ⟨hi, g, si⟩⟩
          unfold f_M_layWord_B148 f_M_layWord_B143 f_M_layWord_B155 f_M_layWord_B156
          have ti := tb i
          simp only [if_pos (ixb_t (show i < 8 by omega) (show 8 < 2 ^ 31 by decide)), nI_clamp (show i < 2 ^ 31 by omega), (W1 i hi).1, ← nI_succ, cmp_lt64, cmp_ge64, zL_toInt (show -2 ^ 63 ≤ T i by omega) (show T i < 2 ^ 63 by omega), show (0 : Int64).toInt = 0 from rfl]
          have l3' := l3
          rcases l3 with ⟨q, _⟩ | ⟨y, q, y1, y2, _⟩
          · have f0 := fin (-1) (by rw [q]; rfl) (by omega) (by omega)
            have e1 : nwT (-1) (T i) = T i := by unfold nwT; rw [if_pos (by decide)]
            rw [e1] at f0
            rw [q, if_pos (show (-1 : Int64).toInt < 0 by decide)]
            exact f0
          · have f0 := fin y (by rw [q]; rfl) (by omega) (by omega)
            rw [q, pk_lT (by omega), if_neg (by omega)]
            by_cases c1 : T i < 0
            · have e1 : nwT y (T i) = y := by unfold nwT; rw [if_neg (by omega), if_pos c1]
              rw [e1] at f0
              rw [if_pos c1]
              exact f0
            · rw [if_neg c1]
              by_cases c2 : T i ≤ y
              · have e1 : nwT y (T i) = T i := by unfold nwT; rw [if_neg (by omega), if_neg c1, if_neg (by omega)]
                rw [e1] at f0
                rw [if_pos c2]
                exact f0
              · have e1 : nwT y (T i) = y := by unfold nwT; rw [if_neg (by omega), if_neg c1, if_pos (by omega)]
                rw [e1] at f0
                rw [if_neg c2]
                exact f0
        · rw [if_neg (show ¬ b2 (s i) = 0 from fun q => si ((b2_0 _).mp q))]
          exact skip (fun q => si q.2.2)
      · rw [if_pos (show b2 (D.go i) = 0 by cases q : D.go i; rfl; exact absurd q g)]
        exact skip (fun q => g q.2.1)
theorem M_er_loop (N : Nat) {D : Da} (I : DI D) (T : Nat → Int) (s : Nat → Bool) (k46 : Int32 → Mm → Option Mm) (μ : Mm) (M : DM D μ) (W : MW D T s μ) (tb : ∀ w, -1 ≤ T w ∧ T w < 2 ^ 41) : ∀ (m i : Nat), i ≤ D.w → D.w < m + i → f_M_layWord_L168 N k46 m (zI (ErT T s i)) (nI i) μ = k46 (zI (ErT T s D.w)) μ := by
  have w8 := I.w8
  intro m
  induction m with
  | zero => intro i h1 h2; omega
  | succ m ih =>
    intro i h1 h2
    rw [f_M_layWord_L168, M.w]
    unfold f_M_layWord_B235 f_M_layWord_B227 f_M_layWord_B222 f_M_layWord_B228
    simp only [← nI_succ]
    by_cases z : i = D.w
    · rw [if_pos (by rw [z]; exact nI_le (Nat.le_refl _) (by omega)), z]
    · have hi : i < D.w := by omega
      have ti := tb i
      have nx := ih (i + 1) (by omega) (by omega)
      have er : ErT T s (i + 1) = if s i = false ∧ 0 ≤ T i ∧ (ErT T s i < 0 ∨ T i < T (ErT T s i).toNat) then (i : Int) else ErT T s i := rfl
      rw [if_neg (nI_ge (by omega) (by omega)), if_pos (ixb_t (show i < 8 by omega) (show 8 < 2 ^ 31 by decide))]
      simp only [if_pos (ixb_t (show i < 8 by omega) (show 8 < 2 ^ 31 by decide)), nI_clamp (show i < 2 ^ 31 by omega), (W i hi).1, (W i hi).2, cmp_lt64, cmp_ge64, zL_toInt (show -2 ^ 63 ≤ T i by omega) (show T i < 2 ^ 63 by omega), show (0 : Int64).toInt = 0 from rfl]
      by_cases si : s i = false
      · rw [if_pos (show b2 (s i) = 0 by rw [si]; rfl)]
        by_cases t0 : T i < 0
        · rw [if_pos t0, ← nx, er, if_neg (by omega)]
        · rw [if_neg t0]
          rcases ErT_spec T s i with ⟨e, _⟩ | ⟨x, x1, e, x2, x3⟩
          · rw [if_pos (by rw [e]; rfl), ← nx, er, if_pos ⟨si, by omega, Or.inl (by rw [e]; decide)⟩, zI_n]
          · rw [e] at er ⊢
            have tx := tb x
            rw [Int.toNat_natCast] at er
            rw [← zI_n x, if_neg (show ¬ nI x = (-9 : Int32) from fun q => by rw [eq_I, tI (by omega), show (-9 : Int32).toInt = -9 from rfl] at q; omega), if_pos (ixb_t (show x < 8 by omega) (show 8 < 2 ^ 31 by decide)), nI_clamp (show x < 2 ^ 31 by omega), (W x (by omega)).1, zL_toInt (by omega) (by omega)]
            by_cases c : T x ≤ T i
            · rw [if_pos c, ← nx, er, if_neg (by omega), zI_n]
            · rw [if_neg c, ← nx, er, if_pos ⟨si, by omega, Or.inr (by omega)⟩, zI_n]
      · rw [if_neg (show ¬ b2 (s i) = 0 from fun q => si ((b2_0 _).mp q)), ← nx, er, if_neg (fun q => si q.1)]
