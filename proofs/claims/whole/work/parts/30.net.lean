/-! PURE 10: net -/
theorem mem_ext {μ ν : Mm} (h1 : ∀ c, μ.1 c = ν.1 c) (h2 : μ.2 = ν.2) : μ = ν := Prod.ext (funext h1) h2
theorem Gr_beg7 (N : Nat) : ∀ (n i : Nat) (μ : Mm), i ≤ 256 → 256 < n + i → f_Gr_begin_L22 N n (nI i) μ = f_Gr_begin_B42 N (sA μ 7 (fil (μ.1 7) i 256 0)) := by
  intro n
  induction n with
  | zero => intro i μ h1 h2; omega
  | succ n ih =>
    intro i μ h1 h2
    rw [f_Gr_begin_L22]
    by_cases h : i = 256
    · subst h
      rw [if_pos (show (256 : Int32) ≤ nI 256 by decide), fil_nil _ (Nat.le_refl _), sA_id]
    · rw [if_neg (show ¬ (256 : Int32) ≤ nI i from nI_ge (b := 256) (by omega) (by omega))]
      rw [if_pos (ixb_t (by omega) (by decide)), nI_clamp (by omega), nI_1]
      show f_Gr_begin_L22 N n (nI (i + 1)) (sI μ 7 i 0) = _
      rw [ih (i + 1) _ (by omega) (by omega), sA_sI, sI1, if_pos rfl, fil_step _ (by omega)]
theorem Gr_beg8 (N : Nat) : ∀ (n i : Nat) (μ : Mm), i ≤ 16 → 16 < n + i → f_Gr_begin_L44 N n (nI i) μ = f_Gr_begin_B70 N (sA (sA μ 8 (fil (μ.1 8) i 16 1)) 9 (fil (μ.1 9) i 16 0)) := by
  intro n
  induction n with
  | zero => intro i μ h1 h2; omega
  | succ n ih =>
    intro i μ h1 h2
    rw [f_Gr_begin_L44]
    by_cases h : i = 16
    · subst h
      rw [if_pos (show (16 : Int32) ≤ nI 16 by decide), fil_nil _ (Nat.le_refl _), fil_nil _ (Nat.le_refl _), sA_id, sA_id]
    · rw [if_neg (show ¬ (16 : Int32) ≤ nI i from nI_ge (b := 16) (by omega) (by omega))]
      simp only [if_pos (ixb_t (show i < 16 by omega) (show 16 < 2 ^ 31 by decide)), nI_clamp (show i < 2 ^ 31 by omega), nI_1, narZ (Or.inl rfl)]
      rw [ih (i + 1) _ (by omega) (by omega)]
      congr 1
      apply mem_ext
      · intro c
        simp only [sA1, sI1]
        by_cases c9 : c = 9
        · subst c9
          exact fil_step (μ.1 9) (show i < 16 by omega) 0
        · by_cases c8 : c = 8
          · subst c8
            exact fil_step (μ.1 8) (show i < 16 by omega) 1
          · simp only [if_neg c9, if_neg c8]
      · rfl
def gbeg (μ : Mm) (kind posts : Int32) : Mm := sI (sI (sA (sA (sA (sI (sI (sI (sI μ 6 0 kind) 6 1 posts) 6 2 0) 6 3 0) 7 (fil (μ.1 7) 0 256 0)) 8 (fil (μ.1 8) 0 16 1)) 9 (fil (μ.1 9) 0 16 0)) 6 9 1) 6 4 (μ.1 6 4 + 1)
theorem Gr_begin_eq {N : Nat} (hN : 300 ≤ N) (kind posts : Int32) (μ : Mm) : f_Gr_begin N kind posts μ = some (gbeg μ kind posts) := by
  unfold f_Gr_begin
  rw [show (0 : Int32) = nI 0 from rfl]
  simp only [Gr_beg7 N N 0 _ (by omega) (show 256 < N + 0 by omega)]
  unfold f_Gr_begin_B42
  rw [show (0 : Int32) = nI 0 from rfl, Gr_beg8 N N 0 _ (by omega) (by omega)]
  unfold f_Gr_begin_B70 f_Gr_wallsChanged
  simp only [bvS]
  rfl
theorem M_clr5 (N : Nat) (p : Int32) : ∀ (n i : Nat) (μ : Mm), i ≤ 256 → 256 < n + i → f_M_clear_L12 N n p (nI i) μ = f_M_clear_B39 N p (sA (sA μ 5 (fil (μ.1 5) i 256 0)) 6 (fil (μ.1 6) i 256 0)) := by
  intro n
  induction n with
  | zero => intro i μ h1 h2; omega
  | succ n ih =>
    intro i μ h1 h2
    rw [f_M_clear_L12]
    by_cases h : i = 256
    · subst h
      rw [if_pos (show (256 : Int32) ≤ nI 256 by decide), fil_nil _ (Nat.le_refl _), fil_nil _ (Nat.le_refl _), sA_id, sA_id]
    · rw [if_neg (show ¬ (256 : Int32) ≤ nI i from nI_ge (b := 256) (by omega) (by omega))]
      simp only [if_pos (ixb_t (show i < 256 by omega) (show 256 < 2 ^ 31 by decide)), nI_clamp (show i < 2 ^ 31 by omega), nI_1, narZ (Or.inl rfl)]
      rw [ih (i + 1) _ (by omega) (by omega)]
      congr 1
      apply mem_ext
      · intro c
        simp only [sA1, sI1]
        by_cases c9 : c = 6
        · subst c9
          exact fil_step (μ.1 6) (show i < 256 by omega) 0
        · by_cases c8 : c = 5
          · subst c8
            exact fil_step (μ.1 5) (show i < 256 by omega) 0
          · simp only [if_neg c9, if_neg c8]
      · rfl
theorem M_clr7 (N p : Nat) (hp : p ≤ 16) : ∀ (n i : Nat) (μ : Mm), i ≤ 16 → 16 < n + i → f_M_clear_L41 N n (nI p) (nI i) μ = some (sA (sA μ 7 (gfil (μ.1 7) (fun x => if x < p then 1 else 0) i 16)) 8 (fil (μ.1 8) i 16 0)) := by
  intro n
  induction n with
  | zero => intro i μ h1 h2; omega
  | succ n ih =>
    intro i μ h1 h2
    rw [f_M_clear_L41]
    by_cases h : i = 16
    · subst h
      rw [if_pos (show (16 : Int32) ≤ nI 16 by decide), gfil_nil _ _ (Nat.le_refl _), fil_nil _ (Nat.le_refl _), sA_id, sA_id]
    · rw [if_neg (show ¬ (16 : Int32) ≤ nI i from nI_ge (b := 16) (by omega) (by omega))]
      unfold f_M_clear_B62
      simp only [if_pos (ixb_t (show i < 16 by omega) (show 16 < 2 ^ 31 by decide)), nI_clamp (show i < 2 ^ 31 by omega), nI_1, narZ (Or.inl rfl)]
      have fin : ∀ w : Int32, w = (if i < p then 1 else 0) → f_M_clear_L41 N n (nI p) (nI (i + 1)) (sI (sI μ 7 i w) 8 i 0) = some (sA (sA μ 7 (gfil (μ.1 7) (fun x => if x < p then 1 else 0) i 16)) 8 (fil (μ.1 8) i 16 0)) := by
        intro w hw
        rw [ih (i + 1) _ (by omega) (by omega)]
        congr 1
        apply mem_ext
        · intro c
          simp only [sA1, sI1]
          by_cases c9 : c = 8
          · subst c9
            exact fil_step (μ.1 8) (show i < 16 by omega) 0
          · by_cases c8 : c = 7
            · subst c8
              rw [hw]
              exact gfil_step (μ.1 7) (fun x => if x < p then 1 else 0) (show i < 16 by omega)
            · simp only [if_neg c9, if_neg c8]
        · rfl
      by_cases c : p ≤ i
      · rw [if_pos (nI_le c (by omega))]
        exact fin 0 (by rw [if_neg (by omega)])
      · rw [if_neg (nI_ge (by omega) (by omega))]
        exact fin 1 (by rw [if_pos (by omega)])
def mclr (μ : Mm) (kind : Int32) (p : Nat) : Mm := sA (sA (sA (sA (sI (sI μ 0 8 kind) 0 9 (nI p)) 5 (fil (μ.1 5) 0 256 0)) 6 (fil (μ.1 6) 0 256 0)) 7 (gfil (μ.1 7) (fun x => if x < p then 1 else 0) 0 16)) 8 (fil (μ.1 8) 0 16 0)
theorem M_clear_eq {N : Nat} (hN : 300 ≤ N) (kind : Int32) {p : Nat} (hp : p ≤ 16) (μ : Mm) : f_M_clear N kind (nI p) μ = some (mclr μ kind p) := by
  unfold f_M_clear
  rw [show (0 : Int32) = nI 0 from rfl]
  simp only [M_clr5 N (nI p) N 0 _ (by omega) (show 256 < N + 0 by omega)]
  unfold f_M_clear_B39
  rw [show (0 : Int32) = nI 0 from rfl, M_clr7 N p hp N 0 _ (by omega) (by omega)]
  rfl
theorem fil_in {f : Nat → Int32} {lo hi j : Nat} {v : Int32} (h : lo ≤ j ∧ j < hi) : fil f lo hi v j = v := if_pos h
theorem gfil_in {f g : Nat → Int32} {lo hi j : Nat} (h : lo ≤ j ∧ j < hi) : gfil f g lo hi j = g j := if_pos h
theorem len_beg (n : Nat) (f g h : Nat → Int32) : ∀ a b, a < 16 → b < 16 → LenOk n (fil f 0 256 0) (fil g 0 256 0) (fil h 0 256 0) a b := by
  intro a b ha hb
  unfold LenOk
  rw [fil_in (show 0 ≤ 16 * a + b ∧ 16 * a + b < 256 by omega), fil_in (show 0 ≤ 16 * a + b ∧ 16 * a + b < 256 by omega), fil_in (show 0 ≤ 16 * b + a ∧ 16 * b + a < 256 by omega), fil_in (show 0 ≤ 16 * a + b ∧ 16 * a + b < 256 by omega), fil_in (show 0 ≤ 16 * b + a ∧ 16 * b + a < 256 by omega)]
  exact ⟨⟨by decide, by decide⟩, Or.inl rfl, rfl, rfl, fun _ => rfl, fun _ => rfl, fun _ => rfl, rfl⟩
theorem cnt_beg {n : Nat} (hn : n ≤ 16) (f : Nat → Int32) : cntP (fun a b => decide (fil f 0 256 0 (16 * a + b) ≠ 0)) n n = 0 := by
  rw [cntP_eq (g := fun _ _ => false) (fun x y hx hy _ => by rw [fil_in (show 0 ≤ 16 * x + y ∧ 16 * x + y < 256 by omega)]; rfl)]
  exact cntP_z (fun _ _ => rfl) n n
theorem sm_net {RC : Nat → Mm → Prop} (hR : RCok RC) {N : Nat} (hN : 300 ≤ N) : Sm_net (Rel RC) N := by
  intro k _ a1 μx μm h
  obtain ⟨v, ev, hv⟩ := hR.2.2.1 k μx h.2.2.2.2.2.2
  unfold f_W_net f_M_net
  rw [f_M_in_eq]
  simp only [bnS, if01]
  by_cases c : 1 ≤ a1.toInt ∧ a1.toInt ≤ 16
  · rw [if_neg (show ¬ a1 < 1 by rw [lt_I, show (1 : Int32).toInt = 1 from rfl]; omega), if_pos (show a1 ≤ 16 by rw [le_I, show (16 : Int32).toInt = 16 from rfl]; omega), if_pos (show (1 : Int32).toInt ≤ a1.toInt ∧ a1.toInt ≤ (16 : Int32).toInt from c)]
    obtain ⟨n, hn, rfl⟩ := row_of (x := a1) 17 ⟨by omega, by omega⟩
    have n1 : 1 ≤ n := by rw [tI (by omega)] at c; omega
    rw [Gr_begin_eq hN, M_clear_eq hN 2 (by omega)]
    simp only [bvS]
    refine ⟨nI n, gbeg μx 2 (nI n), mclr μm 2 n, rfl, rfl, h.ground hR (v := v) (v' := v + 1) (fun c hc => ?_) rfl (fun c h0 h5 h6 h7 h8 => ?_) (fun f h8 h9 => ?_) rfl ⟨rfl, Or.inr (Or.inr rfl), rfl, n, n1, by omega, rfl, len_beg n _ _ _, fun p hp => ?_, fun p hp => ?_, ?_, ?_, ?_, fun q => absurd (show (2 : Int32) = 0 from q) (by decide)⟩ ev hv ?_ (by omega) (by omega) (Or.inl rfl)⟩
    · unfold gbeg
      simp only [sI1, sA1, if_neg (show ¬ c = 6 by omega), if_neg (show ¬ c = 7 by omega), if_neg (show ¬ c = 8 by omega), if_neg (show ¬ c = 9 by omega)]
    · unfold mclr
      simp only [sI1, sA1, if_neg h0, if_neg h5, if_neg h6, if_neg h7, if_neg h8]
    · show upd (upd (μm.1 0) 8 2) 9 (nI n) f = μm.1 0 f
      rw [upd_at, if_neg h9, upd_at, if_neg h8]
    · show fil (μx.1 8) 0 16 1 p = gfil (μm.1 7) (fun x => if x < n then 1 else 0) 0 16 p ∧ 0 ≤ (gfil (μm.1 7) (fun x => if x < n then 1 else 0) 0 16 p).toInt ∧ (gfil (μm.1 7) (fun x => if x < n then 1 else 0) 0 16 p).toInt ≤ 9
      rw [fil_in (by omega), gfil_in (by omega), if_pos hp]
      exact ⟨rfl, by decide, by decide⟩
    · show fil (μx.1 9) 0 16 0 p = fil (μm.1 8) 0 16 0 p ∧ (fil (μm.1 8) 0 16 0 p = 0 ∨ fil (μm.1 8) 0 16 0 p = 1)
      rw [fil_in (by omega), fil_in (by omega)]
      exact ⟨rfl, Or.inl rfl⟩
    · show (0 : Int32) = nI (cntP (fun a b => decide (fil (μm.1 5) 0 256 0 (16 * a + b) ≠ 0)) n n)
      rw [cnt_beg (by omega)]
      rfl
    · show (0 : Int32) = nI (cntP (fun a b => decide (fil (μm.1 6) 0 256 0 (16 * a + b) ≠ 0)) n n)
      rw [cnt_beg (by omega)]
      rfl
    · show cntP (fun a b => decide (fil (μm.1 5) 0 256 0 (16 * a + b) ≠ 0)) n n ≤ 40
      rw [cnt_beg (by omega)]
      omega
    · show μx.1 6 4 + 1 = nI (v + 1)
      rw [ev, nI_1]
  · rw [if_neg (show ¬ ((1 : Int32).toInt ≤ a1.toInt ∧ a1.toInt ≤ (16 : Int32).toInt) from c)]
    have hnx := h.next hR
    clear h
    repeat' split
    all_goals first | exact ⟨_, _, _, rfl, rfl, hnx⟩ | (exfalso; simp only [lt_I, le_I, eq_I, Int32.reduceToInt] at *; omega)
