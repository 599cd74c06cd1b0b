/-! PURE 44: those that ride are listed -/
/-- of the watch only numbers of posts, riders and how many ride change -/
def QFr (μ μ' : Mm) : Prop := (∀ c, c < 61 ∨ 70 < c → μ'.1 c = μ.1 c) ∧ (∀ f, f ≠ 11 → μ'.1 61 f = μ.1 61 f) ∧ μ'.2 = μ.2
theorem QFr.refl (μ : Mm) : QFr μ μ := ⟨fun _ _ => rfl, fun _ _ => rfl, rfl⟩
theorem QFr.trans {μ μ' μ'' : Mm} (a : QFr μ μ') (b : QFr μ' μ'') : QFr μ μ'' := ⟨fun c h => (b.1 c h).trans (a.1 c h), fun c h => (b.2.1 c h).trans (a.2.1 c h), b.2.2.trans a.2.2⟩
theorem QFr.fld {c : Nat} (h : 62 ≤ c) (h' : c ≤ 70) (μ : Mm) (p : Nat) (v : Int32) : QFr μ (sI μ c p v) := ⟨fun d hd => sI_ne _ _ _ (by omega), fun f _ => by rw [sI_ne _ _ _ (by omega)], rfl⟩
theorem QFr.f11 (μ : Mm) (v : Int32) : QFr μ (sI μ 61 11 v) := ⟨fun d hd => sI_ne _ _ _ (by omega), fun f hf => by rw [sI_at, upd_ne _ _ hf], rfl⟩
theorem QFr.xfr {μ μ' : Mm} (a : QFr μ μ') : XFr μ μ' := ⟨fun c h => a.1 c (by omega), by rw [a.2.2]⟩
theorem PFr.qfr {μ μ' : Mm} (a : PFr μ μ') : QFr μ μ' := ⟨fun c h => a.1 c (by omega), fun f _ => by rw [a.1 61 (by omega)], a.2⟩
theorem rd_of {μ μ' : Mm} (h : ∀ c, 62 ≤ c → c ≤ 67 → μ'.1 c = μ.1 c) (q : Nat) : rd μ' q = rd μ q := by
  unfold rd
  rw [h 62 (by omega) (by omega), h 63 (by omega) (by omega), h 64 (by omega) (by omega), h 65 (by omega) (by omega), h 66 (by omega) (by omega), h 67 (by omega) (by omega)]
def cvI (b : Int32) (r : Rc) : Rc := (r.1, r.2.1, r.2.2.1, r.2.2.2.1, mxI r.2.2.2.2.1 b, r.2.2.2.2.2)
theorem Wa_cover_eq (N : Nat) (hN : 30 ≤ N) (b : Int32) {B : Nat} (hB : B < 65536) (μ : Mm) : ∃ μ', f_Wa_coverAhead N (nI B) b μ = some μ' ∧ PFr μ μ' ∧ ∀ q, q < 16 → rd μ' q = if B.testBit q = true then cvI b (rd μ q) else rd μ q := by
  obtain ⟨μ', r1, r2, r3⟩ := Wa_cover_loop N b hB N 0 μ (by omega) (by omega)
  refine ⟨μ', r1, r2, fun q hq => ?_⟩
  rw [r3 q hq]
  by_cases g : B.testBit q = true
  · rw [if_pos ⟨by omega, g⟩, if_pos g]; rfl
  · rw [if_neg (fun x => g x.2), if_neg g]
theorem Wa_setOut_eq (N : Nat) (hN : 30 ≤ N) {D : Da} (I : DI D) {j k W : Nat} (hj : j < D.w) (g : D.go j = true) (hk3 : D.kd j ≠ 3) (hk : k < 8) (hW : W < 65536) (μ : Mm) (X : DX D μ) (C : CrewOk D μ) (eW : μ.1 61 13 = nI W) : ∃ (μ' : Mm) (l t B b : Nat), f_Wa_setOut N (nI k) (nI j) j μ = some μ' ∧ QFr μ μ' ∧ μ'.1 61 11 = μ.1 61 11 ∧ μ'.1 68 = upd (μ.1 68) k (nI j) ∧ μ'.1 69 = upd (μ.1 69) k (nI l) ∧ μ'.1 70 = upd (μ.1 70) k (nI t) ∧ l < D.sz j ∧ D.ph j (t : Nat) = D.cm j l ∧ t ≤ 1927 ∧ 1 ≤ b ∧ b ≤ 128 ∧ (∀ q, q < 16 → rd μ' q = if B.testBit q = true then cvI (nI b) (rd μ q) else rd μ q) ∧ (∀ q, B.testBit q = true ↔ (W.testBit q = true ∧ (D.vis j 0).testBit q = true ∧ D.ph j 0 ≠ D.cm j (D.hl j 0))) ∧ (∀ u : Nat, u < t → ∀ q, W.testBit q = true → (D.vis j u).testBit q = true → B.testBit q = true ∧ u < b) ∧ (∀ u : Nat, u < b → ∀ q, B.testBit q = true → (D.vis j u).testBit q = true) := by
  have w8 := I.w8
  have h24 := I.sz24 hj
  have hp := I.ph_lt hj g 0
  have pe := D.per_cm (j := j) hk3
  obtain ⟨a, b, d⟩ := I.hl_spec hj g hk3 0
  have cl := I.cm_46 hj (show D.hl j 0 + 1 ≤ D.sz j by omega)
  have cs : D.cm j (D.hl j 0 + 1) = D.cm j (D.hl j 0) + D.lt j (D.hl j 0) := rfl
  have ltl := I.lt_le hj a
  have ltp := I.lt_pos hj g hk3 a
  have p127 := I.pr j _ hj a
  have nl : nx (D.sz j) (D.hl j 0) < D.sz j := by unfold nx; split <;> omega
  obtain ⟨_, _, ck⟩ := C.2 j hj g
  obtain ⟨ck1, ck2⟩ := ck hk3
  have wk := WK_lt (show j < 8 by omega)
  unfold f_Wa_setOut
  rw [show (0 : Int32) = zI 0 from rfl, Wk_phaseAt_eq N I hj g hk3 (by decide) (by decide) μ X C, bnS, Wk_legAt_eq N hN I hj g hk3 (by omega) μ X C, bnS, show D.lf j (D.ph j 0) = D.hl j 0 from rfl]
  generalize hl : D.hl j 0 = l at *
  generalize hx : D.ph j 0 = x at *
  have e3 : (sI μ 68 k (nI j)).1 (WK j + 3) l = nI (D.cm j l) := by rw [sI_ne _ _ _ (by omega), ck1 l (by omega)]
  simp only [if_pos (ixb_t hk (show 8 < 2 ^ 31 by decide)), nI_clamp (show k < 2 ^ 31 by omega), if_pos (ixb_t (show l < 25 by omega) (show 25 < 2 ^ 31 by decide)), if_pos (ixb_t (show l < 24 by omega) (show 24 < 2 ^ 31 by decide)), nI_clamp (show l < 2 ^ 31 by omega), e3, nI_1, nI_add]
  by_cases c : D.cm j l = x
  · rw [if_pos (by rw [c])]
    refine ⟨_, l, 0, 0, 1, rfl, ((QFr.fld (by decide) (by decide) μ _ _).trans (QFr.fld (by decide) (by decide) _ _ _)).trans (QFr.fld (by decide) (by decide) _ _ _), ?_, ?_, ?_, ?_, a, ?_, by omega, by omega, by omega, ?_, ?_, ?_, ?_⟩
    · rw [sI_ne _ _ _ (by decide), sI_ne _ _ _ (by decide), sI_ne _ _ _ (by decide)]
    · rw [sI_ne _ _ _ (by decide), sI_ne _ _ _ (by decide), sI_at]
    · rw [sI_ne _ _ _ (by decide), sI_at, sI_ne _ _ _ (by decide)]
    · rw [sI_at, sI_ne _ _ _ (by decide), sI_ne _ _ _ (by decide)]; rfl
    · rw [show ((0 : Nat) : Int) = 0 from rfl, hx, c]
    · intro q hq
      rw [Nat.zero_testBit, if_neg (by decide)]
      exact rd_of (fun c h1 h2 => by rw [sI_ne _ _ _ (by omega), sI_ne _ _ _ (by omega), sI_ne _ _ _ (by omega)]) q
    · intro q
      rw [Nat.zero_testBit]
      exact ⟨fun h => (by cases h), fun h => absurd c.symm h.2.2⟩
    · intro u hu
      omega
    · intro u hu q h
      rw [Nat.zero_testBit] at h
      cases h
  · have X1 : DX D (sI μ 68 k (nI j)) := (QFr.fld (c := 68) (by decide) (by decide) μ _ _).xfr.dx w8 X
    rw [if_neg (fun q => c ((nI_eq (by omega) (by omega)).mp q)), Wk_legBehind_eq N I hj a _ X1]
    have e4 : ∀ v, (sI (sI μ 68 k (nI j)) 69 k v).1 (WK j + 3) (l + 1) = nI (D.cm j (l + 1)) := fun v => by rw [sI_ne _ _ _ (by omega), sI_ne _ _ _ (by omega), ck1 (l + 1) (by omega)]
    simp only [bnS, if_pos (ixb_t (show l + 1 < 25 by omega) (show 25 < 2 ^ 31 by decide)), nI_clamp (show l + 1 < 2 ^ 31 by omega), e4]
    rw [pk_sub (show x ≤ D.cm j (l + 1) by omega)]
    have f0 : QFr μ (sI (sI (sI μ 68 k (nI j)) 69 k (nI (nx (D.sz j) l))) 70 k (nI (D.cm j (l + 1) - x))) := ((QFr.fld (by decide) (by decide) μ _ _).trans (QFr.fld (by decide) (by decide) _ _ _)).trans (QFr.fld (by decide) (by decide) _ _ _)
    have g11 : (sI (sI (sI μ 68 k (nI j)) 69 k (nI (nx (D.sz j) l))) 70 k (nI (D.cm j (l + 1) - x))).1 61 11 = μ.1 61 11 := by rw [sI_ne _ _ _ (by decide), sI_ne _ _ _ (by decide), sI_ne _ _ _ (by decide)]
    have g68 : (sI (sI (sI μ 68 k (nI j)) 69 k (nI (nx (D.sz j) l))) 70 k (nI (D.cm j (l + 1) - x))).1 68 = upd (μ.1 68) k (nI j) := by rw [sI_ne _ _ _ (by decide), sI_ne _ _ _ (by decide), sI_at]
    have g69 : (sI (sI (sI μ 68 k (nI j)) 69 k (nI (nx (D.sz j) l))) 70 k (nI (D.cm j (l + 1) - x))).1 69 = upd (μ.1 69) k (nI (nx (D.sz j) l)) := by rw [sI_ne _ _ _ (by decide), sI_at, sI_ne _ _ _ (by decide)]
    have g70 : (sI (sI (sI μ 68 k (nI j)) 69 k (nI (nx (D.sz j) l))) 70 k (nI (D.cm j (l + 1) - x))).1 70 = upd (μ.1 70) k (nI (D.cm j (l + 1) - x)) := by rw [sI_at, sI_ne _ _ _ (by decide), sI_ne _ _ _ (by decide)]
    have gr : ∀ q, rd (sI (sI (sI μ 68 k (nI j)) 69 k (nI (nx (D.sz j) l))) 70 k (nI (D.cm j (l + 1) - x))) q = rd μ q := fun q => rd_of (fun c h1 h2 => by rw [sI_ne _ _ _ (by omega), sI_ne _ _ _ (by omega), sI_ne _ _ _ (by omega)]) q
    generalize sI (sI (sI μ 68 k (nI j)) 69 k (nI (nx (D.sz j) l))) 70 k (nI (D.cm j (l + 1) - x)) = μ4 at f0 g11 g68 g69 g70 gr
    have wc : ∀ c, 13 ≤ c → c ≤ 60 → μ4.1 c = μ.1 c := fun c h1 h2 => f0.1 c (by omega)
    rw [wc (WK j + 4) (by omega) (by omega), wc (WK j + 5) (by omega) (by omega), (ck2 l a).1, (ck2 l a).2, f0.2.1 13 (by decide), eW]
    -- the phases up to the next visit
    have phu : ∀ u : Nat, u < D.cm j (l + 1) - x → D.ph j (u : Nat) = x + u ∧ D.vis j (u : Nat) = if x + u ≤ D.cm j l + D.pr j l then D.sg j l else 0 := fun u hu => by
      have cmm := D.cm_mono j (show l + 1 ≤ D.sz j by omega)
      have e1 := I.ph_add hj g 0 u
      rw [Int.zero_add, hx, Nat.mod_eq_of_lt (by omega)] at e1
      refine ⟨e1, ?_⟩
      rw [D.vis_vp hk3, e1]
      have := (D.vp_in I hj g hk3 a (d := x + u - D.cm j l) (by omega)).2
      rw [show D.cm j l + (x + u - D.cm j l) = x + u by omega] at this
      rw [this]
      by_cases z : x + u ≤ D.cm j l + D.pr j l
      · rw [if_pos (by omega), if_pos z]
      · rw [if_neg (by omega), if_neg z]
    have nxt : D.ph j ((D.cm j (l + 1) - x : Nat) : Int) = D.cm j (nx (D.sz j) l) := by
      have v := (visit I hj g hk3 a (t := 0 - ((x - D.cm j l : Nat) : Int)) (by
        have h1 := I.ph_add hj g (0 - ((x - D.cm j l : Nat) : Int)) (x - D.cm j l)
        rw [Int.sub_add_cancel, hx] at h1
        have h2 := I.ph_lt hj g (0 - ((x - D.cm j l : Nat) : Int))
        -- the phase before is the leg's begin
        have cmm := D.cm_mono j (show l + 1 ≤ D.sz j by omega)
        generalize D.ph j (0 - ((x - D.cm j l : Nat) : Int)) = y at *
        by_cases z : y + (x - D.cm j l) < D.per j
        · rw [Nat.mod_eq_of_lt z] at h1; omega
        · have := Nat.mod_eq_sub_mod (show D.per j ≤ y + (x - D.cm j l) by omega)
          rw [Nat.mod_eq_of_lt (show y + (x - D.cm j l) - D.per j < D.per j by omega)] at this
          omega)).2
      rw [show (0 : Int) - ((x - D.cm j l : Nat) : Int) + (D.lt j l : Int) = ((D.cm j (l + 1) - x : Nat) : Int) by omega] at v
      exact v
    have v0 := phu 0 (by omega)
    rw [Nat.add_zero] at v0
    have v00 : D.vis j 0 = if x ≤ D.cm j l + D.pr j l then D.sg j l else 0 := v0.2
    by_cases z : x ≤ D.cm j l + D.pr j l
    · rw [if_pos z] at v00
      have sgl := D.sn_lt I.g (D.pp j l) (D.vw j)
      have sgl' : D.sg j l < 65536 := sgl
      have bl : D.sg j l &&& W < 65536 := Nat.lt_of_le_of_lt Nat.and_le_right hW
      obtain ⟨μ5, r1, r2, r3⟩ := Wa_cover_eq N hN (nI (D.cm j l + D.pr j l - x + 1)) bl μ4
      rw [if_neg (nI_nlt z (by omega)), andN (by omega) (by omega), pk_sub z, ← nI_succ, r1, bvS]
      refine ⟨μ5, nx (D.sz j) l, D.cm j (l + 1) - x, D.sg j l &&& W, D.cm j l + D.pr j l - x + 1, rfl, f0.trans r2.qfr, by rw [r2.1 61 (by omega), g11], by rw [r2.1 68 (by omega), g68], by rw [r2.1 69 (by omega), g69], by rw [r2.1 70 (by omega), g70], nl, nxt, by omega, by omega, by omega, fun q hq => by rw [r3 q hq, gr], fun q => ?_, fun u hu q h1 h2 => ?_, fun u hu q h => ?_⟩
      · rw [Nat.testBit_and, Bool.and_eq_true, v00]
        exact ⟨fun h => ⟨h.2, h.1, fun e => c e.symm⟩, fun h => ⟨h.2.1, h.1⟩⟩
      · rw [(phu u hu).2] at h2
        by_cases y : x + u ≤ D.cm j l + D.pr j l
        · rw [if_pos y] at h2
          rw [Nat.testBit_and, h2, h1]
          exact ⟨rfl, by omega⟩
        · rw [if_neg y, Nat.zero_testBit] at h2
          cases h2
      · rw [Nat.testBit_and, Bool.and_eq_true] at h
        rw [(phu u (by omega)).2, if_pos (by omega)]
        exact h.1
    · rw [if_neg z] at v00
      rw [if_pos (nI_lt (by omega) (by omega))]
      refine ⟨μ4, nx (D.sz j) l, D.cm j (l + 1) - x, 0, 1, rfl, f0, g11, g68, g69, g70, nl, nxt, by omega, by omega, by omega, fun q hq => by rw [gr, Nat.zero_testBit, if_neg (by decide)], fun q => ?_, fun u hu q h1 h2 => ?_, fun u hu q h => ?_⟩
      · rw [v00, Nat.zero_testBit]
        exact ⟨fun h => (by cases h), fun h => (by cases h.2.1)⟩
      · rw [(phu u hu).2, if_neg (by omega), Nat.zero_testBit] at h2
        cases h2
      · rw [Nat.zero_testBit] at h
        cases h
