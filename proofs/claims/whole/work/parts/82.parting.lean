/-! PURE 62: parting -/
/-- as MFr, but for the parts -/
def M9 (μ μ' : Mm) : Prop := (∀ f, f ≤ 27 → μ'.1 0 f = μ.1 0 f) ∧ (∀ c, (1 ≤ c ∧ c ≤ 8) ∨ (10 ≤ c ∧ c ≤ 20) → μ'.1 c = μ.1 c) ∧ ∀ f, f = 3 ∨ f = 4 → μ'.2 0 f = μ.2 0 f
theorem M9.trans {μ μ' μ'' : Mm} (a : M9 μ μ') (b : M9 μ' μ'') : M9 μ μ'' := ⟨fun f h => (b.1 f h).trans (a.1 f h), fun f h => (b.2.1 f h).trans (a.2.1 f h), fun f h => (b.2.2 f h).trans (a.2.2 f h)⟩
theorem MFr.m9 {μ μ' : Mm} (a : MFr μ μ') : M9 μ μ' := ⟨a.1, fun c h => a.2.1 c (by omega), a.2.2⟩
theorem M9.cell {c : Nat} (h : c = 29 ∨ c = 30) (μ : Mm) (f : Nat) (v : Int32) : M9 μ (sI μ c f v) := ⟨fun g _ => by rw [sI_ne _ _ _ (by omega)], fun d hd => sI_ne _ _ _ (by omega), fun _ _ => rfl⟩
theorem M9.dm {D : Da} {μ μ' : Mm} (a : M9 μ μ') (X : DM D μ) : DM D μ' := X.congr ⟨a.1 8 (by omega), a.1 9 (by omega), a.1 15 (by omega)⟩ (fun c h => a.2.1 c (by omega))
theorem Rel.vfr {RC : Nat → Mm → Prop} (hR : RCok RC) {k : Nat} {μx μx' μm μm' : Mm} (h : Rel RC k μx μm) (a : VFr μx μx') (b : M9 μm μm') (hP' : RPx μx' μm') : Rel RC k μx' μm' := by
  obtain ⟨hT, hS, hG, hW, hP, h0, hC⟩ := h
  refine ⟨?_, ?_, ?_, RW_cells (μx := μx) (μm := μm) (fun c _ _ => a.1 c (by omega)) (b.1 15 (by omega)) (fun c _ _ => b.2.1 c (by omega)) hW, hP', by rw [b.1 27 (by omega)]; exact h0, hR.2.1 k μx μx' (fun c hc => a.1 c (by omega)) hC⟩
  · unfold RTx at *
    rw [a.1 1 (by omega), a.1 2 (by omega), a.2, b.1 0 (by omega), b.1 2 (by omega), b.2.2 3 (by omega), b.2.2 4 (by omega), b.2.1 1 (by omega)]
    exact hT
  · unfold RSx at *
    rw [a.1 4 (by omega), a.1 5 (by omega), b.2.1 3 (by omega), b.2.1 2 (by omega)]
    exact hS
  · unfold RGx at *
    rw [a.1 6 (by omega), a.1 7 (by omega), a.1 8 (by omega), a.1 9 (by omega), b.1 8 (by omega), b.1 9 (by omega), b.2.1 5 (by omega), b.2.1 6 (by omega), b.2.1 7 (by omega), b.2.1 8 (by omega)]
    exact hG
theorem M_gatherS (N : Nat) {D : Da} (I : DI D) : ∀ (m w : Nat) (μ : Mm), DM D μ → w ≤ D.w → D.w < m + w → μ.1 0 49 = nI (min 5 (cnt D.el w)) → (∀ k, k < min 5 (cnt D.el w) → μ.1 26 k = nI (stN D.el w k)) → ∃ μ', f_M_parting_L20 N m (nI w) μ = f_M_parting_B90 N μ' ∧ MFr μ μ' ∧ MP D μ' := by
  have w8 := I.w8
  intro m
  induction m with
  | zero => intro w μ _ h1 h2; omega
  | succ m ih =>
    intro w μ M h1 h2 e6 e82
    rw [f_M_parting_L20, M.w]
    by_cases c : w = D.w
    · rw [if_pos (nI_le (by omega) (by omega))]
      rw [c] at e6 e82
      exact ⟨μ, rfl, MFr.refl μ, M, e6, e82⟩
    · have hw : w < D.w := by omega
      have cs : cnt D.el (w + 1) = cnt D.el w + (if D.el w = true then 1 else 0) := rfl
      have k3 := I.kd w hw
      have cl := cnt_le D.el w
      rw [if_neg (nI_ge (by omega) (by omega)), if_pos (ixb_t (show w < 8 by omega) (show 8 < 2 ^ 31 by decide)), nI_clamp (show w < 2 ^ 31 by omega), M.gn w hw, M.lo w hw, M.kd w hw]
      unfold f_M_parting_B84
      simp only [nI_1, nI_add, e6, if_pos (ixb_t (show w < 8 by omega) (show 8 < 2 ^ 31 by decide))]
      have skip : D.el w = false → ∃ μ', f_M_parting_L20 N m (nI (w + 1)) μ = f_M_parting_B90 N μ' ∧ MFr μ μ' ∧ MP D μ' := fun ef => by
        rw [ef, if_neg (by decide)] at cs
        refine ih (w + 1) μ M (by omega) (by omega) (by rw [cs]; exact e6) (fun k hk => ?_)
        rw [cs] at hk
        show _ = nI (if D.el w = true ∧ k = cnt D.el w then w else stN D.el w k)
        rw [if_neg (by rw [ef]; simp)]
        exact e82 k (by omega)
      cases c1 : D.gn w with
      | true =>
        rw [if_neg (by decide)]
        exact skip (by unfold Da.el; rw [c1]; rfl)
      | false =>
        rw [if_pos (by decide)]
        cases c2 : D.lo w with
        | true =>
          rw [if_neg (by decide)]
          exact skip (by unfold Da.el; rw [c1, c2]; rfl)
        | false =>
          rw [if_pos (by decide)]
          by_cases c3 : D.kd w = 3
          · rw [if_pos (by rw [c3]; rfl)]
            exact skip (by unfold Da.el; rw [c1, c2, decide_eq_false (fun q => q c3)]; rfl)
          · have ef : D.el w = true := by unfold Da.el; rw [c1, c2, decide_eq_true c3]; rfl
            rw [ef, if_pos rfl] at cs
            rw [if_neg (show ¬ nI (D.kd w) = 3 from fun q => c3 ((nI_eq (b := 3) (by omega) (by decide)).mp q))]
            by_cases f : 5 ≤ cnt D.el w
            · rw [if_pos (show (5 : Int32) ≤ nI (min 5 (cnt D.el w)) by rw [Nat.min_eq_left f]; decide)]
              refine ih (w + 1) μ M (by omega) (by omega) (by rw [cs, Nat.min_eq_left (by omega)]; rw [Nat.min_eq_left f] at e6; exact e6) (fun k hk => ?_)
              show _ = nI (if D.el w = true ∧ k = cnt D.el w then w else stN D.el w k)
              rw [if_neg (by omega)]
              exact e82 k (by omega)
            · rw [Nat.min_eq_right (by omega)] at e6 e82 ⊢
              rw [if_neg (show ¬ (5 : Int32) ≤ nI (cnt D.el w) from nI_ge (b := 5) (by omega) (by decide)), if_pos (ixb_t (show cnt D.el w < 5 by omega) (by decide)), nI_clamp (show cnt D.el w < 2 ^ 31 by omega)]
              have e6' : (sI μ 26 (cnt D.el w) (nI w)).1 0 49 = nI (cnt D.el w) := by rw [sI_ne _ _ _ (by decide)]; exact e6
              rw [e6', ← nI_succ]
              have f1 : MFr μ (sI (sI μ 26 (cnt D.el w) (nI w)) 0 49 (nI (cnt D.el w + 1))) := (MFr.cell (c := 26) (by omega) μ _).trans (MFr.fld (by decide) _ _)
              obtain ⟨μ', r1, r2, r4⟩ := ih (w + 1) _ (f1.dm M) (by omega) (by omega) (by rw [sI_at, upd_eq, cs, Nat.min_eq_right (by omega)]) (fun k hk => by
                rw [sI_ne _ _ _ (by decide), sI_at, upd_at]
                show _ = nI (if D.el w = true ∧ k = cnt D.el w then w else stN D.el w k)
                by_cases g : k = cnt D.el w
                · rw [if_pos g, if_pos ⟨ef, g⟩]
                · rw [if_neg g, if_neg (fun q => g q.2)]
                  exact e82 k (by omega))
              exact ⟨μ', r1, f1.trans r2, r4⟩
theorem Sh_forget_loop (N : Nat) : ∀ (m w : Nat) (μ : Mm), w ≤ 8 → 8 < m + w → (∀ x, x < w → μ.1 80 x = -9 ∧ μ.1 81 x = -9) → ∃ μ', f_Sh_forget_L2 N m (nI w) μ = some μ' ∧ VFr μ μ' ∧ (∀ c, c ≠ 80 → c ≠ 81 → μ'.1 c = μ.1 c) ∧ ∀ x, x < 8 → μ'.1 80 x = -9 ∧ μ'.1 81 x = -9 := by
  intro m
  induction m with
  | zero => intro w μ h1 h2; omega
  | succ m ih =>
    intro w μ h1 h2 hx
    rw [f_Sh_forget_L2]
    by_cases c : w = 8
    · subst c
      rw [if_pos (by decide)]
      exact ⟨μ, rfl, VFr.refl μ, fun _ _ _ => rfl, hx⟩
    · rw [if_neg (show ¬ (8 : Int32) ≤ nI w from nI_ge (b := 8) (by omega) (by decide))]
      simp only [if_pos (ixb_t (show w < 8 by omega) (show 8 < 2 ^ 31 by decide)), nI_clamp (show w < 2 ^ 31 by omega), nI_1, nI_add]
      obtain ⟨μ', r1, r2, r3, r4⟩ := ih (w + 1) (sI (sI μ 80 w (-9)) 81 w (-9)) (by omega) (by omega) (fun x hx' => by
        rw [sI_ne _ _ _ (by decide), sI_at, sI_at, upd_at, upd_at, sI_ne _ _ _ (by decide)]
        by_cases e : x = w
        · rw [if_pos e, if_pos e]; exact ⟨rfl, rfl⟩
        · rw [if_neg e, if_neg e]; exact hx x (by omega))
      exact ⟨μ', r1, ((VFr.cell (by decide) μ _ _).trans (VFr.cell (by decide) _ _ _)).trans r2, fun c h1 h2 => by rw [r3 c h1 h2, sI_ne _ _ _ h2, sI_ne _ _ _ h1], r4⟩
theorem M_forget_loop (N : Nat) : ∀ (m w : Nat) (μ : Mm), w ≤ 8 → 8 < m + w → (∀ x, x < w → μ.1 29 x = -9 ∧ μ.1 30 x = -9) → ∃ μ', f_M_parting_L137 N m (nI w) μ = f_M_parting_B165 N μ' ∧ M9 μ μ' ∧ (∀ c, c ≠ 29 → c ≠ 30 → μ'.1 c = μ.1 c) ∧ ∀ x, x < 8 → μ'.1 29 x = -9 ∧ μ'.1 30 x = -9 := by
  intro m
  induction m with
  | zero => intro w μ h1 h2; omega
  | succ m ih =>
    intro w μ h1 h2 hx
    rw [f_M_parting_L137]
    by_cases c : w = 8
    · subst c
      rw [if_pos (by decide)]
      exact ⟨μ, rfl, (MFr.refl μ).m9, fun _ _ _ => rfl, hx⟩
    · rw [if_neg (show ¬ (8 : Int32) ≤ nI w from nI_ge (b := 8) (by omega) (by decide))]
      simp only [if_pos (ixb_t (show w < 8 by omega) (show 8 < 2 ^ 31 by decide)), nI_clamp (show w < 2 ^ 31 by omega), nI_1, nI_add]
      obtain ⟨μ', r1, r2, r3, r4⟩ := ih (w + 1) (sI (sI μ 29 w (-9)) 30 w (-9)) (by omega) (by omega) (fun x hx' => by
        rw [sI_ne _ _ _ (by decide), sI_at, sI_at, upd_at, upd_at, sI_ne _ _ _ (by decide)]
        by_cases e : x = w
        · rw [if_pos e, if_pos e]; exact ⟨rfl, rfl⟩
        · rw [if_neg e, if_neg e]; exact hx x (by omega))
      exact ⟨μ', r1, ((M9.cell (by omega) μ _ _).trans (M9.cell (by omega) _ _ _)).trans r2, fun c h1 h2 => by rw [r3 c h1 h2, sI_ne _ _ _ h2, sI_ne _ _ _ h1], r4⟩
theorem M_give_loop (N : Nat) {D : Da} (I : DI D) {ow : Nat → Nat} (how : ∀ p, p < D.n → ow p < D.nS) : ∀ (m p : Nat) (μ : Mm), MP D μ → (∀ q, q < D.n → μ.1 28 q = nI (ow q)) → p ≤ D.n → D.n < m + p → (∀ w, w < 8 → μ.1 29 w = (gvF D.sh ow p).1 w ∧ μ.1 30 w = (gvF D.sh ow p).2 w) → ∃ μ', f_M_parting_L167 N m (nI p) μ = some (μ.1 0 53, μ') ∧ M9 μ μ' ∧ ∀ w, w < 8 → μ'.1 29 w = (gvF D.sh ow D.n).1 w ∧ μ'.1 30 w = (gvF D.sh ow D.n).2 w := by
  have n16 := I.g.n16
  have w8 := I.w8
  intro m
  induction m with
  | zero => intro p μ _ _ h1 h2; omega
  | succ m ih =>
    intro p μ M h28 h1 h2 hg
    rw [f_M_parting_L167, M.1.n]
    by_cases c : p = D.n
    · rw [if_pos (nI_le (by omega) (by omega))]
      unfold f_M_parting_B227
      rw [c] at hg
      exact ⟨μ, rfl, (MFr.refl μ).m9, hg⟩
    · have hp : p < D.n := by omega
      have ho := how p hp
      have o5 : ow p < 5 := by unfold Da.nS at ho; omega
      have shk := sh_ok ho
      have s8 : D.sh (ow p) < 8 := by omega
      rw [if_neg (nI_ge (by omega) (by omega)), if_pos (ixb_t (show p < 16 by omega) (by decide)), nI_clamp (show p < 2 ^ 31 by omega), h28 p hp]
      simp only [if_pos (ixb_t o5 (show 5 < 2 ^ 31 by decide)), nI_clamp (show ow p < 2 ^ 31 by omega), M.2.2 _ ho, if_pos (ixb_t s8 (show 8 < 2 ^ 31 by decide)), nI_clamp (show D.sh (ow p) < 2 ^ 31 by omega)]
      have gs : gvF D.sh ow (p + 1) = (if (gvF D.sh ow p).1 (D.sh (ow p)) = -9 then upd (gvF D.sh ow p).1 (D.sh (ow p)) (nI p) else (gvF D.sh ow p).1, upd (gvF D.sh ow p).2 (D.sh (ow p)) (nI p)) := rfl
      have put : ∀ v : Int32, (∀ w, w < 8 → (upd (μ.1 29) (D.sh (ow p)) v) w = (gvF D.sh ow (p + 1)).1 w) → ∃ μ', f_M_parting_B213 N (f_M_parting_L167 N m) (nI p) (nI (D.sh (ow p))) (nI (D.sh (ow p))) v μ = some (μ.1 0 53, μ') ∧ M9 μ μ' ∧ ∀ w, w < 8 → μ'.1 29 w = (gvF D.sh ow D.n).1 w ∧ μ'.1 30 w = (gvF D.sh ow D.n).2 w := fun v hv => by
        unfold f_M_parting_B213
        simp only [if_pos (ixb_t s8 (show 8 < 2 ^ 31 by decide)), nI_clamp (show D.sh (ow p) < 2 ^ 31 by omega), nI_1, nI_add]
        have f1 : M9 μ (sI (sI μ 29 (D.sh (ow p)) v) 30 (D.sh (ow p)) (nI p)) := (M9.cell (by omega) μ _ _).trans (M9.cell (by omega) _ _ _)
        have fo : ∀ c, c ≠ 29 → c ≠ 30 → (sI (sI μ 29 (D.sh (ow p)) v) 30 (D.sh (ow p)) (nI p)).1 c = μ.1 c := fun c h1 h2 => by rw [sI_ne _ _ _ h2, sI_ne _ _ _ h1]
        obtain ⟨μ', r1, r2, r3⟩ := ih (p + 1) (sI (sI μ 29 (D.sh (ow p)) v) 30 (D.sh (ow p)) (nI p)) ⟨f1.dm M.1, by rw [fo 0 (by decide) (by decide)]; exact M.2.1, fun k hk => by rw [fo 26 (by decide) (by decide)]; exact M.2.2 k hk⟩ (fun q hq => by rw [fo 28 (by decide) (by decide)]; exact h28 q hq) (by omega) (by omega) (fun w hw => by
          refine ⟨?_, ?_⟩
          · rw [sI_ne _ _ _ (by decide), sI_at]; exact hv w hw
          · rw [sI_at, gs, upd_at, sI_ne _ _ _ (by decide)]
            simp only [upd_at, (hg w hw).2])
        rw [fo 0 (by decide) (by decide)] at r1
        exact ⟨μ', r1, f1.trans r2, r3⟩
      by_cases z : μ.1 29 (D.sh (ow p)) = -9
      · rw [if_pos z]
        rw [(hg _ s8).1] at z
        refine put (nI p) (fun w hw => ?_)
        rw [gs, if_pos z, upd_at]
        simp only [upd_at, (hg w hw).1]
      · rw [if_neg z]
        have z' := z
        rw [(hg _ s8).1] at z'
        refine put (μ.1 29 (D.sh (ow p))) (fun w hw => ?_)
        rw [gs, if_neg z', upd_at]
        by_cases e : w = D.sh (ow p)
        · rw [if_pos e, e, (hg _ s8).1]
        · rw [if_neg e, (hg w hw).1]
theorem sm_parting {RC : Nat → Mm → Prop} (hR : RCok RC) (N : Nat) (hN : 100 ≤ N) : Sm_parting (Rel RC) N := by
  intro k hk μx μm h
  obtain ⟨D, I, X, M⟩ := h.data
  have w8 := I.w8
  have n16 := I.g.n16
  have k2 := I.kind
  have s5 : D.nS ≤ 5 := by unfold Da.nS; omega
  have p32 : 2 ^ D.nS ≤ 32 := (show 2 ^ D.nS ≤ 2 ^ 5 from Nat.pow_le_pow_right (by decide) s5)
  have p1 : 1 ≤ 2 ^ D.nS := Nat.two_pow_pos _
  unfold f_W_parting f_M_parting
  rw [X.kind, M.kind]
  by_cases c0 : D.kind = 0
  · rw [if_pos (by rw [c0]; rfl), if_pos (by rw [c0]; rfl)]
    unfold f_Sh_settle f_Sh_gatherSharers
    have v0 := VFr.cell (c := 79) (by decide) μx 6 0
    obtain ⟨μ1, g1, g2, g3, g4⟩ := Sh_gather N I N 0 (sI μx 79 6 0) (v0.dx w8 X) (by omega) (by omega) (by rw [sI_at, upd_eq]; rfl) (fun k hk => by
      have : cnt D.el 0 = 0 := rfl
      omega)
    rw [show nI 0 = (0 : Int32) from rfl] at g1
    have V1 := v0.trans g2
    have m0 := MFr.fld (f := 49) (by decide) μm 0
    obtain ⟨μ2, r1, r2, r3⟩ := M_gatherS N I N 0 (sI μm 0 49 0) (m0.dm M) (by omega) (by omega) (by rw [sI_at, upd_eq]; rfl) (fun k hk => by
      have : cnt D.el 0 = 0 := rfl
      omega)
    rw [show nI 0 = (0 : Int32) from rfl] at r1
    have MF := m0.trans r2
    simp only []
    rw [g1, bvS, r1, g4.2.1]
    unfold f_M_parting_B90
    rw [r3.2.1]
    have rp1 : RPx μ1 μ2 := by
      have := h.2.2.2.2.1
      unfold RPx at *
      rw [g3 80 (Or.inl rfl), g3 81 (Or.inr rfl), sI_ne _ _ _ (by decide), sI_ne _ _ _ (by decide), MF.2.1 29 (by omega), MF.2.1 30 (by omega)]
      exact this
    by_cases s0 : D.nS = 0
    · rw [if_neg (show ¬ (1 : Int32) ≤ nI D.nS by rw [s0]; decide), if_pos (show nI D.nS = (0 : Int32) by rw [s0]; rfl)]
      exact ⟨_, _, _, rfl, rfl, (h.vfr hR V1 MF.m9 rp1).next hR⟩
    · rw [if_pos (show (1 : Int32) ≤ nI D.nS from (nIc (a := 1) (by decide) (by omega)).mpr (by omega)), if_neg (nI_ne0 (by omega) (by omega)), shl1 (by omega), show nI (2 ^ D.nS) - 1 = nI (2 ^ D.nS - 1) from pk_sub (b := 1) (by omega)]
      simp only []
      obtain ⟨μ3, t1, t2, t3, t4, t5⟩ := Sh_table_out N (by omega) I c0 N 0 μ1 g4 (fun t ht => by omega) (Nat.zero_le _) (by omega)
      rw [show nI 0 = (0 : Int32) from rfl] at t1
      rw [t1]
      have e49 : (sI μ2 0 53 (-9)).1 0 49 = nI D.nS := by rw [sI_at, upd_ne _ _ (by decide)]; exact r3.2.1
      rw [e49, shl1 (by omega), show nI (2 ^ D.nS) - 1 = nI (2 ^ D.nS - 1) from pk_sub (b := 1) (by omega)]
      have m53 := MFr.fld (f := 53) (by decide) μ2 (-9)
      obtain ⟨μ4, q1, q2, q3⟩ := M_part_ok N (by omega) I c0 40 0 (9, 0, 2 ^ D.nS - 1) 0 1000000 (sI μ2 0 53 (-9)) (by omega) (by omega) ⟨m53.dm r3.1, e49, fun k hk => by rw [sI_ne _ _ _ (by decide)]; exact r3.2.2 k hk⟩ (by show 2 ^ D.nS - 1 < 2 ^ D.nS; omega) (Nat.zero_le _) (Or.inl ⟨rfl, rfl⟩) (by decide) (Nat.le_refl _) (by rw [sI_at, upd_eq]; rfl)
      have q1' : f_M_part N 40 0 (-9) 0 (nI (2 ^ D.nS - 1)) 0 (sI μ2 0 53 (-9)) = some μ4 := q1
      rw [q1', bvS]
      have MF4 := (MF.trans m53).trans q2.mfr
      have lt0 := t5 (2 ^ D.nS - 1) (by omega) 0 (Nat.le_refl _) (Nat.zero_le _)
      rw [Nat.sub_zero, Nat.add_zero] at lt0
      have opl := opF_le D.n D.nS D.wl D.U2 D.n 9 0 (2 ^ D.nS - 1)
      unfold f_Sh_settle_B90 f_Sh_place
      simp only [bnS, show (17 : Int32) = nI 17 from rfl, pk_mul, show (0 : Int32) = nI 0 from rfl, nI_add]
      rw [show (2 ^ D.nS - 1) * 17 + 0 = 17 * (2 ^ D.nS - 1) by omega, if_pos (ixb_t (show 17 * (2 ^ D.nS - 1) < 544 by omega) (by decide)), nI_clamp (show 17 * (2 ^ D.nS - 1) < 2 ^ 31 by omega), lt0]
      have V3 := V1.trans t2
      have MP4 := q2.mp ⟨m53.dm r3.1, e49, fun k hk => by rw [sI_ne _ _ _ (by decide)]; exact r3.2.2 k hk⟩
      unfold SR at q3
      simp only [Nat.sub_zero, Nat.zero_max] at q3
      rcases q3 with ⟨u1, u2, u3, u4⟩ | ⟨u1, u2, u3⟩
      · generalize hL : opF D.n D.nS D.wl D.U2 D.n 9 0 (2 ^ D.nS - 1) = L at *
        have hv : PV D L 0 (9, 0, 2 ^ D.nS - 1) := ⟨by show 2 ^ D.nS - 1 < 2 ^ D.nS; omega, Nat.zero_le _, Or.inl ⟨rfl, rfl⟩, by show opF D.n D.nS D.wl D.U2 (D.n - 0) 9 0 (2 ^ D.nS - 1) ≤ L; rw [Nat.sub_zero, hL]; exact Nat.le_refl _⟩
        rw [if_pos (show nI L < (1000000 : Int32) from (nIl (b := 1000000) (by omega) (by decide)).mpr u1), u2, if_neg (show ¬ nI L = (-9 : Int32) from fun q => by
          rw [eq_I, tI (by omega), show (-9 : Int32).toInt = -9 from rfl] at q
          omega)]
        obtain ⟨μ5, w1, w2, w3, w4⟩ := Sh_forget_loop N N 0 μ3 (by omega) (by omega) (fun x hx => by omega)
        have w1' : f_Sh_forget N μ3 = some μ5 := w1
        have PC5 : PC D μ5 := ⟨w2.dx w8 t4.1, by rw [w3 79 (by decide) (by decide)]; exact t4.2.1, fun k hk => by rw [w3 82 (by decide) (by decide)]; exact t4.2.2 k hk⟩
        obtain ⟨μ6, x1, x2, x3⟩ := Sh_deal_loop N (by omega) I c0 u1 hv N 0 μ5 PC5 (fun t ht q a b => by rw [w3 83 (by decide) (by decide)]; exact t5 t ht q a b) (by omega) (by omega) hv (fun w hw => w4 w hw)
        have x1' : f_Sh_dealOut N (nI (2 ^ D.nS - 1)) (nI L) μ5 = some μ6 := x1
        rw [w1', bvS, x1', bvS]
        obtain ⟨μ7, y1, y2, y3, y4⟩ := M_forget_loop N N 0 μ4 (by omega) (by omega) (fun x hx => by omega)
        rw [y1]
        unfold f_M_parting_B165
        have how : ∀ p, p < D.n → (stG D L 0 (9, 0, 2 ^ D.nS - 1) (p + 1)).1 < D.nS := fun p hp => by
          have all : ∀ q, q ≤ p → PV D L q (stG D L 0 (9, 0, 2 ^ D.nS - 1) q) := fun q => by
            induction q with
            | zero => intro _; exact hv
            | succ q ihq =>
              intro hq
              have := ((ihq (by omega)).next I u1 (show q < D.n by omega)).1
              have e : stG D L 0 (9, 0, 2 ^ D.nS - 1) (q + 1) = stepP D L q (stG D L 0 (9, 0, 2 ^ D.nS - 1) q) := by
                show stepP D L (0 + q) _ = _
                rw [Nat.zero_add]
              rw [e]
              exact this
          have := ((all p (Nat.le_refl _)).next I u1 hp).2
          have e : stG D L 0 (9, 0, 2 ^ D.nS - 1) (p + 1) = stepP D L p (stG D L 0 (9, 0, 2 ^ D.nS - 1) p) := by
            show stepP D L (0 + p) _ = _
            rw [Nat.zero_add]
          rw [e]
          exact this
        obtain ⟨μ8, z1, z2, z3⟩ := M_give_loop N I (ow := fun q => (stG D L 0 (9, 0, 2 ^ D.nS - 1) (q + 1)).1) how N 0 μ7 ⟨y2.dm MP4.1, by rw [y3 0 (by decide) (by decide)]; exact MP4.2.1, fun k hk => by rw [y3 26 (by decide) (by decide)]; exact MP4.2.2 k hk⟩ (fun q hq => by
          rw [y3 28 (by decide) (by decide)]
          have := u4 q (by omega)
          rw [Nat.zero_add] at this
          exact this) (by omega) (by omega) (fun w hw => y4 w hw)
        rw [y3 0 (by decide) (by decide), u2, show nI 0 = (0 : Int32) from rfl] at z1
        rw [z1]
        refine ⟨_, _, _, rfl, rfl, ((h.vfr hR ((V3.trans w2).trans x2) ((MF4.m9.trans y2).trans z2) (fun w hw => ?_)).next hR)⟩
        rw [(x3 w hw).1, (x3 w hw).2, (z3 w hw).1, (z3 w hw).2]
        exact ⟨rfl, rfl⟩
      · have e9 : (sI μ2 0 53 (-9)).1 0 53 = -9 := by rw [sI_at, upd_eq]
        rw [if_neg (show ¬ nI (opF D.n D.nS D.wl D.U2 D.n 9 0 (2 ^ D.nS - 1)) < (1000000 : Int32) from fun q => absurd ((nIl (b := 1000000) (by omega) (by decide)).mp q) (by omega)), u2, e9, if_pos rfl]
        refine ⟨_, _, _, rfl, rfl, (h.vfr hR V3 MF4.m9 ?_).next hR⟩
        have := h.2.2.2.2.1
        unfold RPx at *
        rw [t3 80 (by decide), t3 81 (by decide), g3 80 (Or.inl rfl), g3 81 (Or.inr rfl), sI_ne _ _ _ (by decide), sI_ne _ _ _ (by decide), MF4.2.1 29 (by omega), MF4.2.1 30 (by omega)]
        exact this
  · rw [if_neg (nI_ne0 (by omega) (by omega)), if_neg (nI_ne0 (by omega) (by omega)), show (3 : Int32) = nI 3 from rfl, f_Ta_found_eq N (by decide), f_M_meets_eq N (by decide)]
    exact ⟨_, _, _, rfl, rfl, h.found hR 3⟩
