/-! PURE 59: partings in the class -/
def Da.el (D : Da) (w : Nat) : Bool := !D.gn w && !D.lo w && decide (D.kd w ≠ 3)
def Da.nS (D : Da) : Nat := min 5 (cnt D.el D.w)
def Da.sh (D : Da) (k : Nat) : Nat := stN D.el D.w k
def Da.U2 (D : Da) (k : Nat) : Nat := 2 * D.un (D.sh k)
def Da.wl (D : Da) (p : Nat) : Int := D.len (p - 1) p
theorem sh_ok {D : Da} {k : Nat} (h : k < D.nS) : D.sh k < D.w ∧ D.el (D.sh k) = true := stN_lt D.w k (by unfold Da.nS at h; omega)
theorem U2_le {D : Da} (I : DI D) {k : Nat} (h : k < D.nS) : D.U2 k ≤ 120 := by
  have := I.un60 (sh_ok h).1
  unfold Da.U2
  omega
theorem wl_b {D : Da} (I : DI D) {p : Nat} (hp : p < 16) : -30 ≤ D.wl p ∧ D.wl p ≤ 30 := I.g.lb (p - 1) p (by omega) hp
/-- the class's places of a parting -/
def PC (D : Da) (μ : Mm) : Prop := DX D μ ∧ μ.1 79 6 = nI D.nS ∧ ∀ k, k < D.nS → μ.1 82 k = nI (D.sh k)
theorem PC.dx {D : Da} {μ : Mm} (h : PC D μ) : DX D μ := h.1
def VFr (μ μ' : Mm) : Prop := (∀ c, c < 79 → μ'.1 c = μ.1 c) ∧ μ'.2 = μ.2
theorem VFr.refl (μ : Mm) : VFr μ μ := ⟨fun _ _ => rfl, rfl⟩
theorem VFr.trans {μ μ' μ'' : Mm} (a : VFr μ μ') (b : VFr μ' μ'') : VFr μ μ'' := ⟨fun c h => (b.1 c h).trans (a.1 c h), b.2.trans a.2⟩
theorem VFr.cell {c : Nat} (h : 79 ≤ c) (μ : Mm) (f : Nat) (v : Int32) : VFr μ (sI μ c f v) := ⟨fun d hd => sI_ne _ _ _ (by omega), rfl⟩
theorem VFr.dx {D : Da} (hw : D.w ≤ 8) {μ μ' : Mm} (a : VFr μ μ') (X : DX D μ) : DX D μ' := DX_cells hw (fun c h => a.1 c (by omega)) X
theorem Sh_gather (N : Nat) {D : Da} (I : DI D) : ∀ (m w : Nat) (μ : Mm), DX D μ → w ≤ D.w → D.w < m + w → μ.1 79 6 = nI (min 5 (cnt D.el w)) → (∀ k, k < min 5 (cnt D.el w) → μ.1 82 k = nI (stN D.el w k)) → ∃ μ', f_Sh_gatherSharers_L7 N m (nI w) μ = some μ' ∧ VFr μ μ' ∧ (∀ c, c = 80 ∨ c = 81 → μ'.1 c = μ.1 c) ∧ PC D μ' := by
  have w8 := I.w8
  intro m
  induction m with
  | zero => intro w μ _ h1 h2; omega
  | succ m ih =>
    intro w μ X h1 h2 e6 e82
    rw [f_Sh_gatherSharers_L7, X.w]
    by_cases c : w = D.w
    · rw [if_pos (nI_le (by omega) (by omega))]
      rw [c] at e6 e82
      exact ⟨μ, rfl, VFr.refl μ, fun _ _ => rfl, X, e6, e82⟩
    · have hw : w < D.w := by omega
      have cs : cnt D.el (w + 1) = cnt D.el w + (if D.el w = true then 1 else 0) := rfl
      rw [if_neg (nI_ge (by omega) (by omega)), e6]
      by_cases f : 5 ≤ cnt D.el w
      · rw [if_pos (show (5 : Int32) ≤ nI (min 5 (cnt D.el w)) by rw [Nat.min_eq_left f]; decide)]
        have mono : cnt D.el w ≤ cnt D.el D.w := by
          have := cnt_shift D.el w (D.w - w)
          rw [show w + (D.w - w) = D.w by omega] at this
          omega
        have keep : ∀ x, w ≤ x → ∀ k, k < 5 → stN D.el x k = stN D.el w k := fun x hx k hk => by
          obtain ⟨d, rfl⟩ : ∃ d, x = w + d := ⟨x - w, by omega⟩
          clear hx
          induction d with
          | zero => rfl
          | succ d ihd =>
            show (if D.el (w + d) = true ∧ k = cnt D.el (w + d) then w + d else stN D.el (w + d) k) = _
            have := cnt_shift D.el w d
            rw [if_neg (by omega)]
            exact ihd
        refine ⟨μ, rfl, VFr.refl μ, fun _ _ => rfl, X, ?_, fun k hk => ?_⟩
        · rw [e6]
          unfold Da.nS
          rw [Nat.min_eq_left f, Nat.min_eq_left (by omega)]
        · unfold Da.nS at hk
          rw [e82 k (by omega)]
          unfold Da.sh
          rw [keep D.w (by omega) k (by omega)]
      · rw [Nat.min_eq_right (by omega)] at e6 e82 ⊢
        have k3 := I.kd w hw
        rw [if_neg (show ¬ (5 : Int32) ≤ nI (cnt D.el w) from nI_ge (b := 5) (by omega) (by decide)), Cr_get_eq N (show w < 8 by omega), bnS, if_pos (show w < 8 by omega), X.gn w hw, X.lo w hw, X.kd w hw]
        unfold f_Sh_gatherSharers_B77
        simp only [nI_1, nI_add, e6]
        have skip : D.el w = false → ∃ μ', f_Sh_gatherSharers_L7 N m (nI (w + 1)) μ = some μ' ∧ VFr μ μ' ∧ (∀ c, c = 80 ∨ c = 81 → μ'.1 c = μ.1 c) ∧ PC D μ' := fun ef => by
          rw [ef, if_neg (by decide)] at cs
          refine ih (w + 1) μ X (by omega) (by omega) (by rw [cs, Nat.min_eq_right (by omega)]; exact e6) (fun k hk => ?_)
          rw [cs] at hk
          show _ = nI (if D.el w = true ∧ k = cnt D.el w then w else stN D.el w k)
          rw [if_neg (by rw [ef]; simp)]
          exact e82 k (by omega)
        cases c1 : D.gn w with
        | true =>
          rw [if_neg (by decide)]
          exact skip (by unfold Da.el; rw [c1]; rfl)
        | false =>
          rw [if_pos (by decide)]
          cases c2 : D.lo w with
          | true =>
            rw [if_neg (by decide)]
            exact skip (by unfold Da.el; rw [c1, c2]; rfl)
          | false =>
            rw [if_pos (by decide)]
            by_cases c3 : D.kd w = 3
            · rw [if_pos (by rw [c3]; rfl)]
              exact skip (by unfold Da.el; rw [c1, c2, decide_eq_false (fun q => q c3)]; rfl)
            · have ef : D.el w = true := by unfold Da.el; rw [c1, c2, decide_eq_true c3]; rfl
              rw [ef, if_pos rfl] at cs
              rw [if_neg (show ¬ nI (D.kd w) = 3 from fun q => c3 ((nI_eq (b := 3) (by omega) (by decide)).mp q)), if_pos (ixb_t (show cnt D.el w < 5 by omega) (by decide)), nI_clamp (show cnt D.el w < 2 ^ 31 by omega)]
              have e6' : (sI μ 82 (cnt D.el w) (nI w)).1 79 6 = nI (cnt D.el w) := by rw [sI_ne _ _ _ (by decide)]; exact e6
              rw [e6', ← nI_succ]
              have f1 : VFr μ (sI (sI μ 82 (cnt D.el w) (nI w)) 79 6 (nI (cnt D.el w + 1))) := (VFr.cell (by decide) μ _ _).trans (VFr.cell (by decide) _ _ _)
              obtain ⟨μ', r1, r2, r3, r4⟩ := ih (w + 1) _ (f1.dx w8 X) (by omega) (by omega) (by rw [sI_at, upd_eq, cs, Nat.min_eq_right (by omega)]) (fun k hk => by
                rw [sI_ne _ _ _ (by decide), sI_at, upd_at]
                show _ = nI (if D.el w = true ∧ k = cnt D.el w then w else stN D.el w k)
                by_cases g : k = cnt D.el w
                · rw [if_pos g, if_pos ⟨ef, g⟩]
                · rw [if_neg g, if_neg (fun q => g q.2)]
                  exact e82 k (by omega))
              exact ⟨μ', r1, f1.trans r2, fun c hc => by rw [r3 c hc, sI_ne _ _ _ (by omega), sI_ne _ _ _ (by omega)], r4⟩
theorem Sh_time (N : Nat) {D : Da} (I : DI D) {k : Nat} (hk : k < D.nS) (x : Int32) (μ : Mm) (h : PC D μ) : f_Sh_timeOf N (nI k) x μ = some (nI (D.U2 k) * x, μ) := by
  have w8 := I.w8
  obtain ⟨s1, _⟩ := sh_ok hk
  have k5 : k < 5 := by unfold Da.nS at hk; omega
  unfold f_Sh_timeOf
  rw [if_pos (ixb_t k5 (by decide)), nI_clamp (show k < 2 ^ 31 by omega), h.2.2 k hk, Cr_get_eq N (show D.sh k < 8 by omega), bnS, if_pos (show D.sh k < 8 by omega), Wk_unitParts_eq N I s1 μ h.1, bnS, show (2 : Int32) = nI 2 from rfl, pk_mul]
  rfl
theorem Sh_wall (N : Nat) {D : Da} (I : DI D) {p : Nat} (hp : p < 16) (h0 : 0 < p) (μ : Mm) (X : DX D μ) : f_Gr_lengthOf N (nI p - 1) (nI p) μ = some (zI (D.wl p), μ) := by
  rw [show nI p - 1 = nI (p - 1) from pk_sub (b := 1) (by omega), Gr_lengthOf_at N (by omega) hp]
  have := X.g.len (p - 1) p (by omega) hp
  congr 2
  rw [zI_of (μ.1 7 (16 * (p - 1) + p)), this]
  rfl
/-- the table of a set is laid -/
def LT (D : Da) (s : Nat) (μ : Mm) (q0 : Nat) : Prop := ∀ q, q0 ≤ q → q ≤ D.n → μ.1 83 (17 * s + q) = nI (opF D.n D.nS D.wl D.U2 (D.n - q) 9 0 s)
theorem Wf_step {D : Da} (I : DI D) (hk : D.kind = 0) {m u others to : Nat} (hm : m < D.nS) (hb : others.testBit m = false) (ht : to + 1 < D.n) (hu : u ≤ 30 * to) : Wf D.n D.nS D.wl D.U2 (D.n - to - 1) m u others = min (max (D.U2 m * u) (opF D.n D.nS D.wl D.U2 (D.n - (to + 1)) 9 0 others)) (if 0 < D.wl (to + 1) then Wf D.n D.nS D.wl D.U2 (D.n - (to + 1) - 1) m (u + (D.wl (to + 1)).toNat) others else 1000000) := by
  have n16 := I.g.n16
  have s5 : D.nS ≤ 5 := by unfold Da.nS; omega
  have u2 := U2_le I hm
  have ub : D.U2 m * u ≤ 120 * 450 := Nat.mul_le_mul u2 (by omega)
  have sp := op_split (n := D.n) (S := D.nS) (wl := D.wl) (U := D.U2) (d := D.n - (to + 1) - 1) (m := m) (u := u) (others := others) s5 hm hb (by omega)
  rw [show D.n - (to + 1) - 1 + 1 = D.n - (to + 1) by omega, show D.n - (D.n - (to + 1)) = to + 1 by omega] at sp
  unfold Wf
  rw [show D.n - to - 1 = D.n - (to + 1) by omega, sp]
  by_cases c : 0 < D.wl (to + 1)
  · rw [if_pos c, if_pos c]
    have mm : D.U2 m * u ≤ D.U2 m * (u + (D.wl (to + 1)).toNat) := Nat.mul_le_mul_left _ (by omega)
    unfold Wf
    generalize opF D.n D.nS D.wl D.U2 (D.n - (to + 1) - 1) m (u + (D.wl (to + 1)).toNat) others = A at *
    omega
  · rw [if_neg c, if_neg c]
    generalize opF D.n D.nS D.wl D.U2 (D.n - (to + 1)) 9 0 others = A at *
    omega
theorem Wf_last {D : Da} {m u others to : Nat} (ht : to + 1 = D.n) : Wf D.n D.nS D.wl D.U2 (D.n - to - 1) m u others = D.U2 m * u ∧ opF D.n D.nS D.wl D.U2 (D.n - (to + 1)) 9 0 others = 0 := by
  unfold Wf
  rw [show D.n - to - 1 = 0 by omega, show D.n - (to + 1) = 0 by omega]
  exact ⟨Nat.max_eq_left (Nat.zero_le _), rfl⟩
def wAt (D : Da) (p0 to : Nat) : Int := if p0 < to then D.wl to else 0
theorem Sh_with_loop (N : Nat) {D : Da} (I : DI D) (hk : D.kind = 0) {m others from' : Nat} (hm : m < D.nS) (ho : others < 32) (hb : others.testBit m = false) (μ : Mm) (h : PC D μ) (lt : LT D others μ 0) : ∀ (f to u best : Nat), from' ≤ to → to ≤ D.n → D.n < f + to → u ≤ 30 * (to - 1) → best ≤ 1000000 → f_Sh_leastWith_L10 N f (nI m) (nI others) (nI from') (nI best) (nI u) (nI to) μ = some (nI (if to = D.n ∨ wAt D from' to < 0 then best else min best (Wf D.n D.nS D.wl D.U2 (D.n - to - 1) m (u + (wAt D from' to).toNat) others)), μ) := by
  have n16 := I.g.n16
  have u2 := U2_le I hm
  have n1 := I.g.n1
  intro f
  induction f with
  | zero => intro to u best _ h1 h2; omega
  | succ f ih =>
    intro to u best h0 h1 h2 hu hbest
    rw [f_Sh_leastWith_L10, h.1.g.n]
    by_cases c : to = D.n
    · rw [if_pos (nI_le (by omega) (by omega)), if_pos (Or.inl c)]
    · have wb := wl_b I (show to < 16 by omega)
      rw [if_neg (nI_ge (by omega) (by omega))]
      have mid : f_Sh_leastWith_B45 N (f_Sh_leastWith_L10 N f) (nI m) (nI others) (nI from') (nI best) (nI u) (nI to) (zI (wAt D from' to)) μ = some (nI (if to = D.n ∨ wAt D from' to < 0 then best else min best (Wf D.n D.nS D.wl D.U2 (D.n - to - 1) m (u + (wAt D from' to).toNat) others)), μ) := by
        have wab : -30 ≤ wAt D from' to ∧ wAt D from' to ≤ 30 := by unfold wAt; split <;> omega
        have w0 : to = 0 → wAt D from' to = 0 := fun q => by unfold wAt; rw [if_neg (by omega)]
        generalize wAt D from' to = w at *
        unfold f_Sh_leastWith_B45
        simp only [Sh_time N I hm _ μ h, bnS]
        by_cases wn : w < 0
        · rw [if_pos (show zI w < (0 : Int32) by rw [lt_I, zI_toInt (by omega) (by omega), show (0 : Int32).toInt = 0 from rfl]; exact wn), if_pos (Or.inr wn)]
        · have ez : zI w = nI w.toNat := by rw [zI_n, Int.toNat_of_nonneg (by omega)]
          have uw : u + w.toNat ≤ 30 * to := by omega
          have tb : D.U2 m * (u + w.toNat) ≤ 120 * 450 := Nat.mul_le_mul u2 (by omega)
          rw [if_neg (show ¬ zI w < (0 : Int32) by rw [lt_I, zI_toInt (by omega) (by omega), show (0 : Int32).toInt = 0 from rfl]; exact wn), if_neg (show ¬ (to = D.n ∨ w < 0) by omega), ez, nI_add, pk_mul]
          unfold f_Sh_leastWith_B75 f_Sh_place
          by_cases tl : D.U2 m * (u + w.toNat) < best
          · have oL := opF_le D.n D.nS D.wl D.U2 (D.n - (to + 1)) 9 0 others
            have te := lt (to + 1) (by omega) (by omega)
            rw [if_pos (nI_lt tl (by omega)), ← nI_succ]
            simp only [bnS, show (17 : Int32) = nI 17 from rfl, pk_mul, nI_add]
            rw [show others * 17 + (to + 1) = 17 * others + (to + 1) by omega, if_pos (ixb_t (show 17 * others + (to + 1) < 544 by omega) (by decide)), nI_clamp (show 17 * others + (to + 1) < 2 ^ 31 by omega), te, Jmax', bnS, mxI_nn (by omega) (by omega), Jmin, bnS]
            have em : (if opF D.n D.nS D.wl D.U2 (D.n - (to + 1)) 9 0 others ≤ D.U2 m * (u + w.toNat) then D.U2 m * (u + w.toNat) else opF D.n D.nS D.wl D.U2 (D.n - (to + 1)) 9 0 others) = max (D.U2 m * (u + w.toNat)) (opF D.n D.nS D.wl D.U2 (D.n - (to + 1)) 9 0 others) := by split <;> omega
            rw [em]
            have mb : max (D.U2 m * (u + w.toNat)) (opF D.n D.nS D.wl D.U2 (D.n - (to + 1)) 9 0 others) ≤ 1000000 := by omega
            have en : (if (nI best).toInt ≤ (nI (max (D.U2 m * (u + w.toNat)) (opF D.n D.nS D.wl D.U2 (D.n - (to + 1)) 9 0 others))).toInt then nI best else nI (max (D.U2 m * (u + w.toNat)) (opF D.n D.nS D.wl D.U2 (D.n - (to + 1)) 9 0 others))) = nI (min best (max (D.U2 m * (u + w.toNat)) (opF D.n D.nS D.wl D.U2 (D.n - (to + 1)) 9 0 others))) := by
              rw [tI (by omega), tI (by omega)]
              by_cases z : best ≤ max (D.U2 m * (u + w.toNat)) (opF D.n D.nS D.wl D.U2 (D.n - (to + 1)) 9 0 others)
              · rw [if_pos (Int.ofNat_le.mpr z), Nat.min_eq_left z]
              · rw [if_neg (fun q => z (Int.ofNat_le.mp q)), Nat.min_eq_right (by omega)]
            rw [en]
            have ih' := ih (to + 1) (u + w.toNat) (min best (max (D.U2 m * (u + w.toNat)) (opF D.n D.nS D.wl D.U2 (D.n - (to + 1)) 9 0 others))) (by omega) (by omega) (by omega) (by omega) (by omega)
            rw [ih']
            congr 3
            by_cases tn : to + 1 = D.n
            · rw [if_pos (Or.inl tn), (Wf_last tn).1, (Wf_last (D := D) (m := m) (u := u) (others := others) tn).2]
              congr 1
              exact Nat.max_eq_left (Nat.zero_le _)
            · have stp := Wf_step I hk hm hb (to := to) (u := u + w.toNat) (by omega) uw
              have wa : wAt D from' (to + 1) = D.wl (to + 1) := by unfold wAt; rw [if_pos (by omega)]
              rw [wa, stp]
              have nz := I.fence hk
              have wne : D.wl (to + 1) ≠ 0 := by
                unfold Da.wl
                rw [show to + 1 - 1 = to by omega]
                exact nz.2 to (by omega)
              by_cases wp : D.wl (to + 1) < 0
              · rw [if_pos (Or.inr wp), if_neg (show ¬ 0 < D.wl (to + 1) by omega)]
                generalize opF D.n D.nS D.wl D.U2 (D.n - (to + 1)) 9 0 others = A at *
                generalize D.U2 m * (u + w.toNat) = T at *
                omega
              · rw [if_neg (by omega), if_pos (show 0 < D.wl (to + 1) by omega)]
                generalize opF D.n D.nS D.wl D.U2 (D.n - (to + 1)) 9 0 others = A at *
                generalize D.U2 m * (u + w.toNat) = T at *
                generalize Wf D.n D.nS D.wl D.U2 (D.n - (to + 1) - 1) m (u + w.toNat + (D.wl (to + 1)).toNat) others = Z at *
                omega
          · rw [if_neg (nI_nlt (by omega) (by omega))]
            have : D.U2 m * (u + w.toNat) ≤ Wf D.n D.nS D.wl D.U2 (D.n - to - 1) m (u + w.toNat) others := by unfold Wf; omega
            rw [Nat.min_eq_left (by omega)]
      by_cases c2 : to ≤ from'
      · rw [if_pos (nI_le c2 (by omega))]
        have : zI (wAt D from' to) = 0 := by unfold wAt; rw [if_neg (by omega)]; rfl
        rw [this] at mid
        exact mid
      · rw [if_neg (nI_ge (by omega) (by omega)), Sh_wall N I (by omega) (by omega) μ h.1, bnS]
        have : wAt D from' to = D.wl to := by unfold wAt; rw [if_pos (by omega)]
        rw [← this]
        exact mid
theorem Sh_of_loop (N : Nat) (hN : 30 ≤ N) {D : Da} (I : DI D) (hk : D.kind = 0) {s from' : Nat} (hs : s < 32) (hf : from' < D.n) (μ : Mm) (h : PC D μ) (lt : ∀ t, t < s → LT D t μ 0) : ∀ (f m : Nat), m ≤ D.nS → D.nS < f + m → f_Sh_leastOf_L6 N f (nI s) (nI from') (nI (mnF (alF D.wl from' 9 s) (vF D.n D.nS D.wl D.U2 (D.n - from' - 1) 9 0 s) 1000000 m)) (nI m) μ = some (nI (opF D.n D.nS D.wl D.U2 (D.n - from') 9 0 s), μ) := by
  have n16 := I.g.n16
  have s5 : D.nS ≤ 5 := by unfold Da.nS; omega
  have os : opF D.n D.nS D.wl D.U2 (D.n - from') 9 0 s = mnF (alF D.wl from' 9 s) (vF D.n D.nS D.wl D.U2 (D.n - from' - 1) 9 0 s) 1000000 D.nS := by
    have := opF_s D.n D.nS D.wl D.U2 (D.n - from' - 1) 9 0 s
    rw [show D.n - from' - 1 + 1 = D.n - from' by omega, show D.n - (D.n - from') = from' by omega] at this
    exact this
  intro f
  induction f with
  | zero => intro m h1 h2; omega
  | succ f ih =>
    intro m h1 h2
    rw [f_Sh_leastOf_L6, h.2.1]
    by_cases c : m = D.nS
    · rw [if_pos (nI_le (by omega) (by omega)), c, os]
    · have hm : m < D.nS := by omega
      have ml := (mnF_le (alF D.wl from' 9 s) (vF D.n D.nS D.wl D.U2 (D.n - from' - 1) 9 0 s) 1000000 m).1
      have st1 : mnF (alF D.wl from' 9 s) (vF D.n D.nS D.wl D.U2 (D.n - from' - 1) 9 0 s) 1000000 (m + 1) = if alF D.wl from' 9 s m = true then min (mnF (alF D.wl from' 9 s) (vF D.n D.nS D.wl D.U2 (D.n - from' - 1) 9 0 s) 1000000 m) (vF D.n D.nS D.wl D.U2 (D.n - from' - 1) 9 0 s m) else mnF (alF D.wl from' 9 s) (vF D.n D.nS D.wl D.U2 (D.n - from' - 1) 9 0 s) 1000000 m := rfl
      have al : alF D.wl from' 9 s m = s.testBit m := by
        unfold alF
        rw [decide_eq_false (fun q => by omega)]; rfl
      have nw : nwF D.wl from' 9 0 m = 0 := by unfold nwF; rw [if_neg (fun q => by omega)]
      have ih' := ih (m + 1) (by omega) (by omega)
      rw [if_neg (nI_ge (by omega) (by omega)), bitN (by omega) (by omega)]
      unfold f_Sh_leastOf_B44
      simp only [nI_1, nI_add]
      rw [al] at st1
      cases b : s.testBit m with
      | false =>
        rw [if_pos (by decide)]
        rw [b, if_neg (by decide)] at st1
        rw [st1] at ih'
        exact ih'
      | true =>
        have an := anN_less b
        have anb : (anN s (2 ^ m)).testBit m = false := by rw [anN_tb, Nat.testBit_two_pow, decide_eq_true rfl, Bool.not_true, Bool.and_false]
        have v : vF D.n D.nS D.wl D.U2 (D.n - from' - 1) 9 0 s m = Wf D.n D.nS D.wl D.U2 (D.n - from' - 1) m 0 (anN s (2 ^ m)) := by
          unfold vF Wf
          rw [show D.n - (D.n - from' - 1 + 1) = from' by omega, nw]
        have wl0 : wAt D from' from' = 0 := by unfold wAt; rw [if_neg (by omega)]
        have lw := Sh_with_loop N I hk (from' := from') hm (show anN s (2 ^ m) < 32 by omega) anb μ h (lt _ an) N from' 0 1000000 (Nat.le_refl _) (by omega) (by omega) (by omega) (Nat.le_refl _)
        rw [wl0, if_neg (by omega)] at lw
        have lw' : f_Sh_leastWith N (nI m) (nI (anN s (2 ^ m))) (nI from') μ = some (nI (min 1000000 (Wf D.n D.nS D.wl D.U2 (D.n - from' - 1) m 0 (anN s (2 ^ m)))), μ) := lw
        rw [b, if_pos rfl, v] at st1
        rw [if_neg (by decide), clr_bit (by omega) (by omega), lw', bnS, Jmin, bnS, tI (by omega), tI (by omega)]
        rw [st1] at ih'
        generalize Wf D.n D.nS D.wl D.U2 (D.n - from' - 1) m 0 (anN s (2 ^ m)) = Z at *
        generalize mnF (alF D.wl from' 9 s) (vF D.n D.nS D.wl D.U2 (D.n - from' - 1) 9 0 s) 1000000 m = A at *
        by_cases d : A ≤ min 1000000 Z
        · rw [if_pos (Int.ofNat_le.mpr d)]
          rw [Nat.min_eq_left (show A ≤ Z by omega)] at ih'
          exact ih'
        · rw [if_neg (fun q => d (Int.ofNat_le.mp q))]
          rw [Nat.min_eq_right (show Z ≤ A by omega)] at ih'
          rw [show min 1000000 Z = Z by omega]
          exact ih'
theorem sev_inj {s a t b : Nat} (ha : a < 17) (hb : b < 17) : 17 * s + a = 17 * t + b ↔ s = t ∧ a = b := by omega
theorem Sh_table_in (N : Nat) (hN : 30 ≤ N) {D : Da} (I : DI D) (hk : D.kind = 0) {s : Nat} (hs : s < 2 ^ D.nS) (v1 : Int32) (k26 : Int32 → Int32 → Mm → Option (Int32 × Mm)) : ∀ (f q : Nat) (μ : Mm), PC D μ → (∀ t, t < s → LT D t μ 0) → LT D s μ q → q ≤ D.n → q < f → ∃ μ', f_Sh_settle_L58 N k26 f v1 (nI s) (nI q - 1) μ = k26 v1 (nI (s + 1)) μ' ∧ VFr μ μ' ∧ (∀ c, c ≠ 83 → μ'.1 c = μ.1 c) ∧ PC D μ' ∧ ∀ t, t < s + 1 → LT D t μ' 0 := by
  have n16 := I.g.n16
  have s5 : D.nS ≤ 5 := by unfold Da.nS; omega
  have p32 : 2 ^ D.nS ≤ 32 := (show 2 ^ D.nS ≤ 2 ^ 5 from Nat.pow_le_pow_right (by decide) s5)
  intro f
  induction f with
  | zero => intro q μ _ _ _ _ h2; omega
  | succ f ih =>
    intro q μ h lt ls h1 h2
    rw [f_Sh_settle_L58]
    by_cases c : q = 0
    · subst c
      rw [if_pos (by decide)]
      unfold f_Sh_settle_B84
      simp only [nI_1, nI_add]
      refine ⟨μ, rfl, VFr.refl μ, fun _ _ => rfl, h, fun t ht => ?_⟩
      by_cases e : t = s
      · subst e; exact ls
      · exact lt t (by omega)
    · have e : nI q - 1 = nI (q - 1) := pk_sub (b := 1) (by omega)
      rw [e, if_neg (show ¬ nI (q - 1) < (0 : Int32) by rw [lt_I, tI (by omega), show (0 : Int32).toInt = 0 from rfl]; omega)]
      have lf := Sh_of_loop N hN I hk (s := s) (from' := q - 1) (by omega) (by omega) μ h lt N 0 (by omega) (by omega)
      have lf' : f_Sh_leastOf N (nI s) (nI (q - 1)) μ = some (nI (opF D.n D.nS D.wl D.U2 (D.n - (q - 1)) 9 0 s), μ) := lf
      unfold f_Sh_place
      simp only [bnS, lf', show (17 : Int32) = nI 17 from rfl, pk_mul, nI_add]
      rw [show s * 17 + (q - 1) = 17 * s + (q - 1) by omega, if_pos (ixb_t (show 17 * s + (q - 1) < 544 by omega) (by decide)), nI_clamp (show 17 * s + (q - 1) < 2 ^ 31 by omega), show nI (q - 1) + -1 = nI (q - 1) - 1 from by
        rw [Int32.sub_eq_add_neg]]
      have at83 : ∀ t x, x ≤ D.n → (sI μ 83 (17 * s + (q - 1)) (nI (opF D.n D.nS D.wl D.U2 (D.n - (q - 1)) 9 0 s))).1 83 (17 * t + x) = if t = s ∧ x = q - 1 then nI (opF D.n D.nS D.wl D.U2 (D.n - (q - 1)) 9 0 s) else μ.1 83 (17 * t + x) := fun t x hx => by
        rw [sI_at, upd_at]
        by_cases g : t = s ∧ x = q - 1
        · rw [if_pos ((sev_inj (by omega) (by omega)).mpr g), if_pos g]
        · rw [if_neg (fun z => g ((sev_inj (by omega) (by omega)).mp z)), if_neg g]
      have f1 := VFr.cell (c := 83) (by decide) μ (17 * s + (q - 1)) (nI (opF D.n D.nS D.wl D.U2 (D.n - (q - 1)) 9 0 s))
      obtain ⟨μ', r1, r2, r3, r4, r5⟩ := ih (q - 1) (sI μ 83 (17 * s + (q - 1)) (nI (opF D.n D.nS D.wl D.U2 (D.n - (q - 1)) 9 0 s))) ⟨f1.dx I.w8 h.1, by rw [sI_ne _ _ _ (by decide)]; exact h.2.1, fun k hk => by rw [sI_ne _ _ _ (by decide)]; exact h.2.2 k hk⟩ (fun t ht x x1 x2 => by rw [at83 t x x2, if_neg (by omega)]; exact lt t ht x x1 x2) (fun x x1 x2 => by
        rw [at83 s x x2]
        by_cases g : x = q - 1
        · rw [if_pos ⟨rfl, g⟩, g]
        · rw [if_neg (fun z => g z.2)]
          exact ls x (by omega) x2) (by omega) (by omega)
      exact ⟨μ', r1, f1.trans r2, fun c hc => by rw [r3 c hc, sI_ne _ _ _ hc], r4, r5⟩
theorem Sh_table_out (N : Nat) (hN : 60 ≤ N) {D : Da} (I : DI D) (hk : D.kind = 0) : ∀ (f s : Nat) (μ : Mm), PC D μ → (∀ t, t < s → LT D t μ 0) → s ≤ 2 ^ D.nS → 2 ^ D.nS < f + s → ∃ μ', f_Sh_settle_L26 N f (nI (2 ^ D.nS - 1)) (nI s) μ = f_Sh_settle_B90 N (nI (2 ^ D.nS - 1)) μ' ∧ VFr μ μ' ∧ (∀ c, c ≠ 83 → μ'.1 c = μ.1 c) ∧ PC D μ' ∧ ∀ t, t < 2 ^ D.nS → LT D t μ' 0 := by
  have n16 := I.g.n16
  have n1 := I.g.n1
  have s5 : D.nS ≤ 5 := by unfold Da.nS; omega
  have p32 : 2 ^ D.nS ≤ 32 := (show 2 ^ D.nS ≤ 2 ^ 5 from Nat.pow_le_pow_right (by decide) s5)
  have p1 : 1 ≤ 2 ^ D.nS := Nat.two_pow_pos _
  intro f
  induction f with
  | zero => intro s μ _ _ _ h2; omega
  | succ f ih =>
    intro s μ h lt h1 h2
    rw [f_Sh_settle_L26]
    by_cases c : s = 2 ^ D.nS
    · rw [if_pos (nI_lt (by omega) (by omega))]
      rw [c] at lt
      exact ⟨μ, rfl, VFr.refl μ, fun _ _ => rfl, h, lt⟩
    · rw [if_neg (nI_nlt (by omega) (by omega)), h.1.g.n]
      unfold f_Sh_place
      simp only [bnS, show (17 : Int32) = nI 17 from rfl, pk_mul, nI_add]
      rw [show s * 17 + D.n = 17 * s + D.n by omega, if_pos (ixb_t (show 17 * s + D.n < 544 by omega) (by decide)), nI_clamp (show 17 * s + D.n < 2 ^ 31 by omega)]
      have f1 := VFr.cell (c := 83) (by decide) μ (17 * s + D.n) 0
      have X1 := f1.dx I.w8 h.1
      have n61 : (sI μ 83 (17 * s + D.n) 0).1 6 1 = nI D.n := X1.g.n
      rw [n61]
      obtain ⟨μ1, r1, r2, r3, r4, r5⟩ := Sh_table_in N (by omega) I hk (s := s) (by omega) (nI (2 ^ D.nS - 1)) (f_Sh_settle_L26 N f) N D.n (sI μ 83 (17 * s + D.n) 0) ⟨X1, by rw [sI_ne _ _ _ (by decide)]; exact h.2.1, fun k hk => by rw [sI_ne _ _ _ (by decide)]; exact h.2.2 k hk⟩ (fun t ht x x1 x2 => by
        rw [sI_at, upd_ne _ _ (by omega)]
        exact lt t ht x x1 x2) (fun x x1 x2 => by
        rw [show x = D.n by omega, sI_at, upd_eq, Nat.sub_self]
        rfl) (Nat.le_refl _) (by omega)
      rw [r1]
      obtain ⟨μ', q1, q2, q3, q4, q5⟩ := ih (s + 1) μ1 r4 r5 (by omega) (by omega)
      exact ⟨μ', q1, (f1.trans r2).trans q2, fun c hc => by rw [q3 c hc, r3 c hc, sI_ne _ _ _ hc], q4, q5⟩
