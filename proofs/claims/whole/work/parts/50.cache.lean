/-! PURE 30: what the class keeps for itself -/
def WkOk (D : Da) (j : Nat) (μ : Mm) : Prop := μ.1 (WK j) 12 = nI (D.per j) ∧ μ.1 (WK j) 13 = nI (D.ev j) ∧ (D.kd j ≠ 3 → (∀ i, i ≤ D.sz j → μ.1 (WK j + 3) i = nI (D.cm j i)) ∧ ∀ i, i < D.sz j → μ.1 (WK j + 4) i = nI (D.cm j i + D.pr j i) ∧ μ.1 (WK j + 5) i = nI (D.sg j i))
def CrewOk (D : Da) (μ : Mm) : Prop := μ.1 11 2 = nI (bsN D.go D.w) ∧ ∀ j, j < D.w → D.go j = true → WkOk D j μ
def RCf (μ : Mm) : Prop := ∀ n len, GI n len → GX n len μ → μ.1 6 9 = 0 → FA n (fw n len) (μ.1 10)
def RCc (μ : Mm) : Prop := ∀ D, DI D → DX D μ → μ.1 11 4 = 0 → μ.1 11 5 = μ.1 6 4 → CrewOk D μ
def RCt (TK : Nat → (Nat → Nat → Int) → (Nat → Nat) → (Nat → Int32) → (Nat → Int32) → Prop) (μ : Mm) : Prop := ∀ n len wor, GI n len → GX n len μ → (∀ p, p < n → wor p ≤ 9 ∧ μ.1 8 p = nI (wor p)) → μ.1 75 6 = μ.1 6 4 → TK n len wor (μ.1 75) (μ.1 77)
def RCv (TK : Nat → (Nat → Nat → Int) → (Nat → Nat) → (Nat → Int32) → (Nat → Int32) → Prop) (k : Nat) (μ : Mm) : Prop := ∃ v : Nat, μ.1 6 4 = nI v ∧ v ≤ 17 * k ∧ (k < 1000000 → (∃ g : Nat, g ≤ v ∧ μ.1 11 5 = nI g) ∧ (μ.1 75 6 = -1 ∨ ∃ t : Nat, t ≤ v ∧ μ.1 75 6 = nI t) ∧ RCf μ ∧ RCc μ ∧ RCt TK μ)
theorem RCf_congr {μ μ' : Mm} (h1 : μ'.1 6 1 = μ.1 6 1) (h9 : μ'.1 6 9 = μ.1 6 9) (h7 : μ'.1 7 = μ.1 7) (h10 : μ'.1 10 = μ.1 10) (h : RCf μ) : RCf μ' := fun n len G X e => by
  rw [h10]
  exact h n len G (X.congr h1.symm h7.symm) (by rw [← h9]; exact e)
theorem WkOk_congr {D : Da} {j : Nat} {μ μ' : Mm} (h : ∀ c, WK j ≤ c → c ≤ WK j + 5 → μ'.1 c = μ.1 c) (q : WkOk D j μ) : WkOk D j μ' := by
  unfold WkOk
  rw [h (WK j) (by omega) (by omega), h (WK j + 3) (by omega) (by omega), h (WK j + 4) (by omega) (by omega), h (WK j + 5) (by omega) (by omega)]
  exact q
theorem CrewOk_congr {D : Da} {μ μ' : Mm} (hw : D.w ≤ 8) (h : ∀ c, 13 ≤ c → c ≤ 60 → μ'.1 c = μ.1 c) (h2 : μ'.1 11 2 = μ.1 11 2) (q : CrewOk D μ) : CrewOk D μ' := ⟨by rw [h2]; exact q.1, fun j hj g => WkOk_congr (fun c a b => h c (by unfold WK at a; omega) (by unfold WK at b; omega)) (q.2 j hj g)⟩
theorem DX_cells {D : Da} (hw : D.w ≤ 8) {μ μ' : Mm} (h : ∀ c, (6 ≤ c ∧ c ≤ 9) ∨ (11 ≤ c ∧ c ≤ 60) → μ'.1 c = μ.1 c) (X : DX D μ) : DX D μ' :=
  X.congr hw (by rw [h 6 (by omega)]) (by rw [h 6 (by omega)]) (h 7 (by omega)) (h 8 (by omega)) (h 9 (by omega)) (by rw [h 11 (by omega)]) (fun j hj => ⟨fun f _ => by rw [h (WK j) (by unfold WK; omega)], h (WK j + 1) (by unfold WK; omega), h (WK j + 2) (by unfold WK; omega)⟩)
theorem RCc_congr {μ μ' : Mm} (h : ∀ c, (6 ≤ c ∧ c ≤ 9) ∨ (11 ≤ c ∧ c ≤ 60) → μ'.1 c = μ.1 c) (q : RCc μ) : RCc μ' := fun D I X e4 e5 => by
  have h11 := h 11 (by omega)
  refine CrewOk_congr I.w8 (fun c a b => h c (by omega)) (by rw [h11]) (q D I (DX_cells I.w8 (fun c hc => (h c hc).symm) X) (by rw [← h11]; exact e4) (by rw [← h11, ← h 6 (by omega)]; exact e5))
theorem RCt_congr {TK} {μ μ' : Mm} (h1 : μ'.1 6 1 = μ.1 6 1) (h4 : μ'.1 6 4 = μ.1 6 4) (h7 : μ'.1 7 = μ.1 7) (h8 : μ'.1 8 = μ.1 8) (h75 : μ'.1 75 = μ.1 75) (h77 : μ'.1 77 = μ.1 77) (h : RCt TK μ) : RCt TK μ' := fun n len wor G X W e => by
  rw [h75, h77]
  exact h n len wor G (X.congr h1.symm h7.symm) (fun p hp => by rw [← h8]; exact W p hp) (by rw [← h75, ← h4]; exact e)
theorem RCv_ok (TK) : RCok (RCv TK) := by
  refine ⟨?_, ?_, ?_, ?_, ?_⟩
  · rintro k μ ⟨v, e, hv, q⟩
    exact ⟨v, e, by omega, fun hk => q (by omega)⟩
  · rintro k μ μ' hc ⟨v, e, hv, q⟩
    have h6 := hc 6 (by omega)
    have h7 := hc 7 (by omega)
    have h8 := hc 8 (by omega)
    have h11 := hc 11 (by omega)
    have h75 := hc 75 (by omega)
    refine ⟨v, by rw [h6]; exact e, hv, fun hk => ?_⟩
    obtain ⟨q1, q2, q3, q4, q5⟩ := q hk
    exact ⟨by rw [h11]; exact q1, by rw [h75]; exact q2, RCf_congr (by rw [h6]) (by rw [h6]) h7 (hc 10 (by omega)) q3, RCc_congr (fun c a => hc c (by omega)) q4, RCt_congr (by rw [h6]) (by rw [h6]) h7 h8 h75 (hc 77 (by omega)) q5⟩
  · rintro k μ ⟨v, e, hv, _⟩
    exact ⟨v, e, hv⟩
  · rintro k μ μ' v v' ⟨v0, e, hv0, q⟩ hc ev hv ev' lt hv' hd
    refine ⟨v', ev', hv', fun hk => ?_⟩
    have : v0 = v := by
      have := e.symm.trans ev
      exact (nI_eq (by omega) (by omega)).mp this
    subst this
    obtain ⟨⟨g, q1, q1'⟩, q2, q3, q4, q5⟩ := q (by omega)
    have h11 := hc 11 (by omega)
    have h75 := hc 75 (by omega)
    refine ⟨⟨g, by omega, by rw [h11]; exact q1'⟩, ?_, ?_, ?_, ?_⟩
    · rw [h75]
      rcases q2 with q2 | ⟨t, q2, q2'⟩
      · exact Or.inl q2
      · exact Or.inr ⟨t, by omega, q2'⟩
    · rcases hd with hd | ⟨d1, d2, d3⟩
      · intro n len _ _ e0
        rw [hd] at e0
        exact absurd e0 (by decide)
      · exact RCf_congr d2 d1 d3 (hc 10 (by omega)) q3
    · intro D _ _ _ e5
      rw [h11, q1', ev'] at e5
      exact absurd ((nI_eq (by omega) (by omega)).mp e5) (by omega)
    · intro n len wor _ _ _ e5
      rw [h75, ev'] at e5
      rcases q2 with q2 | ⟨t, q2, q2'⟩
      · rw [q2] at e5
        have := eq_I.mp e5
        rw [tI (by omega), show (-1 : Int32).toInt = -1 from rfl] at this
        omega
      · rw [q2'] at e5
        exact absurd ((nI_eq (by omega) (by omega)).mp e5) (by omega)
  · rintro k μ μ' ⟨v, e, hv, q⟩ hc h4 h5
    have h6 := hc 6 (by omega)
    have h75 := hc 75 (by omega)
    refine ⟨v, by rw [h6]; exact e, by omega, fun hk => ?_⟩
    obtain ⟨q1, q2, q3, q4, q5⟩ := q (by omega)
    exact ⟨by rw [h5]; exact q1, by rw [h75]; exact q2, RCf_congr (by rw [h6]) (by rw [h6]) (hc 7 (by omega)) (hc 10 (by omega)) q3, (fun D _ _ e4 => by rw [h4] at e4; exact absurd e4 (by decide)), RCt_congr (by rw [h6]) (by rw [h6]) (hc 7 (by omega)) (hc 8 (by omega)) h75 (hc 77 (by omega)) q5⟩
/-- what looking anew leaves as it was -/
def CFr (μ μ' : Mm) : Prop := (∀ c, c < 6 ∨ (7 ≤ c ∧ c ≤ 9) ∨ 60 < c → μ'.1 c = μ.1 c) ∧ (∀ f, f ≠ 9 → μ'.1 6 f = μ.1 6 f) ∧ μ'.1 11 1 = μ.1 11 1 ∧ (∀ j, j < 8 → (∀ f, f ≤ 8 → μ'.1 (WK j) f = μ.1 (WK j) f) ∧ μ'.1 (WK j + 1) = μ.1 (WK j + 1) ∧ μ'.1 (WK j + 2) = μ.1 (WK j + 2)) ∧ μ'.2 = μ.2
theorem CFr.refl (μ : Mm) : CFr μ μ := ⟨fun _ _ => rfl, fun _ _ => rfl, rfl, fun _ _ => ⟨fun _ _ => rfl, rfl, rfl⟩, rfl⟩
theorem CFr.trans {μ μ' μ'' : Mm} (a : CFr μ μ') (b : CFr μ' μ'') : CFr μ μ'' := ⟨fun c h => (b.1 c h).trans (a.1 c h), fun f h => (b.2.1 f h).trans (a.2.1 f h), b.2.2.1.trans a.2.2.1, fun j h => ⟨fun f g => ((b.2.2.2.1 j h).1 f g).trans ((a.2.2.2.1 j h).1 f g), (b.2.2.2.1 j h).2.1.trans (a.2.2.2.1 j h).2.1, (b.2.2.2.1 j h).2.2.trans (a.2.2.2.1 j h).2.2⟩, b.2.2.2.2.trans a.2.2.2.2⟩
theorem CFr.symm {μ μ' : Mm} (a : CFr μ μ') : CFr μ' μ := ⟨fun c h => (a.1 c h).symm, fun f h => (a.2.1 f h).symm, a.2.2.1.symm, fun j h => ⟨fun f g => ((a.2.2.2.1 j h).1 f g).symm, (a.2.2.2.1 j h).2.1.symm, (a.2.2.2.1 j h).2.2.symm⟩, a.2.2.2.2.symm⟩
theorem CFr.dx {D : Da} (hw : D.w ≤ 8) {μ μ' : Mm} (a : CFr μ μ') (X : DX D μ) : DX D μ' := X.congr hw (a.2.1 0 (by decide)) (a.2.1 1 (by decide)) (a.1 7 (by omega)) (a.1 8 (by omega)) (a.1 9 (by omega)) a.2.2.1 a.2.2.2.1
theorem CFr.gx {n : Nat} {len : Nat → Nat → Int} {μ μ' : Mm} (a : CFr μ μ') (X : GX n len μ) : GX n len μ' := X.congr (a.2.1 1 (by decide)) (a.1 7 (by omega))
/-- the places of the cells of walkers -/
theorem WK_ge (j : Nat) : 13 ≤ WK j := by unfold WK; omega
theorem WK_le {j : Nat} (h : j < 8) : WK j + 5 ≤ 60 := by unfold WK; omega
theorem CFr.wf {j f : Nat} (hj : j < 8) (hf : 8 < f) (μ : Mm) (v : Int32) : CFr μ (sI μ (WK j) f v) := by
  have h1 := WK_ge j
  have h2 := WK_le hj
  refine ⟨fun c h => ?_, fun f h => ?_, ?_, fun i hi => ⟨fun g hg => ?_, ?_, ?_⟩, rfl⟩ <;> rw [sI1]
  · rw [if_neg (by omega)]
  · rw [if_neg (by omega)]
  · rw [if_neg (by omega)]
  · split
    · rename_i e
      rw [upd_at, if_neg (by omega), e]
    · rfl
  · rw [if_neg (by unfold WK; omega)]
  · rw [if_neg (by unfold WK; omega)]
theorem CFr.wa {j a : Nat} (hj : j < 8) (ha : 3 ≤ a) (ha5 : a ≤ 5) (μ : Mm) (f : Nat) (v : Int32) : CFr μ (sI μ (WK j + a) f v) := by
  have h1 := WK_ge j
  have h2 := WK_le hj
  refine ⟨fun c h => ?_, fun f h => ?_, ?_, fun i hi => ⟨fun g hg => ?_, ?_, ?_⟩, rfl⟩ <;> rw [sI1]
  · rw [if_neg (by omega)]
  · rw [if_neg (by omega)]
  · rw [if_neg (by omega)]
  · rw [if_neg (by unfold WK; omega)]
  · rw [if_neg (by unfold WK; omega)]
  · rw [if_neg (by unfold WK; omega)]
theorem CFr.cr {f : Nat} (hf : f ≠ 1) (μ : Mm) (v : Int32) : CFr μ (sI μ 11 f v) := by
  refine ⟨fun c h => ?_, fun g h => ?_, ?_, fun i hi => ⟨fun g hg => ?_, ?_, ?_⟩, rfl⟩ <;> rw [sI1]
  · rw [if_neg (by omega)]
  · rw [if_neg (by omega)]
  · rw [if_pos rfl, upd_at, if_neg (by omega)]
  · rw [if_neg (by unfold WK; omega)]
  · rw [if_neg (by unfold WK; omega)]
  · rw [if_neg (by unfold WK; omega)]
theorem CFr.ms (μ : Mm) (g : Nat → Int32) (v : Int32) : CFr μ (sI (sA μ 10 g) 6 9 v) := by
  refine ⟨fun c h => ?_, fun f h => ?_, ?_, fun i hi => ⟨fun g hg => ?_, ?_, ?_⟩, rfl⟩ <;> rw [sI1]
  · rw [if_neg (by omega), sA_ne _ _ (by omega)]
  · rw [if_pos rfl, upd_at, if_neg h, sA_ne _ _ (by omega)]
  · rw [if_neg (by omega), sA_ne _ _ (by omega)]
  · rw [if_neg (by unfold WK; omega), sA_ne _ _ (by unfold WK; omega)]
  · rw [if_neg (by unfold WK; omega), sA_ne _ _ (by unfold WK; omega)]
  · rw [if_neg (by unfold WK; omega), sA_ne _ _ (by unfold WK; omega)]
