/-! PURE 32: all are worked out -/
theorem Cr_fresh_loop (N : Nat) (hN : 30 ≤ N) {D : Da} (I : DI D) : ∀ (m i : Nat) (μ : Mm), DX D μ → FA D.n (fw D.n D.len) (μ.1 10) → μ.1 6 9 = 0 → i ≤ D.w → D.w < m + i → μ.1 11 2 = nI (bsN D.go i) → (∀ x, x < i → D.go x = true → WkOk D x μ) → ∃ μ', f_Cr_refresh_L36 N m (nI i) μ = some μ' ∧ CFr μ μ' ∧ μ'.1 11 4 = 0 ∧ μ'.1 11 5 = μ.1 6 4 ∧ CrewOk D μ' ∧ FA D.n (fw D.n D.len) (μ'.1 10) ∧ μ'.1 6 9 = 0 := by
  have w8 := I.w8
  intro m
  induction m with
  | zero => intro i μ _ _ _ h1 h2; omega
  | succ m ih =>
    intro i μ X F h9 h1 h2 hg hx
    rw [f_Cr_refresh_L36, X.w]
    by_cases h : i = D.w
    · subst h
      rw [if_pos (nI_le (Nat.le_refl _) (by omega))]
      unfold f_Cr_refresh_B91
      have e : (sI μ 11 4 0).1 6 4 = μ.1 6 4 := by rw [sI_ne _ _ _ (by decide)]
      simp only [e]
      refine ⟨_, rfl, (CFr.cr (by decide) μ _).trans (CFr.cr (by decide) _ _), ?_, ?_, ⟨?_, fun x hx' g => WkOk_congr (fun c a b => ?_) (hx x hx' g)⟩, ?_, ?_⟩
      · rw [sI_at, upd_ne _ _ (by decide), sI_at, upd_eq]
      · rw [sI_at, upd_eq]
      · rw [sI_at, upd_ne _ _ (by decide), sI_at, upd_ne _ _ (by decide), hg]
      · have := WK_ge x
        rw [sI_ne _ _ _ (by omega), sI_ne _ _ _ (by omega)]
      · rw [sI_ne _ _ _ (by decide), sI_ne _ _ _ (by decide)]
        exact F
      · rw [sI_ne _ _ _ (by decide), sI_ne _ _ _ (by decide)]
        exact h9
    · have hi : i < D.w := by omega
      rw [if_neg (nI_ge (by omega) (by omega))]
      obtain ⟨μ1, r1, r2, r3, r4⟩ := Wk_prepare_eq N hN I hi μ X F
      have st := bsn_step D.go (show i < 16 by omega)
      have wk := WK_ge i
      have f1 := r2.cfr (show i < 8 by omega)
      simp only [if_pos (ixb_t (show i < 8 by omega) (show 8 < 2 ^ 31 by decide)), nI_clamp (show i < 2 ^ 31 by omega), r1, bvS, r3]
      have e2 : μ1.1 11 2 = nI (bsN D.go i) := by rw [r2.1 11 (by omega), hg]
      unfold f_Cr_refresh_B81
      simp only [e2]
      have f2 : CFr μ (sI μ1 11 2 (nI (bsN D.go (i + 1)))) := f1.trans (CFr.cr (by decide) μ1 _)
      obtain ⟨μ', s1, s2, s3, s4, s5, s6, s7⟩ := ih (i + 1) (sI μ1 11 2 (nI (bsN D.go (i + 1)))) (f2.dx w8 X) (by rw [sI_ne _ _ _ (by decide), r2.1 10 (by omega)]; exact F) (by rw [sI_ne _ _ _ (by decide), r2.1 6 (by omega)]; exact h9) (by omega) (by omega) (by rw [sI_at, upd_eq]) (fun x hx' g => by
        by_cases e : x = i
        · subst e
          exact WkOk_congr (fun c a b => sI_ne _ _ _ (by omega)) (r4 g)
        · refine WkOk_congr (fun c a b => ?_) (hx x (by omega) g)
          have := WK_ge x
          rw [sI_ne _ _ _ (by omega), r2.1 c (by unfold WK at a b ⊢; omega)])
      rw [sI_ne _ _ _ (by decide), r2.1 6 (by omega)] at s4
      by_cases c : D.go i = true
      · rw [if_pos c] at st
        rw [if_neg (by rw [c]; decide), st, show (1 : Int32) = nI 1 from rfl, nI_add]
        exact ⟨μ', s1, f2.trans s2, s3, s4, s5, s6, s7⟩
      · have c' : D.go i = false := by simpa using c
        rw [if_neg c] at st
        rw [if_pos (by rw [c']; decide), st, show (1 : Int32) = nI 1 from rfl, nI_add]
        exact ⟨μ', s1, f2.trans s2, s3, s4, s5, s6, s7⟩
theorem Cr_refresh_eq (N : Nat) (hN : 30 ≤ N) {D : Da} (I : DI D) (μ : Mm) (X : DX D μ) (hF : μ.1 6 9 = 0 → FA D.n (fw D.n D.len) (μ.1 10)) (hC : μ.1 11 4 = 0 → μ.1 11 5 = μ.1 6 4 → CrewOk D μ) : ∃ μ', f_Cr_refresh N μ = some μ' ∧ CFr μ μ' ∧ μ'.1 11 4 = 0 ∧ μ'.1 11 5 = μ.1 6 4 ∧ CrewOk D μ' ∧ (μ' = μ ∨ (FA D.n (fw D.n D.len) (μ'.1 10) ∧ μ'.1 6 9 = 0)) := by
  have w8 := I.w8
  have go : ∃ μ', f_Cr_refresh_B22 N μ = some μ' ∧ CFr μ μ' ∧ μ'.1 11 4 = 0 ∧ μ'.1 11 5 = μ.1 6 4 ∧ CrewOk D μ' ∧ (μ' = μ ∨ (FA D.n (fw D.n D.len) (μ'.1 10) ∧ μ'.1 6 9 = 0)) := by
    obtain ⟨g, e, G⟩ := Gr_measure_eq N D.n D.len I.g (by omega) μ X.g hF
    unfold f_Cr_refresh_B22
    rw [e, bvS]
    have f1 := (CFr.ms μ g 0).trans (CFr.cr (f := 2) (by decide) (sI (sA μ 10 g) 6 9 0) 0)
    obtain ⟨μ', s1, s2, s3, s4, s5, s6, s7⟩ := Cr_fresh_loop N hN I N 0 (sI (sI (sA μ 10 g) 6 9 0) 11 2 0) (f1.dx w8 X) (by rw [sI_ne _ _ _ (by decide), sI_ne _ _ _ (by decide), sAat]; exact G) (by rw [sI_ne _ _ _ (by decide), sI_at, upd_eq]) (by omega) (by omega) (by rw [sI_at, upd_eq]; rfl) (fun x h => by omega)
    exact ⟨μ', s1, f1.trans s2, s3, s4.trans (f1.2.1 4 (by decide)), s5, Or.inr ⟨s6, s7⟩⟩
  unfold f_Cr_refresh
  by_cases c1 : μ.1 11 4 = 0
  · rw [if_pos c1]
    by_cases c2 : μ.1 11 5 = μ.1 6 4
    · rw [if_pos c2]
      exact ⟨μ, rfl, CFr.refl μ, c1, c2, hC c1 c2, Or.inl rfl⟩
    · rw [if_neg c2]
      exact go
  · rw [if_neg c1]
    exact go
/-- one ground has one table of ways -/
theorem fwk_congr {len len' : Nat → Nat → Int} (h : ∀ a b, a < 16 → b < 16 → len a b = len' a b) : ∀ m, m ≤ 16 → ∀ a b, a < 16 → b < 16 → fwk len m a b = fwk len' m a b
  | 0, _, a, b, ha, hb => by
    show fw0 len a b = fw0 len' a b
    unfold fw0
    rw [h a b ha hb]
  | m + 1, hm, a, b, ha, hb => by
    show fws (fwk len m) m a b = fws (fwk len' m) m a b
    unfold fws
    rw [fwk_congr h m (by omega) a b ha hb, fwk_congr h m (by omega) a m ha (by omega), fwk_congr h m (by omega) m b (by omega) hb]
theorem GX_one {n n' : Nat} {len len' : Nat → Nat → Int} {μ : Mm} (G : GI n len) (G' : GI n' len') (X : GX n len μ) (X' : GX n' len' μ) : n' = n ∧ ∀ a b, a < 16 → b < 16 → len' a b = len a b := by
  have h1 := G.n16
  have h2 := G'.n16
  exact ⟨(nI_eq (by omega) (by omega)).mp (X'.n.symm.trans X.n), fun a b ha hb => (X'.len a b ha hb).symm.trans (X.len a b ha hb)⟩
theorem RCf_of {n : Nat} {len : Nat → Nat → Int} {μ : Mm} (G : GI n len) (X : GX n len μ) (F : FA n (fw n len) (μ.1 10)) : RCf μ := fun n' len' G' X' _ => by
  obtain ⟨e, h⟩ := GX_one G G' X X'
  subst e
  have h1 := G'.n16
  intro a b ha hb
  rw [F a b ha hb]
  exact congrArg nI (fwk_congr (fun a b ha hb => (h a b ha hb).symm) _ (by omega) a b (by omega) (by omega))
theorem RW_fr {μx μx' μm : Mm} (f : CFr μx μx') (h : RWx μx μm) : RWx μx' μm := by
  obtain ⟨h1, w, hw, e, hj, hk⟩ := h
  refine ⟨by rw [f.2.2.1]; exact h1, w, hw, e, fun j h => ?_, fun j h1 h2 => ?_⟩
  · obtain ⟨a, b, c⟩ := f.2.2.2.1 j (by omega)
    have := hj j h
    unfold RW1 at this ⊢
    simp only [a 0 (by omega), a 1 (by omega), a 2 (by omega), a 3 (by omega), a 4 (by omega), a 5 (by omega), a 6 (by omega), a 7 (by omega), a 8 (by omega), b, c]
    exact this
  · obtain ⟨a, b, c⟩ := f.2.2.2.1 j h2
    simp only [a 4 (by omega), a 5 (by omega), a 6 (by omega), a 8 (by omega)]
    exact hk j h1 h2
theorem Rel.fr {RC : Nat → Mm → Prop} {k : Nat} {μx μx' μm : Mm} (h : Rel RC k μx μm) (f : CFr μx μx') (hC : RC k μx') : Rel RC k μx' μm := by
  obtain ⟨hT, hS, hG, hW, hP, h0, _⟩ := h
  refine ⟨?_, ?_, ?_, RW_fr f hW, ?_, h0, hC⟩
  · unfold RTx at *
    rw [f.1 1 (by omega), f.1 2 (by omega), f.2.2.2.2]
    exact hT
  · unfold RSx at *
    rw [f.1 4 (by omega), f.1 5 (by omega)]
    exact hS
  · unfold RGx at *
    rw [f.2.1 0 (by decide), f.2.1 1 (by decide), f.2.1 2 (by decide), f.2.1 3 (by decide), f.1 7 (by omega), f.1 8 (by omega), f.1 9 (by omega)]
    exact hG
  · unfold RPx at *
    rw [f.1 80 (by omega), f.1 81 (by omega)]
    exact hP
/-- looking anew leaves the two alike -/
theorem Rel.fresh {TK} {k : Nat} (hk : k < 512) {μx μm : Mm} (h : Rel (RCv TK) k μx μm) (N : Nat) (hN : 30 ≤ N) : ∃ μx' D, f_Cr_refresh N μx = some μx' ∧ Rel (RCv TK) k μx' μm ∧ DI D ∧ DX D μx' ∧ DM D μm ∧ CrewOk D μx' := by
  obtain ⟨D, I, X, M⟩ := h.data
  obtain ⟨v, ev, hv, q⟩ := id h.2.2.2.2.2.2
  obtain ⟨q1, q2, q3, q4, q5⟩ := q (by omega)
  obtain ⟨μ', r1, r2, r3, r4, r5, r6⟩ := Cr_refresh_eq N hN I μx X (q3 _ _ I.g X.g) (q4 D I X)
  have e64 := r2.2.1 4 (by decide)
  refine ⟨μ', D, r1, h.fr r2 ⟨v, by rw [e64]; exact ev, hv, fun _ => ⟨⟨v, Nat.le_refl _, by rw [r4, ev]⟩, by rw [r2.1 75 (by omega)]; exact q2, ?_, ?_, RCt_congr (r2.2.1 1 (by decide)) e64 (r2.1 7 (by omega)) (r2.1 8 (by omega)) (r2.1 75 (by omega)) (r2.1 77 (by omega)) q5⟩⟩, I, r2.dx I.w8 X, M, r5⟩
  · rcases r6 with r6 | r6
    · rw [r6]; exact q3
    · exact RCf_of I.g (r2.gx X.g) r6.1
  · intro D' I' X' _ _
    have X0 := r2.symm.dx I'.w8 X'
    obtain ⟨μ'', s1, _, _, _, s5, _⟩ := Cr_refresh_eq N hN I' μx X0 (q3 _ _ I'.g X0.g) (q4 D' I' X0)
    have : μ'' = μ' := Option.some.inj (s1.symm.trans r1)
    rw [← this]
    exact s5
theorem Rel.measured {TK} {k : Nat} (hk : k < 512) {μx μm : Mm} (h : Rel (RCv TK) k μx μm) (N : Nat) (hN : 30 ≤ N) : ∃ μx' D, f_Gr_measure N μx = some μx' ∧ Rel (RCv TK) k μx' μm ∧ DI D ∧ DX D μx' ∧ DM D μm ∧ FA D.n (fw D.n D.len) (μx'.1 10) := by
  obtain ⟨D, I, X, M⟩ := h.data
  obtain ⟨v, ev, hv, q⟩ := id h.2.2.2.2.2.2
  obtain ⟨q1, q2, q3, q4, q5⟩ := q (by omega)
  obtain ⟨g, e, G⟩ := Gr_measure_eq N D.n D.len I.g (by omega) μx X.g (q3 _ _ I.g X.g)
  have r2 := CFr.ms μx g 0
  have X' := r2.dx I.w8 X
  have F' : FA D.n (fw D.n D.len) ((sI (sA μx 10 g) 6 9 0).1 10) := by
    rw [sI_ne _ _ _ (by decide), sAat]; exact G
  have e64 := r2.2.1 4 (by decide)
  have e11 : (sI (sA μx 10 g) 6 9 0).1 11 = μx.1 11 := by rw [sI_ne _ _ _ (by decide), sA_ne _ _ (by decide)]
  refine ⟨_, D, e, h.fr r2 ⟨v, by rw [e64]; exact ev, hv, fun _ => ⟨by rw [e11]; exact q1, by rw [r2.1 75 (by omega)]; exact q2, RCf_of I.g X'.g F', ?_, RCt_congr (r2.2.1 1 (by decide)) e64 (r2.1 7 (by omega)) (r2.1 8 (by omega)) (r2.1 75 (by omega)) (r2.1 77 (by omega)) q5⟩⟩, I, X', M, F'⟩
  intro D' I' X1 a b
  rw [e11] at a b
  rw [e64] at b
  exact CrewOk_congr I'.w8 (fun c h1 h2 => by rw [sI_ne _ _ _ (by omega), sA_ne _ _ (by omega)]) (by rw [e11]) (q4 D' I' (r2.symm.dx I'.w8 X1) a b)
