/-! PURE 31: a walker is worked out -/
theorem sI_ne (μ : Mm) {c d : Nat} (k : Nat) (v : Int32) (h : d ≠ c) : (sI μ c k v).1 d = μ.1 d := if_neg h
def WFr (j : Nat) (μ μ' : Mm) : Prop := (∀ c, c < WK j ∨ WK j + 5 < c → μ'.1 c = μ.1 c) ∧ (∀ f, f ≤ 8 → μ'.1 (WK j) f = μ.1 (WK j) f) ∧ μ'.1 (WK j + 1) = μ.1 (WK j + 1) ∧ μ'.1 (WK j + 2) = μ.1 (WK j + 2) ∧ μ'.2 = μ.2
theorem WFr.refl (j : Nat) (μ : Mm) : WFr j μ μ := ⟨fun _ _ => rfl, fun _ _ => rfl, rfl, rfl, rfl⟩
theorem WFr.trans {j : Nat} {μ μ' μ'' : Mm} (a : WFr j μ μ') (b : WFr j μ' μ'') : WFr j μ μ'' := ⟨fun c h => (b.1 c h).trans (a.1 c h), fun f h => (b.2.1 f h).trans (a.2.1 f h), b.2.2.1.trans a.2.2.1, b.2.2.2.1.trans a.2.2.2.1, b.2.2.2.2.trans a.2.2.2.2⟩
theorem WFr.cfr {j : Nat} (hj : j < 8) {μ μ' : Mm} (a : WFr j μ μ') : CFr μ μ' := by
  have h1 := WK_ge j
  have h2 := WK_le hj
  refine ⟨fun c h => a.1 c (by omega), fun f _ => by rw [a.1 6 (by omega)], by rw [a.1 11 (by omega)], fun i hi => ?_, a.2.2.2.2⟩
  by_cases c : i = j
  · subst c
    exact ⟨a.2.1, a.2.2.1, a.2.2.2.1⟩
  · exact ⟨fun f _ => by rw [a.1 (WK i) (by unfold WK; omega)], a.1 _ (by unfold WK; omega), a.1 _ (by unfold WK; omega)⟩
theorem WFr.wf {j f : Nat} (hf : 8 < f) (μ : Mm) (v : Int32) : WFr j μ (sI μ (WK j) f v) := ⟨fun c h => sI_ne _ _ _ (by omega), fun g h => by rw [sI_at, upd_ne _ _ (by omega)], sI_ne _ _ _ (by omega), sI_ne _ _ _ (by omega), rfl⟩
theorem legs_step (j i : Nat) (μ : Mm) (a b c d : Int32) : WFr j μ (sI (sI (sI (sI μ (WK j + 3) i a) (WK j + 4) i b) (WK j + 5) i c) (WK j) 13 d) ∧ (sI (sI (sI (sI μ (WK j + 3) i a) (WK j + 4) i b) (WK j + 5) i c) (WK j) 13 d).1 (WK j + 3) = upd (μ.1 (WK j + 3)) i a ∧ (sI (sI (sI (sI μ (WK j + 3) i a) (WK j + 4) i b) (WK j + 5) i c) (WK j) 13 d).1 (WK j + 4) = upd (μ.1 (WK j + 4)) i b ∧ (sI (sI (sI (sI μ (WK j + 3) i a) (WK j + 4) i b) (WK j + 5) i c) (WK j) 13 d).1 (WK j + 5) = upd (μ.1 (WK j + 5)) i c ∧ (sI (sI (sI (sI μ (WK j + 3) i a) (WK j + 4) i b) (WK j + 5) i c) (WK j) 13 d).1 (WK j) = upd (μ.1 (WK j)) 13 d := by
  have n3 : WK j + 3 ≠ WK j := by omega
  have n4 : WK j + 4 ≠ WK j := by omega
  have n5 : WK j + 5 ≠ WK j := by omega
  have n35 : WK j + 3 ≠ WK j + 5 := by omega
  have n34 : WK j + 3 ≠ WK j + 4 := by omega
  have n45 : WK j + 4 ≠ WK j + 5 := by omega
  refine ⟨⟨fun e h => ?_, fun g h => ?_, ?_, ?_, rfl⟩, ?_, ?_, ?_, ?_⟩
  · rw [sI_ne _ _ _ (by omega), sI_ne _ _ _ (by omega), sI_ne _ _ _ (by omega), sI_ne _ _ _ (by omega)]
  · rw [sI_at, upd_ne _ _ (by omega), sI_ne _ _ _ n5.symm, sI_ne _ _ _ n4.symm, sI_ne _ _ _ n3.symm]
  · rw [sI_ne _ _ _ (by omega), sI_ne _ _ _ (by omega), sI_ne _ _ _ (by omega), sI_ne _ _ _ (by omega)]
  · rw [sI_ne _ _ _ (by omega), sI_ne _ _ _ (by omega), sI_ne _ _ _ (by omega), sI_ne _ _ _ (by omega)]
  · rw [sI_ne _ _ _ n3, sI_ne _ _ _ n35, sI_ne _ _ _ n34, sI_at]
  · rw [sI_ne _ _ _ n4, sI_ne _ _ _ n45, sI_at, sI_ne _ _ _ n34.symm]
  · rw [sI_ne _ _ _ n5, sI_at, sI_ne _ _ _ n45.symm, sI_ne _ _ _ n35.symm]
  · rw [sI_at, sI_ne _ _ _ n5.symm, sI_ne _ _ _ n4.symm, sI_ne _ _ _ n3.symm]
theorem cm_pos {D : Da} (I : DI D) {j : Nat} (hj : j < D.w) (hk : D.kd j ≠ 3) (h : D.why j = 0) : ∀ i, i ≤ D.sz j → 10 * i ≤ D.cm j i
  | 0, _ => by omega
  | i + 1, hi => by
    have h1 := cm_pos I hj hk h i (by omega)
    have h2 := (Da.why0 h).2.2 i (by omega)
    have h3 := I.un10 hj hk
    have h4 : 1 ≤ D.ln j i := by unfold Da.ln; omega
    have h5 : 10 * 1 ≤ D.un j * D.ln j i := Nat.mul_le_mul h3 h4
    unfold Da.cm Da.lt
    omega
theorem Wk_legs_loop (N : Nat) (hN : 20 ≤ N) {D : Da} (I : DI D) {j : Nat} (hj : j < D.w) (hk : D.kd j ≠ 3) (hw : D.why j = 0) : ∀ (m i : Nat) (μ : Mm), DX D μ → FA D.n (fw D.n D.len) (μ.1 10) → i ≤ D.sz j → D.sz j < m + i → (∀ x, x < i → μ.1 (WK j + 3) x = nI (D.cm j x) ∧ μ.1 (WK j + 4) x = nI (D.cm j x + D.pr j x) ∧ μ.1 (WK j + 5) x = nI (D.sg j x)) → μ.1 (WK j) 13 = nI (D.os j i) → ∃ μ', f_Wk_prepareLegs_L10 N j m (nI (D.cm j i)) (nI (D.un j)) (nI i) μ = some μ' ∧ WFr j μ μ' ∧ μ'.1 (WK j) 11 = μ.1 (WK j) 11 ∧ WkOk D j μ' := by
  have h24 := I.sz24 hj
  have w8 := I.w8
  have hj8 : j < 8 := by omega
  obtain ⟨z0, z2, z4⟩ := Da.why0 hw
  intro m
  induction m with
  | zero => intro i μ _ _ h1 h2; omega
  | succ m ih =>
    intro i μ X F h1 h2 hx ho
    rw [f_Wk_prepareLegs_L10, X.sz j hj]
    by_cases h : i = D.sz j
    · subst h
      have cl := I.cm_46 hj (Nat.le_refl (D.sz j))
      have cp := cm_pos I hj hk hw (D.sz j) (Nat.le_refl _)
      rw [if_pos (nI_le (Nat.le_refl _) (by omega))]
      unfold f_Wk_prepareLegs_B120
      rw [X.sz j hj]
      simp only [if_pos (ixb_t (show D.sz j < 25 by omega) (by decide)), nI_clamp (show D.sz j < 2 ^ 31 by omega)]
      rw [Jmax, bnS, if_neg (by rw [tI (by omega), show (1 : Int32).toInt = 1 from rfl]; omega)]
      refine ⟨_, rfl, ⟨fun c h => ?_, fun g h => ?_, ?_, ?_, rfl⟩, ?_, ?_, ?_, fun _ => ⟨fun x hx' => ?_, fun x hx' => ⟨?_, ?_⟩⟩⟩
      · rw [sI_ne _ _ _ (by omega), sI_ne _ _ _ (by omega)]
      · rw [sI_at, upd_ne _ _ (by omega), sI_ne _ _ _ (by omega)]
      · rw [sI_ne _ _ _ (by omega), sI_ne _ _ _ (by omega)]
      · rw [sI_ne _ _ _ (by omega), sI_ne _ _ _ (by omega)]
      · rw [sI_at, upd_ne _ _ (by omega), sI_ne _ _ _ (by omega)]
      · rw [sI_at, upd_eq]
        unfold Da.per
        rw [if_neg hk]
      · rw [sI_at, upd_ne _ _ (by omega), sI_ne _ _ _ (by omega), ho]
        unfold Da.ev
        rw [if_neg hk]
      · rw [sI_ne _ _ _ (by omega), sI_at, upd_at]
        by_cases e : x = D.sz j
        · rw [if_pos e, e]
        · rw [if_neg e]
          exact (hx x (by omega)).1
      · rw [sI_ne _ _ _ (by omega), sI_ne _ _ _ (by omega)]
        exact (hx x hx').2.1
      · rw [sI_ne _ _ _ (by omega), sI_ne _ _ _ (by omega)]
        exact (hx x hx').2.2
    · have hi : i < D.sz j := by omega
      have cl := I.cm_46 hj (show i + 1 ≤ D.sz j by omega)
      have pl := I.pp j i hj hi
      have hi31 : i < 2 ^ 31 := by omega
      have nl : nx (D.sz j) i < D.sz j := by unfold nx; split <;> omega
      have X4 : DX D (sI μ (WK j + 3) i (nI (D.cm j i))) := (CFr.wa hj8 (by decide) (by decide) μ _ _).dx w8 X
      have X6 : ∀ y, DX D (sI (sI μ (WK j + 3) i (nI (D.cm j i))) (WK j + 4) i y) := fun y => (CFr.wa hj8 (by decide) (by decide) _ _ _).dx w8 X4
      have e2 : (sI μ (WK j + 3) i (nI (D.cm j i))).1 (WK j + 2) i = nI (D.pr j i) := X4.pr j i hj hi
      have lb : ∀ y, f_Wk_legBehind N j (nI i) (sI (sI μ (WK j + 3) i (nI (D.cm j i))) (WK j + 4) i y) = some (nI (nx (D.sz j) i), _) := fun y => Wk_legBehind_eq N I hj hi _ (X6 y)
      rw [if_neg (nI_ge (by omega) (by omega))]
      simp only [if_pos (ixb_t (show i < 25 by omega) (by decide)), if_pos (ixb_t (show i < 24 by omega) (by decide)), nI_clamp hi31, e2, nI_add, lb, bnS, if_pos (ixb_t (show nx (D.sz j) i < 24 by omega) (by decide)), nI_clamp (show nx (D.sz j) i < 2 ^ 31 by omega)]
      obtain ⟨v, ev, tv⟩ := Wk_len_eq N I hj hi _ _ (X6 (nI (D.cm j i + D.pr j i))) (X6 (nI (D.cm j i + D.pr j i)))
      rw [ev, bnS]
      have vz : v = nI (D.ln j i) := by
        have := z4 i hi
        have l30 := I.ln30 hj hi
        rw [eq_I, tv, tI (by omega)]
        unfold Da.ln
        omega
      have e4 : (sI (sI μ (WK j + 3) i (nI (D.cm j i))) (WK j + 4) i (nI (D.cm j i + D.pr j i))).1 (WK j + 4) i = nI (D.cm j i + D.pr j i) := by rw [sI_at, upd_eq]
      have F6 : FA D.n (fw D.n D.len) ((sI (sI μ (WK j + 3) i (nI (D.cm j i))) (WK j + 4) i (nI (D.cm j i + D.pr j i))).1 10) := by
        have := WK_ge j
        rw [sI_ne _ _ _ (by omega), sI_ne _ _ _ (by omega)]
        exact F
      rw [e4, vz, pk_mul, nI_add, (X6 (nI (D.cm j i + D.pr j i))).pp j i hj hi, (X6 (nI (D.cm j i + D.pr j i))).vw j hj, Gr_within_eq N hN I.g (z2 i hi) (I.vw j hj) _ (X6 _).g F6]
      simp only [bnS]
      have e5 : (sI (sI (sI μ (WK j + 3) i (nI (D.cm j i))) (WK j + 4) i (nI (D.cm j i + D.pr j i))) (WK j + 5) i (nI (D.sn (D.pp j i) (D.vw j)))).1 (WK j) 13 = nI (D.os j i) := by
        rw [sI_ne _ _ _ (by omega), sI_ne _ _ _ (by omega), sI_ne _ _ _ (by omega), ho]
      have e6 : (sI (sI (sI μ (WK j + 3) i (nI (D.cm j i))) (WK j + 4) i (nI (D.cm j i + D.pr j i))) (WK j + 5) i (nI (D.sn (D.pp j i) (D.vw j)))).1 (WK j + 5) i = nI (D.sn (D.pp j i) (D.vw j)) := by
        rw [sI_at, upd_eq]
      have o1 := Da.os_lt I.g j i
      have o2 := Da.sn_lt (D := D) I.g (D.pp j i) (D.vw j)
      rw [e5, e6, orN (by omega) (by omega), show (1 : Int32) = nI 1 from rfl, nI_add, show D.cm j i + D.pr j i + D.un j * D.ln j i = D.cm j (i + 1) from Nat.add_assoc _ _ _]
      obtain ⟨s0, s3, s4, s5, sz⟩ := legs_step j i μ (nI (D.cm j i)) (nI (D.cm j i + D.pr j i)) (nI (D.sn (D.pp j i) (D.vw j))) (nI (D.os j i ||| D.sn (D.pp j i) (D.vw j)))
      obtain ⟨μ', r1, r2, r3, r4⟩ := ih (i + 1) _ ((s0.cfr hj8).dx w8 X) (by have := WK_ge j; rw [s0.1 10 (by omega)]; exact F) (by omega) (by omega) (fun x hx' => by
        rw [s3, s4, s5, upd_at, upd_at, upd_at]
        by_cases e : x = i
        · rw [if_pos e, if_pos e, if_pos e, e]
          exact ⟨rfl, rfl, rfl⟩
        · rw [if_neg e, if_neg e, if_neg e]
          exact hx x (by omega)) (by rw [sz, upd_eq]; rfl)
      exact ⟨μ', r1, s0.trans r2, by rw [r3, sz, upd_ne _ _ (by decide)], r4⟩
theorem Wk_prepareLegs_eq (N : Nat) (hN : 30 ≤ N) {D : Da} (I : DI D) {j : Nat} (hj : j < D.w) (hk : D.kd j ≠ 3) (hw : D.why j = 0) (μ : Mm) (X : DX D μ) (F : FA D.n (fw D.n D.len) (μ.1 10)) (h13 : μ.1 (WK j) 13 = 0) : ∃ μ', f_Wk_prepareLegs N j μ = some μ' ∧ WFr j μ μ' ∧ μ'.1 (WK j) 11 = μ.1 (WK j) 11 ∧ WkOk D j μ' := by
  have h24 := I.sz24 hj
  unfold f_Wk_prepareLegs
  rw [Wk_unitParts_eq N I hj μ X, bnS]
  exact Wk_legs_loop N (by omega) I hj hk hw N 0 μ X F (by omega) (by omega) (fun x h => by omega) h13
theorem Wk_prepare_eq (N : Nat) (hN : 30 ≤ N) {D : Da} (I : DI D) {j : Nat} (hj : j < D.w) (μ : Mm) (X : DX D μ) (F : FA D.n (fw D.n D.len) (μ.1 10)) : ∃ μ', f_Wk_prepare N j μ = some μ' ∧ WFr j μ μ' ∧ μ'.1 (WK j) 11 = b2 (D.go j) ∧ (D.go j = true → WkOk D j μ') := by
  have w8 := I.w8
  have hj8 : j < 8 := by omega
  have n16 := I.g.n16
  have f1 : WFr j μ (sI (sI μ (WK j) 13 0) (WK j) 12 1) := (WFr.wf (by decide) μ _).trans (WFr.wf (by decide) _ _)
  have X2 : DX D (sI (sI μ (WK j) 13 0) (WK j) 12 1) := (f1.cfr hj8).dx w8 X
  have F2 : FA D.n (fw D.n D.len) ((sI (sI μ (WK j) 13 0) (WK j) 12 1).1 10) := by
    have := WK_ge j
    rw [f1.1 10 (by omega)]
    exact F
  have e12 : (sI (sI μ (WK j) 13 0) (WK j) 12 1).1 (WK j) 12 = 1 := by rw [sI_at, upd_eq]
  have e13 : (sI (sI μ (WK j) 13 0) (WK j) 12 1).1 (WK j) 13 = 0 := by rw [sI_at, upd_ne _ _ (by decide), sI_at, upd_eq]
  unfold f_Wk_prepare
  simp only []
  generalize sI (sI μ (WK j) 13 0) (WK j) 12 1 = μ2 at f1 X2 F2 e12 e13 ⊢
  have no : ∀ s : Int32, s = 0 → D.go j = false → ∃ μ', some (sI μ2 (WK j) 11 s) = some μ' ∧ WFr j μ μ' ∧ μ'.1 (WK j) 11 = b2 (D.go j) ∧ (D.go j = true → WkOk D j μ') := fun s hs g => ⟨_, rfl, f1.trans (WFr.wf (by decide) μ2 _), by rw [sI_at, upd_eq, g, hs]; rfl, fun q => by rw [g] at q; cases q⟩
  rw [X2.lo j hj, X2.gn j hj, X2.kd j hj]
  by_cases c1 : D.lo j = true
  · rw [if_neg (by rw [c1]; decide)]
    exact no 0 rfl (by unfold Da.go; rw [c1]; simp)
  · have c1' : D.lo j = false := by simpa using c1
    rw [if_pos (by rw [c1']; decide)]
    by_cases c2 : D.gn j = true
    · rw [if_neg (by rw [c2]; decide)]
      exact no 0 rfl (by unfold Da.go; rw [c2]; simp)
    · have c2' : D.gn j = false := by simpa using c2
      rw [if_pos (by rw [c2']; decide)]
      have k3 := I.kd j hj
      by_cases c3 : D.kd j = 3
      · have go : D.go j = decide (D.po j < D.n) := by unfold Da.go; rw [c1', c2', if_pos c3]; simp
        have p15 := (I.gd j hj c3).2
        rw [if_pos (by rw [c3]; rfl), X2.po j hj c3, Gr_has_eq N n16 _ _ X2.g.n]
        simp only [bnS, zb01, if_true]
        by_cases c5 : D.po j < D.n
        · have e11 : (sI μ2 (WK j) 11 1).1 (WK j) 11 = 1 := by rw [sI_at, upd_eq]
          rw [show (if 0 ≤ (nI (D.po j)).toInt ∧ (nI (D.po j)).toInt < (D.n : Int) then (1 : Int32) else 0) = 1 from if_pos (by rw [tI (by omega)]; omega), e11, if_neg (by decide)]
          have g3 := WFr.wf (j := j) (f := 11) (by decide) μ2 1
          have X3 : DX D (sI μ2 (WK j) 11 1) := (g3.cfr hj8).dx w8 X2
          have F3 : FA D.n (fw D.n D.len) ((sI μ2 (WK j) 11 1).1 10) := by
            have := WK_ge j
            rw [g3.1 10 (by omega)]
            exact F2
          rw [X3.po j hj c3, X3.vw j hj, Gr_within_eq N (by omega) I.g c5 (I.vw j hj) _ X3.g F3, bnS]
          unfold f_Wk_prepare_B76
          refine ⟨_, rfl, (f1.trans g3).trans (WFr.wf (by decide) _ _), ?_, fun _ => ⟨?_, ?_, fun q => absurd c3 q⟩⟩
          · rw [sI_at, upd_ne _ _ (by decide), e11, go, decide_eq_true c5]; rfl
          · rw [sI_at, upd_ne _ _ (by decide), sI_at, upd_ne _ _ (by decide), e12]
            unfold Da.per
            rw [if_pos c3]; rfl
          · rw [sI_at, upd_eq]
            unfold Da.ev
            rw [if_pos c3]
        · have e11 : (sI μ2 (WK j) 11 0).1 (WK j) 11 = 0 := by rw [sI_at, upd_eq]
          rw [show (if 0 ≤ (nI (D.po j)).toInt ∧ (nI (D.po j)).toInt < (D.n : Int) then (1 : Int32) else 0) = 0 from if_neg (by rw [tI (by omega)]; omega), e11, if_pos rfl]
          unfold f_Wk_prepare_B76
          have g : D.go j = false := by rw [go, decide_eq_false c5]
          refine ⟨_, rfl, (f1.trans (WFr.wf (by decide) _ _)).trans (WFr.wf (by decide) _ _), ?_, fun q => by rw [g] at q; cases q⟩
          rw [sI_at, upd_ne _ _ (by decide), e11, g]; rfl
      · have go : D.go j = decide (D.why j = 0) := by unfold Da.go; rw [c1', c2', if_neg c3]; simp
        rw [if_neg (show ¬ nI (D.kd j) = 3 from fun q => c3 ((nI_eq (b := 3) (by omega) (by decide)).mp q)), Wk_faultOn_eq N hN I hj _ X2, bnS]
        have wl : D.why j < 7 := by
          unfold Da.why Da.rf
          repeat' split
          all_goals omega
        unfold f_Wk_prepare_B96
        by_cases c5 : D.why j = 0
        · have e11 : (sI μ2 (WK j) 11 1).1 (WK j) 11 = 1 := by rw [sI_at, upd_eq]
          rw [if_pos (by rw [c5]; rfl), if_pos (by decide)]
          simp only [e11]
          rw [if_neg (by decide)]
          have g3 := WFr.wf (j := j) (f := 11) (by decide) μ2 1
          have X3 : DX D (sI μ2 (WK j) 11 1) := (g3.cfr hj8).dx w8 X2
          have F3 : FA D.n (fw D.n D.len) ((sI μ2 (WK j) 11 1).1 10) := by
            have := WK_ge j
            rw [g3.1 10 (by omega)]
            exact F2
          obtain ⟨μ', r1, r2, r3, r4⟩ := Wk_prepareLegs_eq N hN I hj c3 c5 _ X3 F3 (by rw [sI_at, upd_ne _ _ (by decide), e13])
          rw [r1, bvS]
          exact ⟨μ', rfl, (f1.trans g3).trans r2, by rw [r3, e11, go, decide_eq_true c5]; rfl, fun _ => r4⟩
        · rw [if_neg (nI_ne0 (by omega) (by omega)), if_pos (by decide)]
          have e11 : (sI μ2 (WK j) 11 0).1 (WK j) 11 = 0 := by rw [sI_at, upd_eq]
          simp only [e11]
          rw [if_pos trivial]
          exact no 0 rfl (by rw [go, decide_eq_false c5])
