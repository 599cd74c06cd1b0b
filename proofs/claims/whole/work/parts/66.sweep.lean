/-! PURE 46: the sweep -/
theorem soI_cov (need a b : Int32) (r : Rc) : (soI need a b r).2.2.2.2.1 = mxI r.2.2.2.2.1 b := by
  unfold soI
  split
  · rfl
  · split <;> rfl
theorem Wa_early_loop (N : Nat) {r : Nat} {rid leg nt : Nat → Nat} (hr : r ≤ 8) (hnt : ∀ k, k < r → nt k ≤ 18000) (μ : Mm) (R : RM r rid leg nt μ) : ∀ (m b k : Nat), b < r → k ≤ r → r < m + k → (∀ x, x < k → nt b ≤ nt x) → ∃ b', f_Wa_earliest_L4 N m (nI b) (nI k) μ = some (nI b', μ) ∧ b' < r ∧ ∀ x, x < r → nt b' ≤ nt x := by
  intro m
  induction m with
  | zero => intro b k h1 h2; omega
  | succ m ih =>
    intro b k h1 h2 h3 hb
    rw [f_Wa_earliest_L4, R.1]
    by_cases c : k = r
    · rw [if_pos (nI_le (by omega) (by omega))]
      exact ⟨b, rfl, h1, fun x hx => hb x (by omega)⟩
    · have hk : k < r := by omega
      have n1 := hnt b h1
      have n2 := hnt k hk
      rw [if_neg (nI_ge (by omega) (by omega)), if_pos (ixb_t (show k < 8 by omega) (show 8 < 2 ^ 31 by decide)), if_pos (ixb_t (show b < 8 by omega) (show 8 < 2 ^ 31 by decide)), nI_clamp (show k < 2 ^ 31 by omega), nI_clamp (show b < 2 ^ 31 by omega), (R.2 b h1).2.2, (R.2 k hk).2.2]
      unfold f_Wa_earliest_B29
      simp only [nI_1, nI_add]
      by_cases d : nt b ≤ nt k
      · rw [if_pos (nI_le d (by omega))]
        refine ih b (k + 1) h1 (by omega) (by omega) (fun x hx => ?_)
        by_cases e : x = k
        · subst e; exact d
        · exact hb x (by omega)
      · rw [if_neg (nI_ge (by omega) (by omega))]
        refine ih k (k + 1) hk (by omega) (by omega) (fun x hx => ?_)
        by_cases e : x = k
        · subst e; exact Nat.le_refl _
        · have := hb x (by omega); omega
def phi (nt : Nat → Nat) : Nat → Nat
  | 0 => 0
  | k + 1 => phi nt k + min (nt k / 10) 1440
theorem phi_le (nt : Nat → Nat) : ∀ r, phi nt r ≤ 1440 * r
  | 0 => Nat.le_refl _
  | k + 1 => by
    have := phi_le nt k
    unfold phi
    omega
theorem phi_same {nt nt' : Nat → Nat} : ∀ r, (∀ x, x < r → nt x = nt' x) → phi nt r = phi nt' r
  | 0, _ => rfl
  | k + 1, h => by
    unfold phi
    rw [phi_same k (fun x hx => h x (by omega)), h k (by omega)]
theorem phi_up {nt : Nat → Nat} {k t' : Nat} (h : nt k + 10 ≤ t') (h2 : nt k < 14400) : ∀ r, k < r → phi nt r + 1 ≤ phi (fun x => if x = k then t' else nt x) r
  | 0, hk => by omega
  | r + 1, hk => by
    unfold phi
    by_cases e : k = r
    · subst e
      have := phi_same (nt := nt) (nt' := fun x => if x = k then t' else nt x) k (fun x hx => by simp only [if_neg (show ¬ x = k by omega)])
      rw [this]
      simp only [if_true]
      omega
    · have := phi_up h h2 r (by omega)
      simp only [if_neg (fun q => e (Eq.symm q) : ¬ r = k)]
      omega
theorem riders {D : Da} (I : DI D) {B W r : Nat} {rid : Nat → Nat} (hs : ∀ x, x < D.w → B.testBit x = true → D.go x = true) (hWg : ∀ p, W.testBit p = true → (D.ga (fun x => B.testBit x) D.w).testBit p = false) (hall : ∀ x, x < D.w → B.testBit x = true → D.kd x ≠ 3 → D.ev x &&& W ≠ 0 → ∃ k, k < r ∧ rid k = x) {p u : Nat} (hp : W.testBit p = true) (h : D.sq (fun x => B.testBit x) p u = true) : ∃ k, k < r ∧ (D.vis (rid k) (u : Nat)).testBit p = true := by
  obtain ⟨j, j1, j2, j3⟩ := (D.sa_tb (fun x => B.testBit x) (u : Int) p D.w).mp h
  by_cases c : D.kd j = 3
  · exfalso
    have : (D.ga (fun x => B.testBit x) D.w).testBit p = true := (D.ga_tb (fun x => B.testBit x) p D.w).mpr ⟨j, j1, ⟨j2, c⟩, by
      unfold Da.vis at j3
      rw [if_pos c] at j3
      unfold Da.ev
      rw [if_pos c]
      exact j3⟩
    rw [hWg p hp] at this
    cases this
  · have ev : (D.ev j).testBit p = true := by
      unfold Da.ev
      rw [if_neg c]
      unfold Da.vis at j3
      rw [if_neg c] at j3
      by_cases r : D.hr j (u : Int) = true
      · rw [if_pos r] at j3
        exact (D.os_tb j p (D.sz j)).mpr ⟨D.hl j u, (I.hl_spec j1 (hs j j1 j2) c u).1, j3⟩
      · rw [if_neg r, Nat.zero_testBit] at j3
        cases j3
    have ne : D.ev j &&& W ≠ 0 := fun q => by
      have : (D.ev j &&& W).testBit p = true := by rw [Nat.testBit_and, ev, hp]; rfl
      rw [q, Nat.zero_testBit] at this
      cases this
    obtain ⟨k, k1, k2⟩ := hall j j1 j2 c ne
    exact ⟨k, k1, by rw [k2]; exact j3⟩
def SI (D : Da) (S : Nat → Bool) (W J need r lim : Nat) (rid leg nt : Nat → Nat) (μ0 μ : Mm) : Prop := RM r rid leg nt μ ∧ RI D S r rid leg nt ∧ CV D W r rid nt μ ∧ (∀ p, p < 16 → W.testBit p = true → PSt (D.sq S p) J need (og D r rid p) lim (rd μ p)) ∧ (∀ p, p < 16 → W.testBit p = false → rd μ p = rd μ0 p) ∧ QFr μ0 μ ∧ ∀ k, k < r → lim ≤ nt k
theorem Wa_sweep_loop (N : Nat) (hN : 30 ≤ N) {D : Da} (I : DI D) {B W J need r : Nat} {rid : Nat → Nat} (hs : ∀ x, x < D.w → B.testBit x = true → D.go x = true) (hW : W < 65536) (hJ : 1 ≤ J) (hJ2 : J ≤ 14400) (hJe : J = D.jn (fun x => B.testBit x) D.w) (hn : 1 ≤ need) (hn2 : need ≤ 14400) (hr : r ≤ 8) (hWg : ∀ p, W.testBit p = true → (D.ga (fun x => B.testBit x) D.w).testBit p = false) (hall : ∀ x, x < D.w → B.testBit x = true → D.kd x ≠ 3 → D.ev x &&& W ≠ 0 → ∃ k, k < r ∧ rid k = x) (μ0 : Mm) (X : DX D μ0) (C : CrewOk D μ0) (eW : μ0.1 61 13 = nI W) (eJ : μ0.1 61 0 = nI J) (en : μ0.1 61 15 = nI need) : ∀ (m v lim : Nat) (leg nt : Nat → Nat) (μ : Mm), 11528 < m + v → v ≤ phi nt r → SI D (fun x => B.testBit x) W J need r lim rid leg nt μ0 μ → ∃ (μ' : Mm) (lim' : Nat) (leg' nt' : Nat → Nat), f_Wa_sweep_L2 N m (nI v) μ = some μ' ∧ SI D (fun x => B.testBit x) W J need r lim' rid leg' nt' μ0 μ' ∧ ∀ k, k < r → J ≤ nt' k := by
  have w8 := I.w8
  intro m
  induction m with
  | zero =>
    intro v lim leg nt μ h1 h2
    have := phi_le nt r
    omega
  | succ m ih =>
    intro v lim leg nt μ h1 h2 hS
    obtain ⟨s1, s2, s3, s4, s5, s6, s7⟩ := id hS
    have pl := phi_le nt r
    have X1 := s6.xfr.dx w8 X
    have C1 := s6.xfr.crew w8 C
    rw [f_Wa_sweep_L2, if_neg (show ¬ (11528 : Int32) ≤ nI v from nI_ge (b := 11528) (by omega) (by decide)), s1.1]
    by_cases c0 : r = 0
    · subst c0
      rw [if_pos (by decide)]
      exact ⟨μ, lim, leg, nt, rfl, hS, fun k hk => by omega⟩
    · rw [if_neg (show ¬ nI r ≤ (0 : Int32) from nI_ge (a := 0) (by omega) (by omega))]
      obtain ⟨k, k1, k2, k3⟩ := Wa_early_loop N hr (fun x hx => (s2 x hx).2.2.2.2.2) μ s1 N 0 1 (by omega) (by omega) (by omega) (fun x hx => by rw [show x = 0 by omega]; exact Nat.le_refl _)
      have ee : f_Wa_earliest N μ = some (nI k, μ) := k1
      obtain ⟨i1, i2, i3, i4, i5, i6⟩ := s2 k k2
      have eJ1 : μ.1 61 0 = nI J := by rw [s6.2.1 0 (by decide)]; exact eJ
      have eW1 : μ.1 61 13 = nI W := by rw [s6.2.1 13 (by decide)]; exact eW
      have en1 : μ.1 61 15 = nI need := by rw [s6.2.1 15 (by decide)]; exact en
      rw [ee, bnS, if_pos (ixb_t (show k < 8 by omega) (show 8 < 2 ^ 31 by decide)), nI_clamp (show k < 2 ^ 31 by omega), (s1.2 k k2).2.2, eJ1]
      by_cases c1 : J ≤ nt k
      · rw [if_neg (nI_nlt c1 (by omega))]
        exact ⟨μ, lim, leg, nt, rfl, hS, fun x hx => by have := k3 x hx; omega⟩
      · rw [if_pos (nI_lt (by omega) (by omega)), if_pos (ixb_t (show k < 8 by omega) (show 8 < 2 ^ 31 by decide)), (s1.2 k k2).1]
        generalize hj : rid k = j at *
        generalize hl : leg k = l at *
        generalize ht : nt k = t at *
        have g := hs j i1 i2
        have h24 := I.sz24 i1
        have wk := WK_lt (show j < 8 by omega)
        obtain ⟨_, _, ck⟩ := C1.2 j i1 g
        obtain ⟨ck1, ck2⟩ := ck i3
        have sgl : D.sg j l < 65536 := D.sn_lt I.g (D.pp j l) (D.vw j)
        have bl : D.sg j l &&& W < 65536 := Nat.lt_of_le_of_lt Nat.and_le_right hW
        have p127 := I.pr j l i1 i4
        have ltl := I.lt_le i1 i4
        have ltp := I.lt_pos i1 g i3 i4
        have cl := I.cm_46 i1 (show l + 1 ≤ D.sz j by omega)
        have cs : D.cm j (l + 1) = D.cm j l + D.lt j l := rfl
        have nl : nx (D.sz j) l < D.sz j := by unfold nx; split <;> omega
        obtain ⟨vis1, vis2⟩ := visit I i1 g i3 i4 (t := (t : Int)) i5
        rw [Cr_get_eq N (show j < 8 by omega), bnS, if_pos (show j < 8 by omega), if_pos (ixb_t (show k < 8 by omega) (show 8 < 2 ^ 31 by decide)), (s1.2 k k2).2.1, hl]
        simp only [if_pos (ixb_t (show l < 24 by omega) (show 24 < 2 ^ 31 by decide)), nI_clamp (show l < 2 ^ 31 by omega), (ck2 l i4).2, eW1, X1.pr j l i1 i4, nI_add, nI_1, andN (show D.sg j l < 2 ^ 31 by omega) (show W < 2 ^ 31 by omega)]
        obtain ⟨μ1, r1, r2, r3⟩ := Wa_see_eq N hN (nI t) (nI (t + D.pr j l + 1)) bl μ
        rw [r1, bvS]
        have wc : ∀ c, 13 ≤ c → c ≤ 60 → μ1.1 c = μ.1 c := fun c h1 h2 => r2.1 c (by omega)
        have X2 := r2.xfr.dx w8 X1
        have X3 : ∀ y, DX D (sI μ1 70 k y) := fun y => (QFr.fld (c := 70) (by decide) (by decide) μ1 _ _).xfr.dx w8 X2
        simp only [if_pos (ixb_t (show l + 1 < 25 by omega) (show 25 < 2 ^ 31 by decide)), if_pos (ixb_t (show l < 25 by omega) (show 25 < 2 ^ 31 by decide)), nI_clamp (show l + 1 < 2 ^ 31 by omega), wc (WK j + 3) (by omega) (by omega), ck1 (l + 1) (by omega), ck1 l (by omega), nI_add, if_pos (ixb_t (show k < 8 by omega) (show 8 < 2 ^ 31 by decide)), pk_sub (show D.cm j l ≤ t + D.cm j (l + 1) by omega), Wk_legBehind_eq N I i1 i4 _ (X3 _), bnS]
        rw [show t + D.cm j (l + 1) - D.cm j l = t + D.lt j l by omega]
        have q1 : QFr μ (sI (sI μ1 70 k (nI (t + D.lt j l))) 69 k (nI (nx (D.sz j) l))) := (r2.qfr.trans (QFr.fld (by decide) (by decide) μ1 _ _)).trans (QFr.fld (by decide) (by decide) _ _ _)
        have rq : ∀ q, q < 16 → rd (sI (sI μ1 70 k (nI (t + D.lt j l))) 69 k (nI (nx (D.sz j) l))) q = if (D.sg j l &&& W).testBit q = true then soI (nI need) (nI t) (nI (t + D.pr j l + 1)) (rd μ q) else rd μ q := fun q hq => by
          rw [← en1, ← r3 q hq]
          exact rd_of (fun c h1 h2 => by rw [sI_ne _ _ _ (by omega), sI_ne _ _ _ (by omega)]) q
        have nph : v + 1 ≤ phi (fun x => if x = k then t + D.lt j l else nt x) r := by
          have := phi_up (nt := nt) (k := k) (t' := t + D.lt j l) (by omega) (by omega) r k2
          omega
        refine ih (v + 1) t (fun x => if x = k then nx (D.sz j) l else leg x) (fun x => if x = k then t + D.lt j l else nt x) (sI (sI μ1 70 k (nI (t + D.lt j l))) 69 k (nI (nx (D.sz j) l))) (by omega) nph ⟨⟨?_, ?_⟩, ?_, ?_, ?_, ?_, ?_, ?_⟩
        · rw [sI_ne _ _ _ (by decide), sI_ne _ _ _ (by decide), r2.1 61 (by omega)]
          exact s1.1
        · intro x hx
          have e68 : (sI (sI μ1 70 k (nI (t + D.lt j l))) 69 k (nI (nx (D.sz j) l))).1 68 x = μ.1 68 x := by rw [sI_ne _ _ _ (by decide), sI_ne _ _ _ (by decide), r2.1 68 (by omega)]
          have e69 : (sI (sI μ1 70 k (nI (t + D.lt j l))) 69 k (nI (nx (D.sz j) l))).1 69 x = if x = k then nI (nx (D.sz j) l) else μ.1 69 x := by rw [sI_at, upd_at, sI_ne _ _ _ (by decide), r2.1 69 (by omega)]
          have e70 : (sI (sI μ1 70 k (nI (t + D.lt j l))) 69 k (nI (nx (D.sz j) l))).1 70 x = if x = k then nI (t + D.lt j l) else μ.1 70 x := by rw [sI_ne _ _ _ (by decide), sI_at, upd_at, r2.1 70 (by omega)]
          rw [e68, e69, e70]
          by_cases e : x = k
          · simp only [if_pos e]
            exact ⟨(s1.2 x hx).1, trivial, trivial⟩
          · simp only [if_neg e]
            exact s1.2 x hx
        · intro x hx
          by_cases e : x = k
          · subst e
            simp only [if_true]
            rw [hj]
            refine ⟨i1, i2, i3, nl, ?_, by omega⟩
            rw [← vis2]
            rfl
          · simp only [if_neg e]
            exact s2 x hx
        · intro p hp hw x hx u hu hv
          have cov := PSt_cov (s4 p hp hw)
          have e66 : (sI (sI μ1 70 k (nI (t + D.lt j l))) 69 k (nI (nx (D.sz j) l))).1 66 p = (rd (sI (sI μ1 70 k (nI (t + D.lt j l))) 69 k (nI (nx (D.sz j) l))) p).2.2.2.2.1 := rfl
          rw [e66, rq p hp]
          obtain ⟨c', y1, y2, y3, y4⟩ := mxI_ge (b := t + D.pr j l + 1) (by omega) cov
          have old : (∃ c : Nat, c ≤ 20000 ∧ μ.1 66 p = nI c ∧ u < c) → ∃ c : Nat, c ≤ 20000 ∧ (if (D.sg j l &&& W).testBit p = true then soI (nI need) (nI t) (nI (t + D.pr j l + 1)) (rd μ p) else rd μ p).2.2.2.2.1 = nI c ∧ u < c := by
            rintro ⟨c0, z1, z2, z3⟩
            by_cases x1 : (D.sg j l &&& W).testBit p = true
            · refine ⟨c', y1, ?_, ?_⟩
              · rw [if_pos x1, soI_cov]
                exact y2
              · have := y4 c0 z1 z2
                omega
            · refine ⟨c0, z1, ?_, z3⟩
              rw [if_neg x1]
              exact z2
          by_cases e : x = k
          · simp only [if_pos e] at hu
            rw [e, hj] at hv
            by_cases ut : u < t
            · exact old (s3 p hp hw k k2 u (by omega) (by rw [hj]; exact hv))
            · have := (vis1 (u - t) (by omega)).2
              rw [show (t : Int) + ((u - t : Nat) : Int) = (u : Int) by omega] at this
              rw [this] at hv
              by_cases d : u - t ≤ D.pr j l
              · rw [if_pos d] at hv
                have x1 : (D.sg j l &&& W).testBit p = true := by rw [Nat.testBit_and, hv, hw]; rfl
                refine ⟨c', y1, ?_, by omega⟩
                rw [if_pos x1, soI_cov]
                exact y2
              · rw [if_neg d, Nat.zero_testBit] at hv
                cases hv
          · simp only [if_neg e] at hu
            exact old (s3 p hp hw x hx u hu hv)
        · intro p hp hw
          have st := (s4 p hp hw).lim (s7 k k2)
          rw [ht] at st
          rw [rq p hp]
          by_cases x1 : (D.sg j l &&& W).testBit p = true
          · have sp : (D.sg j l).testBit p = true := by
              rw [Nat.testBit_and, Bool.and_eq_true] at x1
              exact x1.1
            rw [if_pos x1]
            have uns : ∀ u, u < t → D.sq (fun x => B.testBit x) p u = true → ∃ c : Nat, c ≤ 20000 ∧ μ.1 66 p = nI c ∧ u < c := fun u hu hq => by
              obtain ⟨k', z1, z2⟩ := riders I hs hWg hall hw hq
              exact s3 p hp hw k' z1 u (by have := k3 k' z1; omega) z2
            refine PSt_see hJ hJ2 hn hn2 st (by omega) (by omega) (by omega) (fun u u1 u2 => ?_) (fun e u hu => ?_) (fun c hc e u u1 u2 => ?_) (fun no => ?_)
            · have := (vis1 (u - t) (by omega)).2
              rw [show (t : Int) + ((u - t : Nat) : Int) = (u : Int) by omega, if_pos (by omega)] at this
              exact (D.sa_tb (fun x => B.testBit x) (u : Int) p D.w).mpr ⟨j, i1, i2, by rw [this]; exact sp⟩
            · cases hq : D.sq (fun x => B.testBit x) p u with
              | false => rfl
              | true =>
                obtain ⟨c, z1, z2, z3⟩ := uns u hu hq
                have e' : μ.1 66 p = -1 := e
                rw [z2] at e'
                exact absurd e' (nI_n1 (by omega))
            · cases hq : D.sq (fun x => B.testBit x) p u with
              | false => rfl
              | true =>
                obtain ⟨c2, z1, z2, z3⟩ := uns u u2 hq
                have e' : μ.1 66 p = nI c := e
                rw [z2] at e'
                have := (nI_eq (by omega) (by omega)).mp e'
                omega
            · rcases Nat.lt_or_ge J (t + D.pr j l + 1) with z | z
              · exfalso
                have v2 := vis1 (J - t) (by omega)
                rw [show (t : Int) + ((J - t : Nat) : Int) = (J : Int) by omega] at v2
                have dv : (D.per j : Int) ∣ (J : Int) - 0 := by
                  have dd := Int.ofNat_dvd.mpr (D.jn_dvd (fun x => B.testBit x) (w := D.w) (by omega) D.w (Nat.le_refl _) j i1 i2)
                  rw [← hJe] at dd
                  rw [Int.sub_zero]
                  exact dd
                refine no ⟨k, k2, ?_, ?_⟩
                all_goals rw [hj]
                · rw [← D.vis_round dv, v2.2, if_pos (by omega)]
                  exact sp
                · have p0 : D.ph j 0 = D.cm j l + (J - t) := by rw [← D.ph_round dv]; exact v2.1
                  have h0 : D.hl j 0 = l := by
                    unfold Da.hl
                    rw [p0]
                    exact (D.vp_in I i1 g i3 i4 (d := J - t) (by omega)).1
                  rw [h0, p0]
                  omega
              · exact z
          · rw [if_neg x1]
            exact st
        · intro p hp hw
          rw [rq p hp, if_neg (by rw [Nat.testBit_and, hw, Bool.and_false]; decide)]
          exact s5 p hp hw
        · exact s6.trans q1
        · intro x hx
          by_cases e : x = k
          · simp only [if_pos e]; omega
          · simp only [if_neg e]
            exact k3 x hx
