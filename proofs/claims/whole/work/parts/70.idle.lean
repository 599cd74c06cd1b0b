/-! PURE 50: idle, idleFrom, share, chance, worst -/
theorem jg_pos {D : Da} (I : DI D) : 1 ≤ D.jg := Da.jn_pos I D.w (S := D.go) (Nat.le_refl _) (fun x _ q => q)
theorem sq_mod {D : Da} {S : Nat → Bool} (h : D.jn S D.w ≤ 14400) (p t : Nat) : D.sq S p t = (D.sa S ((t % D.jn S D.w : Nat) : Int) D.w).testBit p := by
  unfold Da.sq
  rw [D.sa_mod S h t]
theorem watch_m (N : Nat) (hN : 61000 ≤ N) {D : Da} (I : DI D) (μ : Mm) (M : DM D μ) (e27 : μ.1 0 27 = 0) : (14400 < D.jg ∧ ∃ μ', f_M_laySeen N μ = some (0, μ') ∧ MFr μ μ') ∨ (D.jg ≤ 14400 ∧ ∃ μ', f_M_laySeen N μ = some (1, μ') ∧ MFr μ μ' ∧ μ'.1 0 31 = nI D.jg ∧ ∀ x : Nat, x < D.jg → μ'.1 21 x = nI (D.sa D.go (x : Int) D.w) ∧ D.sa D.go (x : Int) D.w < 65536) := by
  have ej : D.jn (D.goL 0) D.w = D.jg := D.jn_ext D.w (fun y _ => D.goL0 y)
  have es : ∀ t : Int, D.sa (D.goL 0) t D.w = D.sa D.go t D.w := fun t => D.sa_ext t D.w (fun y _ => D.goL0 y)
  rcases M_laySeen_eq N hN I (L := 0) (by decide) μ M e27 with ⟨q1, μ2, r1, r2⟩ | ⟨q1, μ2, r1, r2, r3, _, r4⟩
  · left
    rw [ej] at q1
    exact ⟨q1, μ2, r1, r2⟩
  · right
    rw [ej] at q1 r3 r4
    exact ⟨q1, μ2, r1, r2, r3, fun x hx => ⟨by rw [r4 x hx, es], D.sa_lt I.g _ _ _⟩⟩
theorem watch_x (N : Nat) (hN : 61000 ≤ N) {D : Da} (I : DI D) (hj : D.jg ≤ 14400) {A need : Nat} (hA : A < 65536) (hn : 1 ≤ need) (hn2 : need ≤ 14400) (μ : Mm) (X : DX D μ) (C : CrewOk D μ) : ∃ μ', f_Wa_look N (μ.1 11 2) (nI A) (nI need) μ = some μ' ∧ XFr μ μ' ∧ μ'.1 61 0 = nI D.jg ∧ LA D (D.sq D.go) D.jg need A (anN A (D.ea D.go D.w)) μ' := by
  have hb := bsgo_lt I D.go
  have ej : D.jn (fun x => (bsN D.go D.w).testBit x) D.w = D.jg := D.jn_ext D.w (fun x hx => bsgo_tb _ hx)
  have ee : D.ea (fun x => (bsN D.go D.w).testBit x) D.w = D.ea D.go D.w := D.ea_ext D.w (fun x hx => bsgo_tb _ hx)
  have es : ∀ p, D.sq (fun x => (bsN D.go D.w).testBit x) p = D.sq D.go p := fun p => by
    funext t
    unfold Da.sq
    rw [D.sa_ext (t : Int) D.w (fun x hx => bsgo_tb D.go hx)]
  obtain ⟨μ', r1, r2, r3, r4, r5, r6⟩ := Wa_look_eq N hN I (B := bsN D.go D.w) (A := A) (need := need) (by omega) (fun x hx q => by rw [bsgo_tb _ hx] at q; exact q) hA hn hn2 (by rw [ej]; exact hj) μ X C
  rw [ej] at r3 r6
  rw [ee] at r5 r6
  refine ⟨μ', by rw [C.1]; exact r1, r2, r3, r4, r5, hA, anN_lt (n := 16) hA, fun p hp => ?_, fun p hp ha => ?_⟩
  · rw [anN_tb, Bool.and_eq_true] at hp
    exact hp.1
  · have := r6 p hp ha
    rw [es] at this
    exact this
theorem pow_tb (p q : Nat) : (2 ^ p).testBit q = true ↔ p = q := by
  rw [Nat.testBit_two_pow, decide_eq_true_eq]
/-- both sides look at one post: refused alike, or looked alike -/
theorem watchPost_eq {TK} {k : Nat} (hk : k < 512) {μx μm : Mm} (h : Rel (RCv TK) k μx μm) (N : Nat) (hN : 61000 ≤ N) {D0 : Da} (I0 : DI D0) (X0 : DX D0 μx) (M0 : DM D0 μm) {p need : Nat} (hp : p < D0.n) (hn : 1 ≤ need) (hn2 : need ≤ 14400) : (∃ μx' μm', f_W_watchPost N (nI p) (nI need) μx = some (-6, μx') ∧ f_M_laySeen N μm = some (0, μm') ∧ Rel (RCv TK) k μx' μm') ∨ (∃ μx' μm' D V, f_W_watchPost N (nI p) (nI need) μx = some (0, μx') ∧ f_M_laySeen N μm = some (1, μm') ∧ Rel (RCv TK) k μx' μm' ∧ DI D ∧ 1 ≤ D.jg ∧ D.jg ≤ 14400 ∧ p < 16 ∧ μx'.1 61 0 = nI D.jg ∧ LA D (D.sq D.go) D.jg need (2 ^ p) V μx' ∧ μm'.1 0 31 = nI D.jg ∧ ∀ x : Nat, x < D.jg → μm'.1 21 x = nI (D.sa D.go (x : Int) D.w) ∧ D.sa D.go (x : Int) D.w < 65536) := by
  have n16 := I0.g.n16
  obtain ⟨μ1, D, e, h1, I, X, M, C⟩ := h.fresh hk N (by omega)
  have j1 := jg_pos I
  unfold f_W_watchPost
  rw [Gr_has_eq N n16 (nI p) μx X0.g.n, bnS, if_pos (show 0 ≤ (nI p).toInt ∧ (nI p).toInt < (D0.n : Int) by rw [tI (by omega)]; omega), if_neg (by decide), e, bvS, Cr_joint_all N (by omega) I μ1 X C, bnS]
  rcases watch_m N hN I μm M h1.2.2.2.2.2.1 with ⟨q, μ2, r1, r2⟩ | ⟨q, μ2, r1, r2, r3, r4⟩
  · left
    rw [if_pos q, if_neg (by decide)]
    exact ⟨μ1, μ2, rfl, r1, h1.mfr r2⟩
  · right
    have p2 : 2 ^ p < 65536 := Nat.pow_lt_pow_right (m := p) (n := 16) (by decide) (by omega)
    obtain ⟨μ3, s1, s2, s3, s4⟩ := watch_x N hN I q p2 hn hn2 μ1 X C
    rw [if_neg (show ¬ 14400 < D.jg by omega), if_pos (show (1 : Int32) ≤ nI D.jg from (nIc (a := 1) (by decide) (by omega)).mpr j1), shl1 (by omega), s1, bvS]
    exact ⟨μ3, μ2, D, _, rfl, r1, (h1.xfr (RCv_ok TK) s2).mfr r2, I, j1, q, by omega, s3, s4, r3, r4⟩
theorem sm_idle {TK} (N : Nat) (hN : 61000 ≤ N) : Sm_idle (Rel (RCv TK)) N := by
  have hR := RCv_ok TK
  intro k hk a1 μx μm h
  obtain ⟨D0, I0, X0, M0⟩ := h.data
  have n16 := I0.g.n16
  have hnx := h.next hR
  unfold f_W_idle f_M_idle
  rw [M_isPost_eq N n16 a1 μm M0.n, bnS, if01]
  by_cases c : 0 ≤ a1.toInt ∧ a1.toInt < D0.n
  · obtain ⟨p, hp, rfl⟩ := row_of D0.n c
    rw [if_pos c]
    rcases watchPost_eq hk h N hN I0 X0 M0 (need := 1) hp (by decide) (by decide) with ⟨μx', μm', e1, e2, h'⟩ | ⟨μx', μm', D, V, e1, e2, h', I, j1, j2, p16, _, L, m31, tab⟩
    · rw [show nI 1 = (1 : Int32) from rfl] at e1
      rw [e1, e2]
      simp only [bnS]
      rw [if_neg (by decide), if_pos (by decide)]
      exact ⟨_, _, _, rfl, rfl, h'.next hR⟩
    · rw [show nI 1 = (1 : Int32) from rfl] at e1
      obtain ⟨μ3, r1, r2, r3, r4, r5⟩ := M_layRows_eq N hN (need := 1) (fun x => D.sa D.go (x : Int) D.w) (D.sq D.go p) j1 j2 p16 (by decide) (by decide) (sq_mod j2 p) μm' m31 tab
      rw [show nI 1 = (1 : Int32) from rfl] at r1
      rw [e1, e2]
      simp only [bnS]
      rw [if_pos (by decide), if_neg (by decide), Wa_idleOf_eq N p16 μx' L ((pow_tb p p).mpr rfl), r1]
      simp only [bnS, bvS]
      rw [r3]
      exact ⟨_, _, _, rfl, rfl, (h'.mfr r2.mfr).next hR⟩
  · rw [if_neg c]
    unfold f_W_watchPost
    rw [Gr_has_eq N n16 a1 μx X0.g.n, bnS, if01, if_neg c]
    exact ⟨_, _, _, rfl, rfl, hnx⟩
theorem sm_idleFrom {TK} (N : Nat) (hN : 61000 ≤ N) : Sm_idleFrom (Rel (RCv TK)) N := by
  have hR := RCv_ok TK
  intro k hk a1 μx μm h
  obtain ⟨D0, I0, X0, M0⟩ := h.data
  have n16 := I0.g.n16
  have hnx := h.next hR
  unfold f_W_idleFrom f_M_idleFrom
  rw [M_isPost_eq N n16 a1 μm M0.n, bnS, if01]
  by_cases c : 0 ≤ a1.toInt ∧ a1.toInt < D0.n
  · obtain ⟨p, hp, rfl⟩ := row_of D0.n c
    rw [if_pos c]
    rcases watchPost_eq hk h N hN I0 X0 M0 (need := 1) hp (by decide) (by decide) with ⟨μx', μm', e1, e2, h'⟩ | ⟨μx', μm', D, V, e1, e2, h', I, j1, j2, p16, _, L, m31, tab⟩
    · rw [show nI 1 = (1 : Int32) from rfl] at e1
      rw [e1, e2]
      simp only [bnS]
      rw [if_neg (by decide), if_pos (by decide)]
      exact ⟨_, _, _, rfl, rfl, h'.next hR⟩
    · rw [show nI 1 = (1 : Int32) from rfl] at e1
      obtain ⟨μ3, r1, r2, r3, r4, r5⟩ := M_layRows_eq N hN (need := 1) (fun x => D.sa D.go (x : Int) D.w) (D.sq D.go p) j1 j2 p16 (by decide) (by decide) (sq_mod j2 p) μm' m31 tab
      rw [show nI 1 = (1 : Int32) from rfl] at r1
      rw [e1, e2]
      simp only [bnS]
      have lk := L.2.2.2.2.2 p p16 ((pow_tb p p).mpr rfl)
      have e63 : μx'.1 63 p = zI (rF (D.sq D.go p) D.jg) := lk.1
      unfold f_Wa_idleStartOf
      rw [if_pos (by decide), if_pos (ixb_t p16 (by decide)), if_neg (by decide), nI_clamp (show p < 2 ^ 31 by omega), r1, e63]
      simp only [bnS, bvS]
      rw [r4]
      exact ⟨_, _, _, rfl, rfl, (h'.mfr r2.mfr).next hR⟩
  · rw [if_neg c]
    unfold f_W_watchPost
    rw [Gr_has_eq N n16 a1 μx X0.g.n, bnS, if01, if_neg c]
    exact ⟨_, _, _, rfl, rfl, hnx⟩
theorem i2lN {a : Nat} (h : a < 2 ^ 31) : (nI a).toInt64 = lN a := by rw [i2l, tI h]; rfl
theorem Ta_tell_eq (N : Nat) (hN : 130 ≤ N) {a b : Nat} (ha : a < 2 ^ 62) (hb : 1 ≤ b) (hb2 : b < 2 ^ 62) (μ : Mm) : f_Ta_tellFraction N (lN a) (lN b) μ = some (sL (sL μ 1 3 (lN (a / Nat.gcd a b))) 1 4 (lN (b / Nat.gcd a b))) := by
  have gp : 0 < Nat.gcd a b := Nat.gcd_pos_of_pos_right _ (by omega)
  have gl : Nat.gcd a b ≤ b := Nat.le_of_dvd (by omega) (Nat.gcd_dvd_right _ _)
  unfold f_Ta_tellFraction
  rw [W_gcd_eq N hN (by omega) (by omega), bnS, if_neg (fun q => absurd ((cmp_le _ _).mp q) (by rw [pk_lT (by omega), show (0 : Int64).toInt = 0 from rfl]; omega)), if_neg (show ¬ lN (Nat.gcd a b) = (0 : Int64) from fun q => absurd ((pk_lEQ (b := 0) (by omega) (by decide)).mp q) (by omega)), if_neg (show ¬ lN (Nat.gcd a b) = (0 : Int64) from fun q => absurd ((pk_lEQ (b := 0) (by omega) (by decide)).mp q) (by omega)), pk_lDiv (by omega) gp (by omega), pk_lDiv (by omega) gp (by omega)]
theorem M_fraction_eq (N : Nat) (hN : 130 ≤ N) {a b : Nat} (ha : a < 2 ^ 62) (hb : 1 ≤ b) (hb2 : b < 2 ^ 62) (v : Int32) (μ : Mm) : f_M_fraction N (lN a) (lN b) v μ = some (v, sL (sL μ 0 3 (lN (a / Nat.gcd a b))) 0 4 (lN (b / Nat.gcd a b))) := by
  have gp : 0 < Nat.gcd a b := Nat.gcd_pos_of_pos_right _ (by omega)
  have gl : Nat.gcd a b ≤ b := Nat.le_of_dvd (by omega) (Nat.gcd_dvd_right _ _)
  unfold f_M_fraction
  rw [M_gcd_eq N hN (by omega) (by omega), bnS, if_neg (show ¬ lN (Nat.gcd a b) = (0 : Int64) from fun q => absurd ((pk_lEQ (b := 0) (by omega) (by decide)).mp q) (by omega)), if_neg (show ¬ lN (Nat.gcd a b) = (0 : Int64) from fun q => absurd ((pk_lEQ (b := 0) (by omega) (by decide)).mp q) (by omega)), pk_lDiv (by omega) gp (by omega), pk_lDiv (by omega) gp (by omega)]
theorem cnt_not (p : Nat → Bool) : ∀ n, cnt p n + cnt (fun t => !p t) n = n
  | 0 => rfl
  | n + 1 => by
    have := cnt_not p n
    show (cnt p n + (if p n = true then 1 else 0)) + (cnt (fun t => !p t) n + (if (!p n) = true then 1 else 0)) = n + 1
    cases p n <;> simp <;> omega
theorem M_share_loop (N : Nat) {J p : Nat} (sv : Nat → Nat) (sq : Nat → Bool) (hJ : 1 ≤ J) (hJ2 : J ≤ 14400) (hp : p < 16) (hs : ∀ t, sq t = (sv (t % J)).testBit p) (μ : Mm) (e31 : μ.1 0 31 = nI J) (tab : ∀ x, x < J → μ.1 21 x = nI (sv x) ∧ sv x < 65536) : ∀ (m t : Nat), t ≤ J → J < m + t → f_M_share_L24 N m (nI p) (nI (cnt sq t)) (nI t) μ = f_M_share_B55 N (nI (cnt sq J)) μ := by
  intro m
  induction m with
  | zero => intro t h1 h2; omega
  | succ m ih =>
    intro t h1 h2
    rw [f_M_share_L24, e31]
    by_cases c : t = J
    · rw [if_pos (nI_le (by omega) (by omega)), c]
    · rw [if_neg (nI_ge (by omega) (by omega)), M_isSeen_eq N sv hJ hJ2 hp (by omega) μ e31 tab, bnS, ← hs]
      unfold f_M_share_B47
      simp only [nI_1, nI_add]
      rw [← ih (t + 1) (by omega) (by omega)]
      show _ = f_M_share_L24 N m _ (nI (cnt sq t + _)) _ _
      cases q : sq t with
      | true => rw [if_neg (by decide), if_pos (by decide)]
      | false => rw [if_pos (by decide), if_neg (by decide), show (0 : Int32) = nI 0 from rfl, nI_add]
theorem sm_share {TK} (N : Nat) (hN : 61000 ≤ N) : Sm_share (Rel (RCv TK)) N := by
  have hR := RCv_ok TK
  intro k hk a1 μx μm h
  obtain ⟨D0, I0, X0, M0⟩ := h.data
  have n16 := I0.g.n16
  have hnx := h.next hR
  unfold f_W_share f_M_share
  rw [M_isPost_eq N n16 a1 μm M0.n, bnS, if01]
  by_cases c : 0 ≤ a1.toInt ∧ a1.toInt < D0.n
  · obtain ⟨p, hp, rfl⟩ := row_of D0.n c
    rw [if_pos c]
    rcases watchPost_eq hk h N hN I0 X0 M0 (need := 1) hp (by decide) (by decide) with ⟨μx', μm', e1, e2, h'⟩ | ⟨μx', μm', D, V, e1, e2, h', I, j1, j2, p16, x0, L, m31, tab⟩
    · rw [show nI 1 = (1 : Int32) from rfl] at e1
      rw [e1, e2]
      simp only [bnS]
      rw [if_neg (by decide), if_pos (by decide)]
      exact ⟨_, _, _, rfl, rfl, h'.next hR⟩
    · rw [show nI 1 = (1 : Int32) from rfl] at e1
      rw [e1, e2]
      simp only [bnS]
      have lk := L.2.2.2.2.2 p p16 ((pow_tb p p).mpr rfl)
      have e64 : μx'.1 64 p = nI (cnt (fun t => !D.sq D.go p t) D.jg) := lk.2.1
      have cn := cnt_not (D.sq D.go p) D.jg
      have lp := M_share_loop N (fun x => D.sa D.go (x : Int) D.w) (D.sq D.go p) j1 j2 p16 (sq_mod j2 p) μm' m31 tab N 0 (by omega) (by omega)
      rw [show nI (cnt (D.sq D.go p) 0) = 0 from rfl, show nI 0 = (0 : Int32) from rfl] at lp
      unfold f_Wa_unseenOf
      rw [if_pos (by decide), if_pos (ixb_t p16 (by decide)), if_neg (by decide), nI_clamp (show p < 2 ^ 31 by omega), e64, lp]
      unfold f_M_share_B55
      simp only [bnS]
      rw [x0, m31, pk_sub (by omega), i2lN (by omega), i2lN (by omega), i2lN (by omega), show D.jg - cnt (fun t => !D.sq D.go p t) D.jg = cnt (D.sq D.go p) D.jg by omega, Ta_tell_eq N (by omega) (by omega) j1 (by omega), M_fraction_eq N (by omega) (by omega) j1 (by omega)]
      simp only [bnS, bvS]
      exact ⟨_, _, _, rfl, rfl, (h'.tells hR _ _).next hR⟩
  · rw [if_neg c]
    unfold f_W_watchPost
    rw [Gr_has_eq N n16 a1 μx X0.g.n, bnS, if01, if_neg c]
    exact ⟨_, _, _, rfl, rfl, hnx⟩
theorem W_isNeed_eq (N : Nat) (a : Int32) (μ : Mm) : f_W_isNeed N a μ = some (if 1 ≤ a.toInt ∧ a.toInt ≤ 14400 then 1 else 0, μ) := by
  unfold f_W_isNeed
  by_cases h1 : a < 1
  · have := lt_I.mp h1
    rw [show (1 : Int32).toInt = 1 from rfl] at this
    rw [if_pos h1, if_neg (by omega)]
  · have h1' : ¬ a.toInt < 1 := fun q => h1 (lt_I.mpr q)
    rw [if_neg h1]
    by_cases h2 : (14400 : Int32) < a
    · have := lt_I.mp h2
      rw [show (14400 : Int32).toInt = 14400 from rfl] at this
      rw [if_pos h2, if_neg (by omega)]
    · have h2' : ¬ (14400 : Int) < a.toInt := fun q => h2 (lt_I.mpr q)
      rw [if_neg h2, if_pos (by omega)]
theorem M_isNeed_eq (N : Nat) (a : Int32) (μ : Mm) : f_M_isNeed N a μ = some (if 1 ≤ a.toInt ∧ a.toInt ≤ 14400 then 1 else 0, μ) := by
  unfold f_M_isNeed
  rw [f_M_in_eq, bnS, if_pos (zb01 _ _)]
  rfl
theorem rO_b (sq : Nat → Bool) {J need : Nat} (hJ : 1 ≤ J) (hn : 1 ≤ need) : rO sq J need ≤ J := by
  unfold rO
  split
  · omega
  · have := scn_b sq (fsN sq J) hJ hn J
    omega
theorem sm_chance {TK} (N : Nat) (hN : 61000 ≤ N) : Sm_chance (Rel (RCv TK)) N := by
  have hR := RCv_ok TK
  intro k hk a1 a2 μx μm h
  obtain ⟨D0, I0, X0, M0⟩ := h.data
  have n16 := I0.g.n16
  have hnx := h.next hR
  unfold f_W_chance f_M_chance
  rw [M_isPost_eq N n16 a1 μm M0.n, bnS, if01, W_isNeed_eq, bnS, if01]
  by_cases cn : 1 ≤ a2.toInt ∧ a2.toInt ≤ 14400
  · rw [if_pos cn]
    by_cases c : 0 ≤ a1.toInt ∧ a1.toInt < D0.n
    · obtain ⟨p, hp, rfl⟩ := row_of D0.n c
      obtain ⟨need, hn, rfl⟩ := row_of (x := a2) 14401 ⟨by omega, by omega⟩
      rw [tI (by omega)] at cn
      rw [if_pos c, M_isNeed_eq, bnS, if01, if_pos (by rw [tI (by omega)]; omega)]
      rcases watchPost_eq hk h N hN I0 X0 M0 (need := need) hp (by omega) (by omega) with ⟨μx', μm', e1, e2, h'⟩ | ⟨μx', μm', D, V, e1, e2, h', I, j1, j2, p16, x0, L, m31, tab⟩
      · rw [e1, e2]
        simp only [bnS]
        rw [if_neg (by decide), if_pos (by decide)]
        exact ⟨_, _, _, rfl, rfl, h'.next hR⟩
      · rw [e1, e2]
        simp only [bnS]
        obtain ⟨μ3, r1, r2, r3, r4, r5⟩ := M_layRows_eq N hN (need := need) (fun x => D.sa D.go (x : Int) D.w) (D.sq D.go p) j1 j2 p16 (by omega) (by omega) (sq_mod j2 p) μm' m31 tab
        have lk := L.2.2.2.2.2 p p16 ((pow_tb p p).mpr rfl)
        have e65 : μx'.1 65 p = nI (rO (D.sq D.go p) D.jg need) := lk.2.2.1
        have ob := rO_b (D.sq D.go p) j1 (need := need) (by omega)
        have m31' : μ3.1 0 31 = nI D.jg := by rw [r2.2.1 31 (by omega)]; exact m31
        unfold f_Wa_openingsOf
        rw [if_pos (by decide), if_pos (ixb_t p16 (by decide)), if_neg (by decide), nI_clamp (show p < 2 ^ 31 by omega), e65, r1]
        simp only [bnS, bvS]
        rw [x0, r5, m31', i2lN (by omega), i2lN (by omega), Ta_tell_eq N (by omega) (by omega) j1 (by omega), M_fraction_eq N (by omega) (by omega) j1 (by omega)]
        simp only [bnS, bvS]
        exact ⟨_, _, _, rfl, rfl, (((h'.mfr r2.mfr)).tells hR _ _).next hR⟩
    · rw [if_neg c]
      unfold f_W_watchPost
      rw [Gr_has_eq N n16 a1 μx X0.g.n, bnS, if01, if_neg c]
      exact ⟨_, _, _, rfl, rfl, hnx⟩
  · rw [if_neg cn, M_isNeed_eq, bnS, if01, if_neg cn]
    by_cases c : 0 ≤ a1.toInt ∧ a1.toInt < D0.n
    · rw [if_pos c]
      exact ⟨_, _, _, rfl, rfl, hnx⟩
    · rw [if_neg c]
      exact ⟨_, _, _, rfl, rfl, hnx⟩
