/-! PURE 60: the class deals the posts out -/
def stepP (D : Da) (L p : Nat) (s : Nat × Nat × Nat) : Nat × Nat × Nat := (nxP D.n D.nS D.wl D.U2 L (D.n - p - 1) s.1 s.2.1 s.2.2, nwF D.wl p s.1 s.2.1 (nxP D.n D.nS D.wl D.U2 L (D.n - p - 1) s.1 s.2.1 s.2.2), anN s.2.2 (2 ^ nxP D.n D.nS D.wl D.U2 L (D.n - p - 1) s.1 s.2.1 s.2.2))
def stG (D : Da) (L p : Nat) (s : Nat × Nat × Nat) : Nat → Nat × Nat × Nat
  | 0 => s
  | t + 1 => stepP D L (p + t) (stG D L p s t)
theorem stG_front (D : Da) (L p : Nat) (s : Nat × Nat × Nat) : ∀ t, stG D L p s (t + 1) = stG D L (p + 1) (stepP D L p s) t
  | 0 => rfl
  | t + 1 => by
    show stepP D L (p + (t + 1)) (stG D L p s (t + 1)) = stepP D L (p + 1 + t) (stG D L (p + 1) (stepP D L p s) t)
    rw [stG_front D L p s t, show p + (t + 1) = p + 1 + t by omega]
/-- what a state of a parting must be: who has the post before, its units, who is free -/
def PV (D : Da) (L p : Nat) (s : Nat × Nat × Nat) : Prop := s.2.2 < 2 ^ D.nS ∧ s.2.1 ≤ 30 * (p - 1) ∧ ((s.1 = 9 ∧ p = 0) ∨ (s.1 < D.nS ∧ 0 < p ∧ s.2.2.testBit s.1 = false)) ∧ opF D.n D.nS D.wl D.U2 (D.n - p) s.1 s.2.1 s.2.2 ≤ L
theorem PV.next {D : Da} (I : DI D) {L p : Nat} {s : Nat × Nat × Nat} (hL : L < 1000000) (hp : p < D.n) (h : PV D L p s) : PV D L (p + 1) (stepP D L p s) ∧ (stepP D L p s).1 < D.nS := by
  have n16 := I.g.n16
  obtain ⟨a, b, c, d⟩ := h
  have wb := wl_b I (show p < 16 by omega)
  rw [show D.n - p = D.n - p - 1 + 1 by omega] at d
  obtain ⟨n1, n2, n3, n4⟩ := nxP_spec hL d
  rw [show D.n - (D.n - p - 1 + 1) = p by omega] at n2
  have n3' := n3
  unfold vF at n3'
  rw [show D.n - (D.n - p - 1 + 1) = p by omega] at n3'
  refine ⟨⟨?_, ?_, Or.inr ⟨n1, by omega, ?_⟩, ?_⟩, n1⟩
  · exact Nat.lt_of_le_of_lt (sub_le (n := D.nS) (anN_lt a) (by
      apply Nat.eq_of_testBit_eq
      intro i
      show (anN (anN s.2.2 (2 ^ nxP D.n D.nS D.wl D.U2 L (D.n - p - 1) s.1 s.2.1 s.2.2)) s.2.2).testBit i = _
      rw [anN_tb, anN_tb, Nat.zero_testBit]
      cases s.2.2.testBit i <;> simp)) a
  · show nwF D.wl p s.1 s.2.1 _ ≤ 30 * (p + 1 - 1)
    unfold nwF
    split
    · omega
    · omega
  · show (anN s.2.2 (2 ^ nxP D.n D.nS D.wl D.U2 L (D.n - p - 1) s.1 s.2.1 s.2.2)).testBit (nxP D.n D.nS D.wl D.U2 L (D.n - p - 1) s.1 s.2.1 s.2.2) = false
    rw [anN_tb, Nat.testBit_two_pow, decide_eq_true rfl, Bool.not_true, Bool.and_false]
  · show opF D.n D.nS D.wl D.U2 (D.n - (p + 1)) _ _ _ ≤ L
    rw [show D.n - (p + 1) = D.n - p - 1 by omega]
    exact Nat.le_trans (Nat.le_max_right _ _) n3'
theorem Sh_can_loop (N : Nat) {D : Da} (I : DI D) (hk : D.kind = 0) {m others p L : Nat} (hm : m < D.nS) (ho : others < 32) (hb : others.testBit m = false) (hL : L < 1000000) (μ : Mm) (h : PC D μ) (lt : LT D others μ 0) : ∀ (f to u : Nat), p ≤ to → to ≤ D.n → D.n < f + to → (0 ≤ wAt D p to → u + (wAt D p to).toNat ≤ 30 * to) → f_Sh_canEnd_L7 N f (nI m) (nI others) (nI p) (nI L) (nI u) (nI to) μ = some (b2 (decide (to < D.n ∧ 0 ≤ wAt D p to ∧ Wf D.n D.nS D.wl D.U2 (D.n - to - 1) m (u + (wAt D p to).toNat) others ≤ L)), μ) := by
  have n16 := I.g.n16
  have u2 := U2_le I hm
  intro f
  induction f with
  | zero => intro to u _ h1 h2; omega
  | succ f ih =>
    intro to u h0 h1 h2 hu
    rw [f_Sh_canEnd_L7, h.1.g.n]
    by_cases c : to = D.n
    · rw [if_pos (nI_le (by omega) (by omega)), decide_eq_false (by omega)]; rfl
    · have wb := wl_b I (show to < 16 by omega)
      rw [if_neg (nI_ge (by omega) (by omega))]
      have mid : f_Sh_canEnd_B43 N (f_Sh_canEnd_L7 N f) (nI m) (nI others) (nI p) (nI L) (nI u) (nI to) (zI (wAt D p to)) μ = some (b2 (decide (to < D.n ∧ 0 ≤ wAt D p to ∧ Wf D.n D.nS D.wl D.U2 (D.n - to - 1) m (u + (wAt D p to).toNat) others ≤ L)), μ) := by
        have wab : -30 ≤ wAt D p to ∧ wAt D p to ≤ 30 := by unfold wAt; split <;> omega
        generalize wAt D p to = w at *
        unfold f_Sh_canEnd_B43
        by_cases wn : w < 0
        · rw [if_pos (show zI w < (0 : Int32) by rw [lt_I, zI_toInt (by omega) (by omega), show (0 : Int32).toInt = 0 from rfl]; exact wn), decide_eq_false (by omega)]; rfl
        · have ez : zI w = nI w.toNat := by rw [zI_n, Int.toNat_of_nonneg (by omega)]
          have uw := hu (by omega)
          have tb : D.U2 m * (u + w.toNat) ≤ 120 * 450 := Nat.mul_le_mul u2 (by omega)
          have wge : D.U2 m * (u + w.toNat) ≤ Wf D.n D.nS D.wl D.U2 (D.n - to - 1) m (u + w.toNat) others := by unfold Wf; omega
          rw [if_neg (show ¬ zI w < (0 : Int32) by rw [lt_I, zI_toInt (by omega) (by omega), show (0 : Int32).toInt = 0 from rfl]; exact wn), ez, nI_add, Sh_time N I hm _ μ h, bnS, pk_mul]
          by_cases tl : D.U2 m * (u + w.toNat) ≤ L
          · have oL := opF_le D.n D.nS D.wl D.U2 (D.n - (to + 1)) 9 0 others
            have te := lt (to + 1) (by omega) (by omega)
            unfold f_Sh_place
            rw [if_pos (nI_le tl (by omega)), ← nI_succ]
            simp only [bnS, show (17 : Int32) = nI 17 from rfl, pk_mul, nI_add]
            rw [show others * 17 + (to + 1) = 17 * others + (to + 1) by omega, if_pos (ixb_t (show 17 * others + (to + 1) < 544 by omega) (by decide)), nI_clamp (show 17 * others + (to + 1) < 2 ^ 31 by omega), te]
            by_cases bl : opF D.n D.nS D.wl D.U2 (D.n - (to + 1)) 9 0 others ≤ L
            · rw [if_neg (nI_nlt bl (by omega))]
              have : Wf D.n D.nS D.wl D.U2 (D.n - to - 1) m (u + w.toNat) others ≤ L := by
                by_cases tn : to + 1 = D.n
                · rw [(Wf_last tn).1]; exact tl
                · rw [Wf_step I hk hm hb (by omega) uw]
                  omega
              rw [decide_eq_true ⟨by omega, by omega, this⟩]; rfl
            · rw [if_pos (nI_lt (by omega) (by omega))]
              have tn : to + 1 ≠ D.n := fun q => by
                rw [(Wf_last (D := D) (m := m) (u := u) (others := others) q).2] at bl
                omega
              have wa : wAt D p (to + 1) = D.wl (to + 1) := by unfold wAt; rw [if_pos (by omega)]
              have wb2 := wl_b I (show to + 1 < 16 by omega)
              rw [ih (to + 1) (u + w.toNat) (by omega) (by omega) (by omega) (by rw [wa]; omega), wa]
              congr 3
              have wne : D.wl (to + 1) ≠ 0 := by
                unfold Da.wl
                rw [show to + 1 - 1 = to by omega]
                exact (I.fence hk).2 to (by omega)
              have stp := Wf_step I hk hm hb (to := to) (u := u + w.toNat) (by omega) uw
              rw [decide_eq_decide]
              by_cases wp : 0 < D.wl (to + 1)
              · rw [if_pos wp] at stp
                omega
              · rw [if_neg wp] at stp
                omega
          · rw [if_neg (nI_ge (by omega) (by omega)), decide_eq_false (by omega)]; rfl
      by_cases c2 : to ≤ p
      · rw [if_pos (nI_le c2 (by omega))]
        have : zI (wAt D p to) = 0 := by unfold wAt; rw [if_neg (by omega)]; rfl
        rw [this] at mid
        exact mid
      · rw [if_neg (nI_ge (by omega) (by omega)), Sh_wall N I (by omega) (by omega) μ h.1, bnS]
        have : wAt D p to = D.wl to := by unfold wAt; rw [if_pos (by omega)]
        rw [← this]
        exact mid
def keptI (D : Da) (p u : Nat) : Int := if p = 0 then u else if D.wl p < 0 then -1 else u + D.wl p
def ownI (who : Nat) : Int32 := if who = 9 then -9 else nI who
theorem Sh_own_loop (N : Nat) (hN : 30 ≤ N) {D : Da} (I : DI D) (hk : D.kind = 0) {L p : Nat} {s : Nat × Nat × Nat} (hL : L < 1000000) (hp : p < D.n) (hv : PV D L p s) (μ : Mm) (h : PC D μ) (lt : ∀ t, t < 2 ^ D.nS → LT D t μ 0) : ∀ (f m : Nat), m ≤ (stepP D L p s).1 → D.nS < f + m → f_Sh_leastOwner_L3 N f (ownI s.1) (zI (keptI D p s.2.1)) (nI s.2.2) (nI p) (nI L) (nI m) μ = some (nI (stepP D L p s).1, μ) := by
  have n16 := I.g.n16
  have s5 : D.nS ≤ 5 := by unfold Da.nS; omega
  have p32 : 2 ^ D.nS ≤ 32 := (show 2 ^ D.nS ≤ 2 ^ 5 from Nat.pow_le_pow_right (by decide) s5)
  have wb := wl_b I (show p < 16 by omega)
  obtain ⟨_, nlt⟩ := hv.next I hL hp
  obtain ⟨a, b, c, d⟩ := hv
  rw [show D.n - p = D.n - p - 1 + 1 by omega] at d
  obtain ⟨n1, n2, n3, n4⟩ := nxP_spec hL d
  rw [show D.n - (D.n - p - 1 + 1) = p by omega] at n2 n4
  have nx : (stepP D L p s).1 = nxP D.n D.nS D.wl D.U2 L (D.n - p - 1) s.1 s.2.1 s.2.2 := rfl
  rw [nx] at nlt ⊢
  generalize nxP D.n D.nS D.wl D.U2 L (D.n - p - 1) s.1 s.2.1 s.2.2 = kx at *
  obtain ⟨who, u, free⟩ := s
  simp only [] at a b c d n2 n3 n4 ⊢
  have wne : 0 < p → D.wl p ≠ 0 := fun h0 => by
    unfold Da.wl
    have := (I.fence hk).2 (p - 1) (by omega)
    rw [show p - 1 + 1 = p by omega] at this
    exact this
  intro f
  induction f with
  | zero => intro m h1 h2; omega
  | succ f ih =>
    intro m h1 h2
    have hm : m < D.nS := by omega
    rw [f_Sh_leastOwner_L3, h.2.1, if_neg (nI_ge (by omega) (by omega))]
    have an31 : anN free (2 ^ m) < 32 := Nat.lt_of_lt_of_le (Nat.lt_of_le_of_lt (sub_le (n := D.nS) (anN_lt a) (by
      apply Nat.eq_of_testBit_eq
      intro i
      rw [anN_tb, anN_tb, Nat.zero_testBit]
      cases free.testBit i <;> simp)) a) p32
    have anb : (anN free (2 ^ m)).testBit m = false := by rw [anN_tb, Nat.testBit_two_pow, decide_eq_true rfl, Bool.not_true, Bool.and_false]
    have anl : anN free (2 ^ m) < 2 ^ D.nS := anN_lt a
    have wl0 : wAt D p p = 0 := by unfold wAt; rw [if_neg (by omega)]
    -- what trying m gives
    have can : ∀ ub, ub ≤ 30 * p → ub = nwF D.wl p who u m → alF D.wl p who free m = true → f_Sh_leastOwner_B68 N (f_Sh_leastOwner_L3 N f) (ownI who) (zI (keptI D p u)) (nI free) (nI p) (nI L) (nI m) (nI m) (nI ub) μ = some (nI kx, μ) := fun ub hub eu hal => by
      unfold f_Sh_leastOwner_B68 f_Sh_leastOwner_B89
      have ce := Sh_can_loop N I hk (p := p) hm an31 anb hL μ h (lt _ anl) N p ub (Nat.le_refl _) (by omega) (by omega) (by rw [wl0]; intro _; show ub + 0 ≤ _; omega)
      rw [wl0] at ce
      have ce' : f_Sh_canEnd N (nI m) (nI ub) (nI (anN free (2 ^ m))) (nI p) (nI L) μ = some (b2 (decide (p < D.n ∧ 0 ≤ (0 : Int) ∧ Wf D.n D.nS D.wl D.U2 (D.n - p - 1) m (ub + (0 : Int).toNat) (anN free (2 ^ m)) ≤ L)), μ) := ce
      rw [clr_bit (by omega) (by omega), ce', bnS]
      have vv : vF D.n D.nS D.wl D.U2 (D.n - p - 1) who u free m = Wf D.n D.nS D.wl D.U2 (D.n - p - 1) m (ub + (0 : Int).toNat) (anN free (2 ^ m)) := by
        unfold vF Wf
        rw [show D.n - (D.n - p - 1 + 1) = p by omega, ← eu]
        rfl
      rw [← vv]
      simp only [nI_1, nI_add]
      by_cases q : vF D.n D.nS D.wl D.U2 (D.n - p - 1) who u free m ≤ L
      · have e : m = kx := by
          rcases Nat.lt_or_ge m kx with z | z
          · exact absurd ⟨hal, q⟩ (n4 m z)
          · omega
        rw [decide_eq_true ⟨hp, Int.le_refl _, q⟩, if_neg (by decide), e]
      · rw [decide_eq_false (fun z => q z.2.2), if_pos (by decide)]
        refine ih (m + 1) ?_ (by omega)
        rcases Nat.lt_or_ge m kx with z | z
        · exact z
        · have e : m = kx := by omega
          rw [e] at q
          exact absurd n3 q
    have skp : alF D.wl p who free m = false → f_Sh_leastOwner_B89 N (f_Sh_leastOwner_L3 N f) (ownI who) (zI (keptI D p u)) (nI free) (nI p) (nI L) (nI m) μ = some (nI kx, μ) := fun hal => by
      unfold f_Sh_leastOwner_B89
      simp only [nI_1, nI_add]
      refine ih (m + 1) ?_ (by omega)
      rcases Nat.lt_or_ge m kx with z | z
      · exact z
      · have e : m = kx := by omega
        rw [← e, hal] at n2
        cases n2
    -- not going on
    have noGo : ¬ (m = who ∧ 0 < p ∧ 0 < D.wl p) → f_Sh_leastOwner_B26 N (f_Sh_leastOwner_L3 N f) (ownI who) (zI (keptI D p u)) (nI free) (nI p) (nI L) (nI m) μ = some (nI kx, μ) := fun hg => by
      have al : alF D.wl p who free m = free.testBit m := by
        unfold alF
        rw [decide_eq_false hg]; rfl
      unfold f_Sh_leastOwner_B26 f_Sh_leastOwner_B27 f_Sh_leastOwner_B43 f_Sh_leastOwner_B55
      rw [bitN (by omega) (by omega)]
      cases bb : free.testBit m with
      | false =>
        rw [if_pos (by decide), if_pos rfl, if_pos rfl]
        exact skp (by rw [al, bb])
      | true =>
        rw [if_neg (by decide), if_pos rfl, if_neg (by decide), if_pos rfl]
        exact can 0 (by omega) (by unfold nwF; rw [if_neg hg]) (by rw [al, bb])
    rcases c with ⟨c1, c2⟩ | ⟨c1, c2, c3⟩
    · have ow : ¬ nI m = ownI who := fun q => by
        unfold ownI at q
        rw [if_pos c1, eq_I, tI (by omega), show (-9 : Int32).toInt = -9 from rfl] at q
        omega
      rw [if_neg ow]
      exact noGo (by omega)
    · have w9 : ¬ who = 9 := by omega
      have ow : nI m = ownI who ↔ m = who := by
        unfold ownI
        rw [if_neg w9]
        exact nI_eq (by omega) (by omega)
      by_cases e : m = who
      · rw [if_pos (ow.mpr e)]
        have kp : keptI D p u = if D.wl p < 0 then -1 else u + D.wl p := by unfold keptI; rw [if_neg (by omega)]
        by_cases wn : D.wl p < 0
        · rw [if_pos (show zI (keptI D p u) < (0 : Int32) by rw [kp, if_pos wn]; decide)]
          exact noGo (by omega)
        · have wp : 0 < D.wl p := by have := wne c2; omega
          have kz : zI (keptI D p u) = nI (u + (D.wl p).toNat) := by
            rw [kp, if_neg wn, zI_n]
            congr 1
            omega
          rw [if_neg (show ¬ zI (keptI D p u) < (0 : Int32) by rw [kz, lt_I, tI (by omega), show (0 : Int32).toInt = 0 from rfl]; omega)]
          have al : alF D.wl p who free m = true := by
            unfold alF
            rw [decide_eq_true ⟨e, c2, wp⟩]; rfl
          have cc := can (u + (D.wl p).toNat) (by omega) (by unfold nwF; rw [if_pos ⟨e, c2, wp⟩]) al
          unfold f_Sh_leastOwner_B27 f_Sh_leastOwner_B43 f_Sh_leastOwner_B55
          rw [if_neg (show ¬ (1 : Int32) = 0 by decide), if_neg (show ¬ (1 : Int32) = 0 by decide), if_neg (show ¬ (1 : Int32) = 0 by decide), ite_self]
          rw [← kz] at cc
          exact cc
      · rw [if_neg (fun q => e (ow.mp q))]
        exact noGo (fun q => e q.1)
/-- firsts and lasts, post by post -/
def gvF (sh ow : Nat → Nat) : Nat → (Nat → Int32) × (Nat → Int32)
  | 0 => (fun _ => -9, fun _ => -9)
  | p + 1 => (if (gvF sh ow p).1 (sh (ow p)) = -9 then upd (gvF sh ow p).1 (sh (ow p)) (nI p) else (gvF sh ow p).1, upd (gvF sh ow p).2 (sh (ow p)) (nI p))
theorem Sh_deal_loop (N : Nat) (hN : 30 ≤ N) {D : Da} (I : DI D) (hk : D.kind = 0) {L : Nat} (hL : L < 1000000) (hs : PV D L 0 (9, 0, 2 ^ D.nS - 1)) : ∀ (f p : Nat) (μ : Mm), PC D μ → (∀ t, t < 2 ^ D.nS → LT D t μ 0) → p ≤ D.n → D.n < f + p → PV D L p (stG D L 0 (9, 0, 2 ^ D.nS - 1) p) → (∀ w, w < 8 → μ.1 80 w = (gvF D.sh (fun q => (stG D L 0 (9, 0, 2 ^ D.nS - 1) (q + 1)).1) p).1 w ∧ μ.1 81 w = (gvF D.sh (fun q => (stG D L 0 (9, 0, 2 ^ D.nS - 1) (q + 1)).1) p).2 w) → ∃ μ', f_Sh_dealOut_L12 N f (nI L) (nI (stG D L 0 (9, 0, 2 ^ D.nS - 1) p).2.2) (ownI (stG D L 0 (9, 0, 2 ^ D.nS - 1) p).1) (nI (stG D L 0 (9, 0, 2 ^ D.nS - 1) p).2.1) (nI p) μ = some μ' ∧ VFr μ μ' ∧ (∀ w, w < 8 → μ'.1 80 w = (gvF D.sh (fun q => (stG D L 0 (9, 0, 2 ^ D.nS - 1) (q + 1)).1) D.n).1 w ∧ μ'.1 81 w = (gvF D.sh (fun q => (stG D L 0 (9, 0, 2 ^ D.nS - 1) (q + 1)).1) D.n).2 w) := by
  have n16 := I.g.n16
  have w8 := I.w8
  have s5 : D.nS ≤ 5 := by unfold Da.nS; omega
  have p32 : 2 ^ D.nS ≤ 32 := (show 2 ^ D.nS ≤ 2 ^ 5 from Nat.pow_le_pow_right (by decide) s5)
  intro f
  induction f with
  | zero => intro p μ _ _ h1 h2; omega
  | succ f ih =>
    intro p μ h lt h1 h2 hv hg
    rw [f_Sh_dealOut_L12, h.1.g.n]
    by_cases c : p = D.n
    · rw [if_pos (nI_le (by omega) (by omega))]
      rw [c] at hg
      exact ⟨μ, rfl, VFr.refl μ, hg⟩
    · have hp : p < D.n := by omega
      have wb := wl_b I (show p < 16 by omega)
      obtain ⟨v1, v2⟩ := hv.next I hL hp
      have hown := Sh_own_loop N hN I hk hL hp hv μ h lt N 0 (by omega) (by omega)
      have e1 : stG D L 0 (9, 0, 2 ^ D.nS - 1) (p + 1) = stepP D L p (stG D L 0 (9, 0, 2 ^ D.nS - 1) p) := by
        show stepP D L (0 + p) _ = _
        rw [Nat.zero_add]
      obtain ⟨a, b, cc, d⟩ := hv
      generalize hS : stG D L 0 (9, 0, 2 ^ D.nS - 1) p = s at *
      have kx : (stepP D L p s).1 < D.nS := v2
      have hown' : f_Sh_leastOwner N (ownI s.1) (zI (keptI D p s.2.1)) (nI s.2.2) (nI p) (nI L) μ = some (nI (stepP D L p s).1, μ) := hown
      rw [if_neg (nI_ge (by omega) (by omega))]
      have shk := sh_ok kx
      -- the rest, once the wall is known
      have mid : f_Sh_dealOut_B62 N (f_Sh_dealOut_L12 N f) (nI L) (nI s.2.2) (ownI s.1) (nI p) (zI (keptI D p s.2.1)) μ = f_Sh_dealOut_B97 N (f_Sh_dealOut_L12 N f) (nI L) (nI s.2.2) (nI p) (nI (stepP D L p s).1) (nI (stepP D L p s).2.1) μ := by
        unfold f_Sh_dealOut_B62
        rw [hown', bnS, if_pos (show (0 : Int32) ≤ nI (stepP D L p s).1 from nI_le (a := 0) (by omega) (by omega))]
        have u1 : (stepP D L p s).2.1 = nwF D.wl p s.1 s.2.1 (stepP D L p s).1 := rfl
        have d' := d
        rw [show D.n - p = D.n - p - 1 + 1 by omega] at d'
        obtain ⟨_, n2, _, _⟩ := nxP_spec hL d'
        rw [show D.n - (D.n - p - 1 + 1) = p by omega] at n2
        have n2' : alF D.wl p s.1 s.2.2 (stepP D L p s).1 = true := n2
        generalize (stepP D L p s).1 = kk at *
        rw [u1]
        rcases cc with ⟨c1, c2⟩ | ⟨c1, c2, c3⟩
        · rw [if_neg (show ¬ nI kk = ownI s.1 from fun q => by
            unfold ownI at q
            rw [if_pos c1, eq_I, tI (by omega), show (-9 : Int32).toInt = -9 from rfl] at q
            omega)]
          unfold nwF
          rw [if_neg (by omega)]
          rfl
        · have w9 : ¬ s.1 = 9 := by omega
          have ow : nI kk = ownI s.1 ↔ kk = s.1 := by
            unfold ownI
            rw [if_neg w9]
            exact nI_eq (by omega) (by omega)
          by_cases e : kk = s.1
          · have wp : 0 < D.wl p := by
              unfold alF at n2'
              rw [Bool.or_eq_true, decide_eq_true_eq] at n2'
              rcases n2' with q | q
              · exact q.2.2
              · rw [e, c3] at q; cases q
            rw [if_pos (ow.mpr e)]
            unfold nwF
            rw [if_pos ⟨e, c2, wp⟩]
            congr 1
            unfold keptI
            rw [if_neg (by omega), if_neg (by omega), zI_n]
            congr 1
            omega
          · rw [if_neg (fun q => e (ow.mp q))]
            unfold nwF
            rw [if_neg (fun q => e q.1)]
            rfl
      have fin : ∃ μ', f_Sh_dealOut_B97 N (f_Sh_dealOut_L12 N f) (nI L) (nI s.2.2) (nI p) (nI (stepP D L p s).1) (nI (stepP D L p s).2.1) μ = some μ' ∧ VFr μ μ' ∧ (∀ w, w < 8 → μ'.1 80 w = (gvF D.sh (fun q => (stG D L 0 (9, 0, 2 ^ D.nS - 1) (q + 1)).1) D.n).1 w ∧ μ'.1 81 w = (gvF D.sh (fun q => (stG D L 0 (9, 0, 2 ^ D.nS - 1) (q + 1)).1) D.n).2 w) := by
        unfold f_Sh_dealOut_B97 f_Sh_give f_Sh_give_B18
        have wlt : D.sh (stepP D L p s).1 < 8 := by omega
        rw [if_pos (ixb_t (show (stepP D L p s).1 < 5 by omega) (by decide)), nI_clamp (show (stepP D L p s).1 < 2 ^ 31 by omega), h.2.2 _ kx, clr_bit (by omega) (by omega)]
        simp only [if_pos (ixb_t wlt (show 8 < 2 ^ 31 by decide)), nI_clamp (show D.sh (stepP D L p s).1 < 2 ^ 31 by omega), nI_1, nI_add]
        have gs : gvF D.sh (fun q => (stG D L 0 (9, 0, 2 ^ D.nS - 1) (q + 1)).1) (p + 1) = (if (gvF D.sh (fun q => (stG D L 0 (9, 0, 2 ^ D.nS - 1) (q + 1)).1) p).1 (D.sh (stepP D L p s).1) = -9 then upd (gvF D.sh (fun q => (stG D L 0 (9, 0, 2 ^ D.nS - 1) (q + 1)).1) p).1 (D.sh (stepP D L p s).1) (nI p) else (gvF D.sh (fun q => (stG D L 0 (9, 0, 2 ^ D.nS - 1) (q + 1)).1) p).1, upd (gvF D.sh (fun q => (stG D L 0 (9, 0, 2 ^ D.nS - 1) (q + 1)).1) p).2 (D.sh (stepP D L p s).1) (nI p)) := by
          rw [← e1]; rfl
        have an : (stepP D L p s).2.2 = anN s.2.2 (2 ^ (stepP D L p s).1) := rfl
        have go : ∀ μ1 : Mm, VFr μ μ1 → (∀ c, c ≠ 80 → c ≠ 81 → μ1.1 c = μ.1 c) → (∀ w, w < 8 → μ1.1 80 w = (gvF D.sh (fun q => (stG D L 0 (9, 0, 2 ^ D.nS - 1) (q + 1)).1) (p + 1)).1 w ∧ μ1.1 81 w = (gvF D.sh (fun q => (stG D L 0 (9, 0, 2 ^ D.nS - 1) (q + 1)).1) (p + 1)).2 w) → ∃ μ', f_Sh_dealOut_L12 N f (nI L) (nI (anN s.2.2 (2 ^ (stepP D L p s).1))) (nI (stepP D L p s).1) (nI (stepP D L p s).2.1) (nI (p + 1)) μ1 = some μ' ∧ VFr μ μ' ∧ (∀ w, w < 8 → μ'.1 80 w = (gvF D.sh (fun q => (stG D L 0 (9, 0, 2 ^ D.nS - 1) (q + 1)).1) D.n).1 w ∧ μ'.1 81 w = (gvF D.sh (fun q => (stG D L 0 (9, 0, 2 ^ D.nS - 1) (q + 1)).1) D.n).2 w) := fun μ1 f1 fo hg' => by
          obtain ⟨μ', q1, q2, q3⟩ := ih (p + 1) μ1 ⟨f1.dx w8 h.1, by rw [fo 79 (by decide) (by decide)]; exact h.2.1, fun k hk => by rw [fo 82 (by decide) (by decide)]; exact h.2.2 k hk⟩ (fun t ht x x1 x2 => by rw [fo 83 (by decide) (by decide)]; exact lt t ht x x1 x2) (by omega) (by omega) (by rw [e1]; exact v1) hg'
          rw [e1] at q1
          have oe : ownI (stepP D L p s).1 = nI (stepP D L p s).1 := by unfold ownI; rw [if_neg (by omega)]
          rw [oe, an] at q1
          exact ⟨μ', q1, f1.trans q2, q3⟩
        by_cases z : μ.1 80 (D.sh (stepP D L p s).1) = -9
        · rw [if_pos z, bvS]
          refine go _ ((VFr.cell (by decide) μ _ _).trans (VFr.cell (by decide) _ _ _)) (fun c c1 c2 => by rw [sI_ne _ _ _ c2, sI_ne _ _ _ c1]) (fun w hw => ?_)
          rw [(hg _ wlt).1] at z
          rw [gs, if_pos z, sI_ne _ _ _ (by decide), sI_at, sI_at, upd_at, upd_at, sI_ne _ _ _ (by decide)]
          simp only [upd_at, (hg w hw).1, (hg w hw).2]
          exact ⟨trivial, trivial⟩
        · rw [if_neg z, bvS]
          refine go _ (VFr.cell (by decide) μ _ _) (fun c c1 c2 => sI_ne _ _ _ c2) (fun w hw => ?_)
          rw [(hg _ wlt).1] at z
          rw [gs, if_neg z, sI_ne _ _ _ (by decide), sI_at, upd_at]
          simp only [upd_at, (hg w hw).1, (hg w hw).2]
          exact ⟨trivial, trivial⟩
      unfold f_Sh_dealOut_B46
      by_cases p0 : p = 0
      · rw [if_pos (show nI p ≤ (0 : Int32) by rw [p0]; decide), if_pos (by decide)]
        have : zI (keptI D p s.2.1) = nI s.2.1 + 0 := by
          unfold keptI
          rw [if_pos p0]
          show nI s.2.1 = nI s.2.1 + nI 0
          rw [nI_add]; rfl
        rw [← this, mid]
        exact fin
      · rw [if_neg (show ¬ nI p ≤ (0 : Int32) from nI_ge (a := 0) (by omega) (by omega)), Sh_wall N I (by omega) (by omega) μ h.1, bnS]
        by_cases wn : D.wl p < 0
        · rw [if_neg (show ¬ (0 : Int32) ≤ zI (D.wl p) by rw [le_I, zI_toInt (by omega) (by omega), show (0 : Int32).toInt = 0 from rfl]; omega)]
          have : zI (keptI D p s.2.1) = -1 := by
            unfold keptI
            rw [if_neg p0, if_pos wn]; rfl
          rw [← this, mid]
          exact fin
        · rw [if_pos (show (0 : Int32) ≤ zI (D.wl p) by rw [le_I, zI_toInt (by omega) (by omega), show (0 : Int32).toInt = 0 from rfl]; omega)]
          have : zI (keptI D p s.2.1) = nI s.2.1 + zI (D.wl p) := by
            unfold keptI
            rw [if_neg p0, if_neg wn, zI_n, zI_add]
          rw [← this, mid]
          exact fin
