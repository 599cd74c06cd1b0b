/-! PURE 61: the reference's search for a parting -/
def MP (D : Da) (μ : Mm) : Prop := DM D μ ∧ μ.1 0 49 = nI D.nS ∧ ∀ k, k < D.nS → μ.1 26 k = nI (D.sh k)
/-- only owners (from a post on), best owners and the best time change -/
def YFr (p : Nat) (μ μ' : Mm) : Prop := (∀ c, c ≠ 0 → c ≠ 27 → c ≠ 28 → μ'.1 c = μ.1 c) ∧ (∀ f, f ≠ 53 → μ'.1 0 f = μ.1 0 f) ∧ (∀ q, q < p → μ'.1 27 q = μ.1 27 q) ∧ μ'.2 = μ.2
theorem YFr.refl (p : Nat) (μ : Mm) : YFr p μ μ := ⟨fun _ _ _ _ => rfl, fun _ _ => rfl, fun _ _ => rfl, rfl⟩
theorem YFr.trans {p : Nat} {μ μ' μ'' : Mm} (a : YFr p μ μ') (b : YFr p μ' μ'') : YFr p μ μ'' := ⟨fun c h1 h2 h3 => (b.1 c h1 h2 h3).trans (a.1 c h1 h2 h3), fun f h => (b.2.1 f h).trans (a.2.1 f h), fun q h => (b.2.2.1 q h).trans (a.2.2.1 q h), b.2.2.2.trans a.2.2.2⟩
theorem YFr.less {p p' : Nat} (h : p ≤ p') {μ μ' : Mm} (a : YFr p' μ μ') : YFr p μ μ' := ⟨a.1, a.2.1, fun q hq => a.2.2.1 q (by omega), a.2.2.2⟩
theorem YFr.mfr {p : Nat} {μ μ' : Mm} (a : YFr p μ μ') : MFr μ μ' := ⟨fun f h => a.2.1 f (by omega), fun c h => a.1 c (by omega) (by omega) (by omega), fun f _ => by rw [a.2.2.2]⟩
theorem YFr.mp {D : Da} {p : Nat} {μ μ' : Mm} (a : YFr p μ μ') (h : MP D μ) : MP D μ' := ⟨a.mfr.dm h.1, by rw [a.2.1 49 (by decide)]; exact h.2.1, fun k hk => by rw [a.1 26 (by decide) (by decide) (by decide)]; exact h.2.2 k hk⟩
/-- best so far: none, or a number -/
def bI (B : Nat) : Int32 := if B = 1000000 then -9 else nI B
theorem M_copy_loop (N : Nat) {D : Da} (I : DI D) (kr : Int32 → Int32 → Int32 → Int32 → Int32 → Mm → Option Mm) : ∀ (f q : Nat) (μ : Mm), DM D μ → q ≤ D.n → D.n < f + q → (∀ x, x < q → μ.1 28 x = μ.1 27 x) → ∃ μ', f_M_part_L36 N kr f (nI q) μ = some μ' ∧ (∀ c, c ≠ 28 → μ'.1 c = μ.1 c) ∧ μ'.2 = μ.2 ∧ ∀ x, x < D.n → μ'.1 28 x = μ.1 27 x := by
  have n16 := I.g.n16
  intro f
  induction f with
  | zero => intro q μ _ h1 h2; omega
  | succ f ih =>
    intro q μ M h1 h2 hx
    rw [f_M_part_L36, M.n]
    by_cases c : q = D.n
    · rw [if_pos (nI_le (by omega) (by omega))]
      exact ⟨μ, rfl, fun _ _ => rfl, rfl, fun x hx' => hx x (by omega)⟩
    · rw [if_neg (nI_ge (by omega) (by omega)), if_pos (ixb_t (show q < 16 by omega) (by decide)), nI_clamp (show q < 2 ^ 31 by omega)]
      simp only [if_pos (ixb_t (show q < 16 by omega) (show 16 < 2 ^ 31 by decide)), nI_1, nI_add]
      obtain ⟨μ', r1, r2, r3, r4⟩ := ih (q + 1) (sI μ 28 q (μ.1 27 q)) ((MFr.cell (c := 28) (by omega) μ _).dm M) (by omega) (by omega) (fun x hx' => by
        rw [sI_at, upd_at, sI_ne _ _ _ (by decide)]
        by_cases e : x = q
        · rw [if_pos e, e]
        · rw [if_neg e]; exact hx x (by omega))
      exact ⟨μ', r1, fun c hc => by rw [r2 c hc, sI_ne _ _ _ hc], r3, fun x hx' => by rw [r4 x hx', sI_ne _ _ _ (by decide)]⟩
/-- what a search leaves: better, with its owners; or as it was -/
def SR (D : Da) (p l0 B : Nat) (s : Nat × Nat × Nat) (μ μ' : Mm) : Prop := (max l0 (opF D.n D.nS D.wl D.U2 (D.n - p) s.1 s.2.1 s.2.2) < B ∧ μ'.1 0 53 = nI (max l0 (opF D.n D.nS D.wl D.U2 (D.n - p) s.1 s.2.1 s.2.2)) ∧ (∀ q, q < p → μ'.1 28 q = μ.1 27 q) ∧ ∀ t, p + t < D.n → μ'.1 28 (p + t) = nI (stG D (max l0 (opF D.n D.nS D.wl D.U2 (D.n - p) s.1 s.2.1 s.2.2)) p s (t + 1)).1) ∨ (B ≤ max l0 (opF D.n D.nS D.wl D.U2 (D.n - p) s.1 s.2.1 s.2.2) ∧ μ'.1 0 53 = μ.1 0 53 ∧ μ'.1 28 = μ.1 28)
theorem M_part_ok (N : Nat) (hN : 30 ≤ N) {D : Da} (I : DI D) (hk : D.kind = 0) : ∀ (f p : Nat) (s : Nat × Nat × Nat) (l0 B : Nat) (μ : Mm), p ≤ D.n → D.n < f + p → MP D μ → s.2.2 < 2 ^ D.nS → s.2.1 ≤ 30 * (p - 1) → ((s.1 = 9 ∧ p = 0) ∨ (s.1 < D.nS ∧ 0 < p ∧ s.2.2.testBit s.1 = false)) → l0 < 1000000 → B ≤ 1000000 → μ.1 0 53 = bI B → ∃ μ', f_M_part N f (nI p) (ownI s.1) (nI s.2.1) (nI s.2.2) (nI l0) μ = some μ' ∧ YFr p μ μ' ∧ SR D p l0 B s μ μ' := by
  have n16 := I.g.n16
  have w8 := I.w8
  have s5 : D.nS ≤ 5 := by unfold Da.nS; omega
  have p32 : 2 ^ D.nS ≤ 32 := (show 2 ^ D.nS ≤ 2 ^ 5 from Nat.pow_le_pow_right (by decide) s5)
  intro f
  induction f with
  | zero => intro p s l0 B μ h1 h2; omega
  | succ f ih =>
    intro p s l0 B μ h1 h2 hM a b cc hl hB e53
    rw [f_M_part]
    unfold f_M_part_b
    rw [e53]
    have opl := opF_le D.n D.nS D.wl D.U2 (D.n - p) s.1 s.2.1 s.2.2
    -- the search itself, once it isn't cut
    have body : l0 < B → ∃ μ', f_M_part_B19 N (f_M_part N f) (nI p) (ownI s.1) (nI s.2.1) (nI s.2.2) (nI l0) μ = some μ' ∧ YFr p μ μ' ∧ SR D p l0 B s μ μ' := fun lb => by
      unfold f_M_part_B19
      rw [hM.1.n]
      by_cases c : p = D.n
      · rw [if_pos (by rw [c])]
        have o0 : opF D.n D.nS D.wl D.U2 (D.n - p) s.1 s.2.1 s.2.2 = 0 := by rw [c, Nat.sub_self]; rfl
        obtain ⟨μ', r1, r2, r3, r4⟩ := M_copy_loop N I (f_M_part N f) N 0 (sI μ 0 53 (nI l0)) ((MFr.fld (f := 53) (by decide) μ _).dm hM.1) (by omega) (by omega) (fun x hx => by omega)
        refine ⟨μ', r1, ⟨fun c h1 h2 h3 => by rw [r2 c h3, sI_ne _ _ _ h1], fun g hg => by rw [r2 0 (by decide), sI_at, upd_ne _ _ hg], fun q hq => by rw [r2 27 (by decide), sI_ne _ _ _ (by decide)], by rw [r3]; rfl⟩, Or.inl ⟨by rw [o0]; omega, ?_, fun q hq => ?_, fun t ht => by omega⟩⟩
        · rw [r2 0 (by decide), sI_at, upd_eq, o0, Nat.max_eq_left (Nat.zero_le _)]
        · rw [r4 q (by omega), sI_ne _ _ _ (by decide)]
      · have hp : p < D.n := by omega
        have wb := wl_b I (show p < 16 by omega)
        rw [if_neg (fun q => c ((nI_eq (by omega) (by omega)).mp q))]
        have os : opF D.n D.nS D.wl D.U2 (D.n - p) s.1 s.2.1 s.2.2 = mnF (alF D.wl p s.1 s.2.2) (vF D.n D.nS D.wl D.U2 (D.n - p - 1) s.1 s.2.1 s.2.2) 1000000 D.nS := by
          have := opF_s D.n D.nS D.wl D.U2 (D.n - p - 1) s.1 s.2.1 s.2.2
          rw [show D.n - p - 1 + 1 = D.n - p by omega, show D.n - (D.n - p) = p by omega] at this
          exact this
        have wne : 0 < p → D.wl p ≠ 0 := fun h0 => by
          unfold Da.wl
          have := (I.fence hk).2 (p - 1) (by omega)
          rw [show p - 1 + 1 = p by omega] at this
          exact this
        have x16 : 0 < p → 16 * (p - 1) + p < 256 := fun _ => by omega
        have x31 : 16 * (p - 1) + p < 2 ^ 31 := by omega
        have ubw : 0 < p → s.2.1 + (D.wl p).toNat ≤ 30 * p := fun h0 => by omega
        have nab : 0 < D.wl p → (D.wl p).natAbs = (D.wl p).toNat := fun h0 => by omega
        have wpp : 0 < p → ¬ D.wl p < 0 → 0 < D.wl p := fun h0 h1 => by have := wne h0; omega
        have p31 : 0 < p → ¬ nI p ≤ (0 : Int32) := fun h0 => nI_ge (a := 0) h0 (by omega)
        have pm1 : 0 < p → nI p - 1 = nI (p - 1) := fun h0 => pk_sub (b := 1) (by omega)
        have noW : D.wl p < 0 → ∀ k, ¬ (k = s.1 ∧ 0 < p ∧ 0 < D.wl p) := fun h0 k q => by omega
        have brk : ∀ μ1 : Mm, DM D μ1 → 0 < p → μ1.1 6 (16 * (p - 1) + p) = b2 (decide (D.wl p < 0)) := fun μ1 M1 h0 => M1.brk (p - 1) p (by omega) (by omega)
        have lng : ∀ μ1 : Mm, DM D μ1 → 0 < p → μ1.1 5 (16 * (p - 1) + p) = nI (D.wl p).natAbs := fun μ1 M1 h0 => M1.len (p - 1) p (by omega) (by omega)
        -- loop over sharers: prefix minimum m_k, its owners
        have loop : ∀ (g k : Nat) (μ1 : Mm), k ≤ D.nS → D.nS < g + k → YFr p μ μ1 → ((max l0 (mnF (alF D.wl p s.1 s.2.2) (vF D.n D.nS D.wl D.U2 (D.n - p - 1) s.1 s.2.1 s.2.2) 1000000 k) < B ∧ μ1.1 0 53 = nI (max l0 (mnF (alF D.wl p s.1 s.2.2) (vF D.n D.nS D.wl D.U2 (D.n - p - 1) s.1 s.2.1 s.2.2) 1000000 k)) ∧ (∀ q, q < p → μ1.1 28 q = μ.1 27 q) ∧ ∃ k0, k0 < k ∧ alF D.wl p s.1 s.2.2 k0 = true ∧ max l0 (vF D.n D.nS D.wl D.U2 (D.n - p - 1) s.1 s.2.1 s.2.2 k0) = max l0 (mnF (alF D.wl p s.1 s.2.2) (vF D.n D.nS D.wl D.U2 (D.n - p - 1) s.1 s.2.1 s.2.2) 1000000 k) ∧ (∀ x, x < k0 → alF D.wl p s.1 s.2.2 x = true → max l0 (mnF (alF D.wl p s.1 s.2.2) (vF D.n D.nS D.wl D.U2 (D.n - p - 1) s.1 s.2.1 s.2.2) 1000000 k) < max l0 (vF D.n D.nS D.wl D.U2 (D.n - p - 1) s.1 s.2.1 s.2.2 x)) ∧ μ1.1 28 p = nI k0 ∧ ∀ t, p + 1 + t < D.n → μ1.1 28 (p + 1 + t) = nI (stG D (max l0 (mnF (alF D.wl p s.1 s.2.2) (vF D.n D.nS D.wl D.U2 (D.n - p - 1) s.1 s.2.1 s.2.2) 1000000 k)) (p + 1) (k0, nwF D.wl p s.1 s.2.1 k0, anN s.2.2 (2 ^ k0)) (t + 1)).1) ∨ (B ≤ max l0 (mnF (alF D.wl p s.1 s.2.2) (vF D.n D.nS D.wl D.U2 (D.n - p - 1) s.1 s.2.1 s.2.2) 1000000 k) ∧ μ1.1 0 53 = μ.1 0 53 ∧ μ1.1 28 = μ.1 28)) → ∃ μ', f_M_part_L69 N (f_M_part N f) g (nI p) (ownI s.1) (nI s.2.1) (nI s.2.2) (nI l0) (nI k) μ1 = some μ' ∧ YFr p μ μ' ∧ SR D p l0 B s μ μ' := by
          intro g
          induction g with
          | zero => intro k μ1 h1 h2; omega
          | succ g ihg =>
            intro k μ1 k1 k2 hY hI
            have M1 := hY.mp hM
            rw [f_M_part_L69, M1.2.1]
            by_cases ck : k = D.nS
            · rw [if_pos (nI_le (by omega) (by omega))]
              refine ⟨μ1, rfl, hY, ?_⟩
              rw [ck, ← os] at hI
              rcases hI with ⟨i1, i2, i3, k0, j1, j2, j3, j4, j5, j6⟩ | i
              · left
                refine ⟨i1, i2, i3, fun t ht => ?_⟩
                have hlt : max l0 (opF D.n D.nS D.wl D.U2 (D.n - p) s.1 s.2.1 s.2.2) < 1000000 := by omega
                have nx : nxP D.n D.nS D.wl D.U2 (max l0 (opF D.n D.nS D.wl D.U2 (D.n - p) s.1 s.2.1 s.2.2)) (D.n - p - 1) s.1 s.2.1 s.2.2 = k0 := by
                  refine nxP_is j1 ?_ ?_ (fun x hx q => ?_)
                  · rw [show D.n - (D.n - p - 1 + 1) = p by omega]; exact j2
                  · omega
                  · rw [show D.n - (D.n - p - 1 + 1) = p by omega] at q
                    have := j4 x hx q.1
                    omega
                have stp : stepP D (max l0 (opF D.n D.nS D.wl D.U2 (D.n - p) s.1 s.2.1 s.2.2)) p s = (k0, nwF D.wl p s.1 s.2.1 k0, anN s.2.2 (2 ^ k0)) := by
                  unfold stepP
                  rw [nx]
                cases t with
                | zero =>
                  rw [stG_front, stp]
                  exact j5
                | succ t =>
                  rw [stG_front, stp, show p + (t + 1) = p + 1 + t by omega]
                  exact j6 t (by omega)
              · right; exact i
            · have hk' : k < D.nS := by omega
              have st1 : mnF (alF D.wl p s.1 s.2.2) (vF D.n D.nS D.wl D.U2 (D.n - p - 1) s.1 s.2.1 s.2.2) 1000000 (k + 1) = if alF D.wl p s.1 s.2.2 k = true then min (mnF (alF D.wl p s.1 s.2.2) (vF D.n D.nS D.wl D.U2 (D.n - p - 1) s.1 s.2.1 s.2.2) 1000000 k) (vF D.n D.nS D.wl D.U2 (D.n - p - 1) s.1 s.2.1 s.2.2 k) else mnF (alF D.wl p s.1 s.2.2) (vF D.n D.nS D.wl D.U2 (D.n - p - 1) s.1 s.2.1 s.2.2) 1000000 k := rfl
              have mle := mnF_le (alF D.wl p s.1 s.2.2) (vF D.n D.nS D.wl D.U2 (D.n - p - 1) s.1 s.2.1 s.2.2) 1000000 k
              have u2 := U2_le I hk'
              have shk := sh_ok hk'
              rw [if_neg (nI_ge (by omega) (by omega))]
              have nxt := ihg (k + 1)
              -- not allowed: on
              have skp : alF D.wl p s.1 s.2.2 k = false → ∃ μ', f_M_part_B225 N (f_M_part N f) (f_M_part_L69 N (f_M_part N f) g) (nI p) (ownI s.1) (nI s.2.1) (nI s.2.2) (nI l0) (nI k) μ1 = some μ' ∧ YFr p μ μ' ∧ SR D p l0 B s μ μ' := fun hal => by
                unfold f_M_part_B225
                simp only [nI_1, nI_add]
                rw [if_neg (by rw [hal]; decide)] at st1
                refine nxt μ1 (by omega) (by omega) hY ?_
                rw [st1]
                rcases hI with ⟨i1, i2, i3, k0, j1, j2⟩ | i
                · exact Or.inl ⟨i1, i2, i3, k0, by omega, j2⟩
                · exact Or.inr i
              -- allowed, with its units
              have tak : ∀ ub, ub ≤ 30 * p → ub = nwF D.wl p s.1 s.2.1 k → alF D.wl p s.1 s.2.2 k = true → ∃ μ', f_M_part_B163 N (f_M_part N f) (f_M_part_L69 N (f_M_part N f) g) (nI p) (ownI s.1) (nI s.2.1) (nI s.2.2) (nI l0) (nI k) (nI ub) μ1 = some μ' ∧ YFr p μ μ' ∧ SR D p l0 B s μ μ' := fun ub hub eu hal => by
                have tb : D.U2 k * ub ≤ 120 * 480 := Nat.mul_le_mul u2 (by omega)
                unfold f_M_part_B163 f_M_part_B222 f_M_part_B225
                rw [if_pos (ixb_t (show k < 5 by omega) (by decide)), nI_clamp (show k < 2 ^ 31 by omega), M1.2.2 k hk', M_unitOf_eq N I shk.1 μ1 M1.1, bnS, show (2 : Int32) = nI 2 from rfl, pk_mul, pk_mul, if_pos (ixb_t (show p < 16 by omega) (by decide)), nI_clamp (show p < 2 ^ 31 by omega), show 2 * ub * D.un (D.sh k) = D.U2 k * ub by unfold Da.U2; rw [Nat.mul_right_comm], clr_bit (by omega) (by omega), ← nI_succ]
                simp only [nI_1, nI_add]
                have tim : ∀ A : Int32 → Option Mm, (if nI (D.U2 k * ub) ≤ nI l0 then A (nI l0) else A (nI (D.U2 k * ub))) = A (nI (max l0 (D.U2 k * ub))) := fun A => by
                  by_cases z : D.U2 k * ub ≤ l0
                  · rw [if_pos (nI_le z (by omega)), Nat.max_eq_left z]
                  · rw [if_neg (nI_ge (by omega) (by omega)), Nat.max_eq_right (by omega)]
                rw [tim (fun z => bv (f_M_part N f (nI (p + 1)) (nI k) (nI ub) (nI (anN s.2.2 (2 ^ k))) z (sI μ1 27 p (nI k))) (fun μ20 => f_M_part_L69 N (f_M_part N f) g (nI p) (ownI s.1) (nI s.2.1) (nI s.2.2) (nI l0) (nI (k + 1)) μ20))]
                have Y2 : YFr p μ1 (sI μ1 27 p (nI k)) := ⟨fun c h1 h2 h3 => sI_ne _ _ _ h2, fun g _ => by rw [sI_ne _ _ _ (by decide)], fun q hq => by rw [sI_at, upd_ne _ _ (by omega)], rfl⟩
                have hY2 := hY.trans Y2
                have oe : ownI k = nI k := by unfold ownI; rw [if_neg (by omega)]
                -- the best so far at this point
                generalize hmk : mnF (alF D.wl p s.1 s.2.2) (vF D.n D.nS D.wl D.U2 (D.n - p - 1) s.1 s.2.1 s.2.2) 1000000 k = mk at *
                have vk : max l0 (vF D.n D.nS D.wl D.U2 (D.n - p - 1) s.1 s.2.1 s.2.2 k) = max (max l0 (D.U2 k * ub)) (opF D.n D.nS D.wl D.U2 (D.n - (p + 1)) k ub (anN s.2.2 (2 ^ k))) := by
                  unfold vF
                  rw [show D.n - (D.n - p - 1 + 1) = p by omega, ← eu, show D.n - (p + 1) = D.n - p - 1 by omega, Nat.max_assoc]
                have Bk : ∃ B1, B1 ≤ 1000000 ∧ μ1.1 0 53 = bI B1 ∧ ((B1 = max l0 mk ∧ max l0 mk < B) ∨ (B1 = B ∧ B ≤ max l0 mk)) := by
                  rcases hI with ⟨i1, i2, _⟩ | ⟨i1, i2, _⟩
                  · refine ⟨max l0 mk, by omega, ?_, Or.inl ⟨rfl, i1⟩⟩
                    rw [i2]
                    unfold bI
                    rw [if_neg (by omega)]
                  · exact ⟨B, hB, by rw [i2, e53], Or.inr ⟨rfl, i1⟩⟩
                obtain ⟨B1, b1, b2', b3⟩ := Bk
                obtain ⟨μ3, r1, r2, r3⟩ := ih (p + 1) (k, ub, anN s.2.2 (2 ^ k)) (max l0 (D.U2 k * ub)) B1 (sI μ1 27 p (nI k)) (by omega) (by omega) (Y2.mp M1) (anN_lt a) (by show ub ≤ 30 * (p + 1 - 1); omega) (Or.inr ⟨hk', by omega, by show (anN s.2.2 (2 ^ k)).testBit k = false; rw [anN_tb, Nat.testBit_two_pow, decide_eq_true rfl, Bool.not_true, Bool.and_false]⟩) (by omega) b1 (by rw [sI_ne _ _ _ (by decide)]; exact b2')
                simp only [] at r1 r3
                rw [oe] at r1
                rw [r1, bvS]
                have hY3 : YFr p μ μ3 := hY2.trans (r2.less (by omega))
                rw [if_pos hal] at st1
                refine nxt μ3 (by omega) (by omega) hY3 ?_
                rw [st1]
                unfold SR at r3
                simp only [] at r3
                rw [← vk] at r3
                generalize hvv : vF D.n D.nS D.wl D.U2 (D.n - p - 1) s.1 s.2.1 s.2.2 k = vv at *
                rcases r3 with ⟨t1, t2, t3, t4⟩ | ⟨t1, t2, t3⟩
                · -- better
                  have lt : max l0 vv < max l0 mk ∨ B ≤ max l0 mk := by
                    rcases b3 with ⟨z1, z2⟩ | ⟨z1, z2⟩
                    · left; omega
                    · right; exact z2
                  have mn : max l0 (min mk vv) = max l0 vv := by
                    rcases b3 with ⟨z1, z2⟩ | ⟨z1, z2⟩ <;> omega
                  left
                  rw [mn]
                  refine ⟨by rcases b3 with ⟨z1, z2⟩ | ⟨z1, z2⟩ <;> omega, t2, fun q hq => ?_, k, by omega, hal, by rw [hvv], fun x hx hax => ?_, ?_, fun t ht => ?_⟩
                  · rw [t3 q (by omega), sI_at, upd_ne _ _ (by omega)]
                    exact hY.2.2.1 q hq
                  · have := mle.2 x hx hax
                    rcases b3 with ⟨z1, z2⟩ | ⟨z1, z2⟩
                    · omega
                    · omega
                  · rw [t3 p (by omega), sI_at, upd_eq]
                  · rw [t4 t ht, ← eu]
                · have e28 : (sI μ1 27 p (nI k)).1 28 = μ1.1 28 := sI_ne _ _ _ (by decide)
                  have e0 : (sI μ1 27 p (nI k)).1 0 53 = μ1.1 0 53 := by rw [sI_ne _ _ _ (by decide)]
                  have mn : max l0 mk ≤ max l0 vv → max l0 (min mk vv) = max l0 mk := fun z => by omega
                  rcases hI with ⟨i1, i2, i3, k0, j1, j2, j3, j4, j5, j6⟩ | ⟨i1, i2, i3⟩
                  · have z : max l0 mk ≤ max l0 vv := by
                      rcases b3 with ⟨z1, z2⟩ | ⟨z1, z2⟩ <;> omega
                    left
                    rw [mn z]
                    exact ⟨i1, by rw [t2, e0]; exact i2, fun q hq => by rw [t3, e28]; exact i3 q hq, k0, by omega, j2, j3, j4, by rw [t3, e28]; exact j5, fun t ht => by rw [t3, e28]; exact j6 t ht⟩
                  · right
                    refine ⟨?_, by rw [t2, e0]; exact i2, by rw [t3, e28]; exact i3⟩
                    rcases b3 with ⟨z1, z2⟩ | ⟨z1, z2⟩ <;> omega
              have noGo : ¬ (k = s.1 ∧ 0 < p ∧ 0 < D.wl p) → ∃ μ', f_M_part_B108 N (f_M_part N f) (f_M_part_L69 N (f_M_part N f) g) (nI p) (ownI s.1) (nI s.2.1) (nI s.2.2) (nI l0) (nI k) μ1 = some μ' ∧ YFr p μ μ' ∧ SR D p l0 B s μ μ' := fun hg => by
                have al : alF D.wl p s.1 s.2.2 k = s.2.2.testBit k := by
                  unfold alF
                  rw [decide_eq_false hg]; rfl
                unfold f_M_part_B108 f_M_part_B109 f_M_part_B127 f_M_part_B139
                rw [bitN (by omega) (by omega)]
                cases bb : s.2.2.testBit k with
                | false =>
                  rw [if_neg (by decide), if_pos rfl, if_pos rfl]
                  exact skp (by rw [al, bb])
                | true =>
                  rw [if_pos (by decide), if_pos rfl, if_neg (by decide), if_pos rfl]
                  exact tak 0 (by omega) (by unfold nwF; rw [if_neg hg]) (by rw [al, bb])
              rcases cc with ⟨c1, c2⟩ | ⟨c1, c2, c3⟩
              · have ow : ¬ nI k = ownI s.1 := fun q => by
                  unfold ownI at q
                  rw [if_pos c1, eq_I, tI (by omega), show (-9 : Int32).toInt = -9 from rfl] at q
                  omega
                rw [if_neg ow]
                exact noGo (by omega)
              · have w9 : ¬ s.1 = 9 := by omega
                have ow : nI k = ownI s.1 ↔ k = s.1 := by
                  unfold ownI
                  rw [if_neg w9]
                  exact nI_eq (by omega) (by omega)
                by_cases e : k = s.1
                · rw [if_pos (ow.mpr e), if_neg (p31 c2), pm1 c2]
                  simp only [show (16 : Int32) = nI 16 from rfl, pk_mul, nI_add]
                  rw [if_pos (ixb_t (x16 c2) (by decide)), nI_clamp x31, brk μ1 M1.1 c2]
                  by_cases wn : D.wl p < 0
                  · rw [decide_eq_true wn, if_neg (by decide)]
                    exact noGo (noW wn k)
                  · have wp : 0 < D.wl p := wpp c2 wn
                    have al : alF D.wl p s.1 s.2.2 k = true := by
                      unfold alF
                      rw [decide_eq_true ⟨e, c2, wp⟩]; rfl
                    have tk := tak (s.2.1 + (D.wl p).toNat) (ubw c2) (by unfold nwF; rw [if_pos ⟨e, c2, wp⟩]) al
                    rw [decide_eq_false wn, if_pos (by decide)]
                    unfold f_M_part_B109 f_M_part_B127 f_M_part_B139
                    rw [if_neg (show ¬ (1 : Int32) = 0 by decide), if_neg (show ¬ (1 : Int32) = 0 by decide), if_neg (show ¬ (1 : Int32) = 0 by decide), ite_self, pm1 c2]
                    simp only [show (16 : Int32) = nI 16 from rfl, pk_mul, nI_add]
                    rw [if_pos (ixb_t (x16 c2) (by decide)), nI_clamp x31, lng μ1 M1.1 c2, nI_add, nab wp]
                    exact tk
                · rw [if_neg (fun q => e (ow.mp q))]
                  exact noGo (fun q => e q.1)
        refine loop N 0 μ (by omega) (by omega) (YFr.refl p μ) (Or.inr ⟨?_, rfl, rfl⟩)
        show B ≤ max l0 1000000
        omega
    unfold bI
    by_cases bz : B = 1000000
    · rw [if_pos bz, if_pos rfl]
      exact body (by omega)
    · rw [if_neg bz, if_neg (show ¬ nI B = (-9 : Int32) from fun q => by
        rw [eq_I, tI (by omega), show (-9 : Int32).toInt = -9 from rfl] at q
        omega)]
      by_cases lb : l0 < B
      · rw [if_pos (nI_lt lb (by omega))]
        exact body lb
      · rw [if_neg (nI_nlt (by omega) (by omega))]
        exact ⟨μ, rfl, YFr.refl p μ, Or.inr ⟨by omega, rfl, rfl⟩⟩
