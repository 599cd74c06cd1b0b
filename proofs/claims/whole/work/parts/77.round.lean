/-! PURE 57: round, roundAt -/
def UFr (μ μ' : Mm) : Prop := (∀ c, (c < 75 ∧ c ≠ 6 ∧ c ≠ 10) ∨ 78 < c → μ'.1 c = μ.1 c) ∧ (∀ f, f ≠ 9 → μ'.1 6 f = μ.1 6 f) ∧ μ'.2 = μ.2
theorem UFr.refl (μ : Mm) : UFr μ μ := ⟨fun _ _ => rfl, fun _ _ => rfl, rfl⟩
theorem UFr.trans {μ μ' μ'' : Mm} (a : UFr μ μ') (b : UFr μ' μ'') : UFr μ μ'' := ⟨fun c h => (b.1 c h).trans (a.1 c h), fun c h => (b.2.1 c h).trans (a.2.1 c h), b.2.2.trans a.2.2⟩
theorem UFr.symm {μ μ' : Mm} (a : UFr μ μ') : UFr μ' μ := ⟨fun c h => (a.1 c h).symm, fun c h => (a.2.1 c h).symm, a.2.2.symm⟩
theorem TFr.ufr {μ μ' : Mm} (a : TFr μ μ') : UFr μ μ' := ⟨fun c h => a.1 c (by omega), fun f _ => by rw [a.1 6 (by omega)], a.2.2⟩
theorem UFr.ms (μ : Mm) (g : Nat → Int32) (v : Int32) : UFr μ (sI (sA μ 10 g) 6 9 v) := ⟨fun c h => by rw [sI_ne _ _ _ (by omega), sA_ne _ _ (by omega)], fun f h => by rw [sI_at, upd_ne _ _ h, sA_ne _ _ (by decide)], rfl⟩
theorem UFr.t6 (μ : Mm) (v : Int32) : UFr μ (sI μ 75 6 v) := ⟨fun c h => sI_ne _ _ _ (by omega), fun f _ => by rw [sI_ne _ _ _ (by decide)], rfl⟩
theorem UFr.gx {n : Nat} {len : Nat → Nat → Int} {μ μ' : Mm} (a : UFr μ μ') (X : GX n len μ) : GX n len μ' := X.congr (a.2.1 1 (by decide)) (a.1 7 (by omega))
theorem UFr.dx {D : Da} (hw : D.w ≤ 8) {μ μ' : Mm} (a : UFr μ μ') (X : DX D μ) : DX D μ' := X.congr hw (a.2.1 0 (by decide)) (a.2.1 1 (by decide)) (a.1 7 (by omega)) (a.1 8 (by omega)) (a.1 9 (by omega)) (by rw [a.1 11 (by omega)]) (fun j hj => by
  have := WK_lt hj
  exact ⟨fun f _ => by rw [a.1 (WK j) (by omega)], a.1 _ (by omega), a.1 _ (by omega)⟩)
theorem no_parts {n K : Nat} {len : Nat → Nat → Int} {st : Nat → Nat} (G : GI n len) (hst : ∀ i, i < K + 1 → st i < n) (h : ∀ i, i < K + 1 → HL (fw n len) st 0 i < 1000000) : ∀ a b, a < K + 1 → b < K + 1 → HL (fw n len) st a b ≤ 480 := fun a b ha hb => by
  have h0 := hst 0 (by omega)
  have a1 := hst a ha
  have b1 := hst b hb
  have x := fw_480 G h0 a1 (h a ha)
  have y := fw_480 G h0 b1 (h b hb)
  have z := fw_tri G a1 b1 h0
  rw [fw_sym G a1 h0] at z
  exact fw_480 G a1 b1 (by omega)
theorem To_refresh_eq (N : Nat) (hN : 2000 ≤ N) {n : Nat} {len : Nat → Nat → Int} {wor : Nat → Nat} (G : GI n len) (μ : Mm) (X : GX n len μ) (hw : ∀ p, p < n → wor p ≤ 9 ∧ μ.1 8 p = nI (wor p)) (hc : cnt (wyF wor) n ≤ 10) (hF : μ.1 6 9 = 0 → FA n (fw n len) (μ.1 10)) (hT : μ.1 75 6 = μ.1 6 4 → TKt n len wor (μ.1 75) (μ.1 77)) : ∃ μ', f_To_refresh N μ = some μ' ∧ UFr μ μ' ∧ TKt n len wor (μ'.1 75) (μ'.1 77) ∧ μ'.1 75 6 = μ.1 6 4 ∧ (μ' = μ ∨ (FA n (fw n len) (μ'.1 10) ∧ μ'.1 6 9 = 0)) := by
  have n16 := G.n16
  unfold f_To_refresh
  by_cases c : μ.1 75 6 = μ.1 6 4
  · rw [if_pos c]
    exact ⟨μ, rfl, UFr.refl μ, hT c, c, Or.inl rfl⟩
  · rw [if_neg c]
    have u1 := UFr.t6 μ (μ.1 6 4)
    obtain ⟨g, e, F⟩ := Gr_measure_eq N n len G (by omega) (sI μ 75 6 (μ.1 6 4)) (u1.gx X) (by rw [sI_ne _ _ _ (by decide), sI_ne _ _ _ (by decide)]; exact hF)
    simp only []
    rw [e, bvS]
    have u2 := u1.trans (UFr.ms (sI μ 75 6 (μ.1 6 4)) g 0)
    have F3 : FA n (fw n len) ((sI (sA (sI μ 75 6 (μ.1 6 4)) 10 g) 6 9 0).1 10) := by rw [sI_ne _ _ _ (by decide), sAat]; exact F
    have z9 : (sI (sA (sI μ 75 6 (μ.1 6 4)) 10 g) 6 9 0).1 6 9 = 0 := by rw [sI_at, upd_eq]
    have v6 : (sI (sA (sI μ 75 6 (μ.1 6 4)) 10 g) 6 9 0).1 75 6 = μ.1 6 4 := by rw [sI_ne _ _ _ (by decide), sA_ne _ _ (by decide), sI_at, upd_eq]
    generalize sI (sA (sI μ 75 6 (μ.1 6 4)) 10 g) 6 9 0 = μ3 at u2 F3 z9 v6
    have t0 := TFr.fld (f := 5) (by decide) μ3 0
    obtain ⟨μ4, g1, g2, g3, g4⟩ := X_gather N (wor := wor) n16 hc N 0 (sI μ3 75 5 0) (by rw [t0.1 6 (by omega)]; exact (u2.gx X).n) (fun q hq => by rw [t0.1 8 (by omega), u2.1 8 (by omega)]; exact hw q hq) (by omega) (by omega) (by rw [sI_at, upd_eq]; rfl) (fun i hi => by
      have : cnt (wyF wor) 0 = 0 := rfl
      omega)
    have g1' : f_To_gatherStops N μ3 = some μ4 := g1
    rw [g1', bvS, g3]
    have t4 := t0.trans g2
    have u4 := u2.trans t4.ufr
    have F4 : FA n (fw n len) (μ4.1 10) := by rw [t4.1 10 (by omega)]; exact F3
    have z4 : μ4.1 6 9 = 0 := by rw [t4.1 6 (by omega)]; exact z9
    have v4 : μ4.1 75 6 = μ.1 6 4 := by rw [t4.2.1]; exact v6
    have hst : ∀ i, i < cnt (wyF wor) n → stN (wyF wor) n i < n := fun i hi => (stN_lt n i hi).1
    by_cases c2 : 2 ≤ cnt (wyF wor) n
    · rw [if_pos (show (2 : Int32) ≤ nI (cnt (wyF wor) n) from (nIc (a := 2) (by decide) (by omega)).mpr c2)]
      have s0 : HL (fw n len) (stN (wyF wor) n) 0 0 = 0 := fw_self G (hst 0 (by omega))
      obtain ⟨r, p1, p2⟩ := X_parted N G hc hst μ4 g3 g4 F4 N 1 (by omega) (by omega) (by omega) (fun x hx => by rw [show x = 0 by omega, s0]; omega)
      have p1' : f_To_isParted N μ4 = some (b2 r, μ4) := p1
      rw [p1', bnS]
      cases r with
      | true =>
        have ex := p2.mp rfl
        rw [if_neg (by decide)]
        have t5 := TFr.fld (f := 0) (by decide) μ4 (-9)
        refine ⟨_, rfl, u4.trans t5.ufr, fun _ => ⟨?_, fun q => by omega, fun _ _ => ?_, fun _ q => ?_⟩, ?_, Or.inr ⟨by rw [t5.1 10 (by omega)]; exact F4, by rw [t5.1 6 (by omega)]; exact z4⟩⟩
        · rw [sI_at, upd_ne _ _ (by decide)]; exact g3
        · rw [sI_at, upd_eq]
        · obtain ⟨i, i1, i2⟩ := ex
          have := q i i1
          omega
        · rw [t5.2.1]; exact v4
      | false =>
        have nex : ∀ i, i < cnt (wyF wor) n → HL (fw n len) (stN (wyF wor) n) 0 i < 1000000 := fun i hi => by
          rcases Nat.lt_or_ge (HL (fw n len) (stN (wyF wor) n) 0 i) 1000000 with q | q
          · exact q
          · have := p2.mpr ⟨i, hi, q⟩
            cases this
        rw [if_pos (by decide)]
        obtain ⟨K, hK⟩ : ∃ K, cnt (wyF wor) n = K + 1 := ⟨cnt (wyF wor) n - 1, by omega⟩
        rw [hK] at g3 g4 hst nex hc c2
        have p512 : 2 ^ K ≤ 512 := (show 2 ^ K ≤ 2 ^ 9 from Nat.pow_le_pow_right (by decide) (by omega))
        have p2K : 2 ≤ 2 ^ K := (show 2 ^ 1 ≤ 2 ^ K from Nat.pow_le_pow_right (by decide) (by omega))
        have hH := no_parts G hst nex
        have tc : TC n K len (stN (wyF wor) n) μ4 := ⟨G, by omega, by omega, hst, g3, g4, F4, hH⟩
        obtain ⟨μ5, w1, w2, w3, w4⟩ := X_home_out N (by omega) N (2 ^ K - 1) μ4 (by omega) (by omega) tc (fun s s1 s2 => by omega)
        have w1' : f_To_workHomeward N μ4 = some μ5 := by
          unfold f_To_workHomeward
          rw [g3, show nI (K + 1) - 1 = nI K from pk_sub (b := 1) (by omega), shl1 (by omega), show nI (2 ^ K) - 1 = nI (2 ^ K - 1) from pk_sub (b := 1) (by omega)]
          exact w1
        rw [w1', bvS]
        have bb := X_best N (by omega) w3 (s := 0) (a := 0) (s0 := 1) (by omega) (by omega) w4 (by omega)
        have t5 := TFr.fld (f := 0) (by decide) μ5 (nI (Tw (HL (fw n len) (stN (wyF wor) n)) (K + 1) (cmp K 0) 0))
        have t6 := t5.trans (TFr.cell (c := 77) (by decide) (by decide) (sI μ5 75 0 (nI (Tw (HL (fw n len) (stN (wyF wor) n)) (K + 1) (cmp K 0) 0))) 0 (nI (stN (wyF wor) n 0)))
        have q76 : (sI μ5 75 0 (nI (Tw (HL (fw n len) (stN (wyF wor) n)) (K + 1) (cmp K 0) 0))).1 76 0 = nI (stN (wyF wor) n 0) := by rw [sI_ne _ _ _ (by decide)]; exact w3.2.2.2.2.2.1 0 (by omega)
        have q75 : (sI (sI μ5 75 0 (nI (Tw (HL (fw n len) (stN (wyF wor) n)) (K + 1) (cmp K 0) 0))) 77 0 (nI (stN (wyF wor) n 0))).1 75 = upd (μ5.1 75) 0 (nI (Tw (HL (fw n len) (stN (wyF wor) n)) (K + 1) (cmp K 0) 0)) := by rw [sI_ne _ _ _ (by decide), sI_at]
        obtain ⟨μ6, y1, y2, y3, y4⟩ := X_follow_loop N (by omega) N 1 0 (sI (sI μ5 75 0 (nI (Tw (HL (fw n len) (stN (wyF wor) n)) (K + 1) (cmp K 0) 0))) 77 0 (nI (stN (wyF wor) n 0))) (w3.keep (by rw [q75, upd_ne _ _ (by decide)]) (by rw [sI_ne _ _ _ (by decide), sI_ne _ _ _ (by decide)]) (by rw [sI_ne _ _ _ (by decide), sI_ne _ _ _ (by decide)])) (fun s s1 s2 x hx hb => by rw [sI_ne _ _ _ (by decide), sI_ne _ _ _ (by decide)]; exact w4 s s1 s2 x hx hb) (by omega) (by omega) (by omega) (by omega) (by show cmp K 0 = 2 ^ (K + 1) - 2; rw [all_cmp]) (fun i hi => by
          rw [show i = 0 by omega, sI_at, upd_eq]
          rfl)
        have fl : f_To_follow N μ5 = some μ6 := by
          unfold f_To_follow
          rw [show f_To_bestBeyond N 0 0 μ5 = some (nI (Tw (HL (fw n len) (stN (wyF wor) n)) (K + 1) (cmp K 0) 0), μ5) from bb, bnS]
          simp only []
          rw [if_pos (by decide), if_pos (by decide), show (0 : Int32).toNatClampNeg = 0 from rfl, q76]
          exact y1
        rw [fl, bvS]
        have tt := (w2.trans t6).trans y2
        refine ⟨μ6, rfl, u4.trans tt.ufr, fun _ => ⟨?_, fun q => by omega, fun _ q => ?_, fun _ _ => ⟨?_, ?_⟩⟩, by rw [tt.2.1]; exact v4, Or.inr ⟨by rw [tt.1 10 (by omega)]; exact F4, by rw [tt.1 6 (by omega)]; exact z4⟩⟩
        · rw [y3, q75, upd_ne _ _ (by decide), hK]
          exact w3.2.2.2.2.1
        · obtain ⟨i, i1, i2⟩ := q
          rw [hK] at i1
          have := nex i i1
          omega
        · rw [y3, q75, upd_eq, hK, all_cmp]
        · rw [hK]
          exact y4
    · rw [if_neg (show ¬ (2 : Int32) ≤ nI (cnt (wyF wor) n) from nI_ge (b := 2) (by omega) (by decide))]
      rw [if_pos (by decide), if_pos (by decide), show (0 : Int32).toNatClampNeg = 0 from rfl]
      have t5 := TFr.fld (f := 0) (by decide) μ4 0
      have t6 := t5.trans (TFr.cell (c := 77) (by decide) (by decide) (sI μ4 75 0 0) 0 ((sI μ4 75 0 0).1 76 0))
      have q75 : (sI (sI μ4 75 0 0) 77 0 ((sI μ4 75 0 0).1 76 0)).1 75 = upd (μ4.1 75) 0 0 := by rw [sI_ne _ _ _ (by decide), sI_at]
      refine ⟨_, rfl, u4.trans t6.ufr, fun _ => ⟨?_, fun _ => ⟨?_, fun k1 => ?_⟩, fun q => by omega, fun q => by omega⟩, by rw [t6.2.1]; exact v4, Or.inr ⟨by rw [t6.1 10 (by omega)]; exact F4, by rw [t6.1 6 (by omega)]; exact z4⟩⟩
      · rw [q75, upd_ne _ _ (by decide)]; exact g3
      · rw [q75, upd_eq]
      · rw [sI_at, upd_eq, sI_ne _ _ _ (by decide)]
        exact g4 0 (by omega)
theorem Rel.ufr {RC : Nat → Mm → Prop} {k : Nat} {μx μx' μm : Mm} (h : Rel RC k μx μm) (f : UFr μx μx') (hC : RC k μx') : Rel RC k μx' μm := by
  obtain ⟨hT, hS, hG, hW, hP, h0, _⟩ := h
  refine ⟨?_, ?_, ?_, RW_cells (μx := μx) (μm := μm) (fun c _ _ => f.1 c (by omega)) rfl (fun c _ _ => rfl) hW, ?_, h0, hC⟩
  · unfold RTx at *
    rw [f.1 1 (by omega), f.1 2 (by omega), f.2.2]
    exact hT
  · unfold RSx at *
    rw [f.1 4 (by omega), f.1 5 (by omega)]
    exact hS
  · unfold RGx at *
    rw [f.2.1 0 (by decide), f.2.1 1 (by decide), f.2.1 2 (by decide), f.2.1 3 (by decide), f.1 7 (by omega), f.1 8 (by omega), f.1 9 (by omega)]
    exact hG
  · unfold RPx at *
    rw [f.1 80 (by omega), f.1 81 (by omega)]
    exact hP
theorem Rel.rounded {k : Nat} (hk : k < 512) {μx μm : Mm} (h : Rel (RCv TKt) k μx μm) (N : Nat) (hN : 2000 ≤ N) {D : Da} (I : DI D) (X : DX D μx) (hc : cnt (wyF D.wor) D.n ≤ 10) : ∃ μx', f_To_refresh N μx = some μx' ∧ Rel (RCv TKt) k μx' μm ∧ TKt D.n D.len D.wor (μx'.1 75) (μx'.1 77) := by
  obtain ⟨v, ev, hv, q⟩ := id h.2.2.2.2.2.2
  obtain ⟨q1, q2, q3, q4, q5⟩ := q (by omega)
  obtain ⟨μ', r1, r2, r3, r4, r5⟩ := To_refresh_eq N hN I.g μx X.g (fun p hp => ⟨I.wor p hp, X.wor p hp⟩) hc (q3 _ _ I.g X.g) (q5 _ _ _ I.g X.g (fun p hp => ⟨I.wor p hp, X.wor p hp⟩))
  have e64 := r2.2.1 4 (by decide)
  refine ⟨μ', r1, h.ufr r2 ⟨v, by rw [e64]; exact ev, hv, fun _ => ⟨by rw [r2.1 11 (by omega)]; exact q1, Or.inr ⟨v, Nat.le_refl _, by rw [r4, ev]⟩, ?_, ?_, ?_⟩⟩, r3⟩
  · rcases r5 with r5 | r5
    · rw [r5]; exact q3
    · exact RCf_of I.g (r2.gx X.g) r5.1
  · intro D' I' X' a b
    rw [r2.1 11 (by omega)] at a b
    rw [e64] at b
    exact CrewOk_congr I'.w8 (fun c h1 h2 => r2.1 c (by omega)) (by rw [r2.1 11 (by omega)]) (q4 D' I' (r2.symm.dx I'.w8 X') a b)
  · intro n' len' wor' G' X' W' _
    have X0 := r2.symm.gx X'
    have W0 : ∀ p, p < n' → wor' p ≤ 9 ∧ μx.1 8 p = nI (wor' p) := fun p hp => by rw [← r2.1 8 (by omega)]; exact W' p hp
    obtain ⟨en, _⟩ := GX_one I.g G' X.g X0
    have hc' : cnt (wyF wor') n' ≤ 10 := by
      rw [en]
      rw [cnt_ext (q := wyF D.wor) D.n (fun p hp => by
        have h1 := (W0 p (by omega)).2.symm.trans (X.wor p hp)
        have h2 := (W0 p (by omega)).1
        have h3 := I.wor p hp
        have := (nI_eq (by omega) (by omega)).mp h1
        unfold wyF
        rw [this])]
      exact hc
    obtain ⟨μ'', s1, _, s3, _, _⟩ := To_refresh_eq N hN G' μx X0 W0 hc' (q3 _ _ G' X0) (q5 _ _ _ G' X0 W0)
    have : μ'' = μ' := Option.some.inj (s1.symm.trans r1)
    rw [← this]
    exact s3
theorem wy_cnt {D : Da} (I : DI D) : cnt (fun i => D.wy.testBit i) 16 = cnt (wyF D.wor) D.n := by
  unfold Da.wy
  exact cnt_bs _ I.g.n16
/-- the length, as both tell it -/
theorem rlen {D : Da} (I : DI D) {K : Nat} (hK : cnt (wyF D.wor) D.n = K + 1) (k1 : 1 ≤ K) (k9 : K ≤ 9) : ((∃ i, i < K + 1 ∧ 1000000 ≤ HL (fw D.n D.len) (stN (wyF D.wor) D.n) 0 i) → 1000000 ≤ Tw (HL (fw D.n D.len) (stN (wyF D.wor) D.n)) (K + 1) (2 ^ (K + 1) - 2) 0) ∧ ((∀ i, i < K + 1 → HL (fw D.n D.len) (stN (wyF D.wor) D.n) 0 i < 1000000) → Tw (HL (fw D.n D.len) (stN (wyF D.wor) D.n)) (K + 1) (2 ^ (K + 1) - 2) 0 < 1000000) := by
  have hst : ∀ i, i < K + 1 → stN (wyF D.wor) D.n i < D.n := fun i hi => (stN_lt D.n i (by omega)).1
  have p1024 : 2 ^ (K + 1) ≤ 1024 := (show 2 ^ (K + 1) ≤ 2 ^ 10 from Nat.pow_le_pow_right (by decide) (by omega))
  have p2 : 2 ≤ 2 ^ (K + 1) := (show 2 ^ 1 ≤ 2 ^ (K + 1) from Nat.pow_le_pow_right (by decide) (by omega))
  refine ⟨fun ⟨i, i1, i2⟩ => ?_, fun h => ?_⟩
  · have i0 : i ≠ 0 := fun q => by
      rw [q] at i2
      have : HL (fw D.n D.len) (stN (wyF D.wor) D.n) 0 0 = 0 := fw_self I.g (hst 0 (by omega))
      omega
    obtain ⟨j, rfl⟩ : ∃ j, i = j + 1 := ⟨i - 1, by omega⟩
    have := Tw_tri (H := HL (fw D.n D.len) (stN (wyF D.wor) D.n)) (k := K + 1) (fun a b c ha hb hc => fw_tri I.g (hst a ha) (hst b hb) (hst c hc)) (2 ^ (K + 1) - 2) (2 ^ (K + 1) - 2) 0 (j + 1) (Nat.le_refl _) (by omega) i1 (by rw [all_cmp, cmp_tb (Nat.two_pow_pos K), decide_eq_true (show j < K by omega), Nat.zero_testBit]; rfl)
    omega
  · have := Tw_small (no_parts I.g hst h) (2 ^ (K + 1) - 2) (2 ^ (K + 1) - 2) 0 (Nat.le_refl _) (by omega) (by omega)
    omega
theorem M_roundLength_eq (N : Nat) {k : Nat} (k10 : k ≤ 10) (T : Nat → Nat → Nat) (μ : Mm) (e46 : μ.1 0 46 = nI k) (tab : ∀ t a, a < k → t < 2 ^ k → μ.1 25 (10 * t + a) = nI (T t a)) : f_M_roundLength N μ = some (nI (if 2 ≤ k then T (2 ^ k - 2) 0 else 0), μ) := by
  have p1024 : 2 ^ k ≤ 1024 := (show 2 ^ k ≤ 2 ^ 10 from Nat.pow_le_pow_right (by decide) k10)
  unfold f_M_roundLength
  rw [e46]
  by_cases c : 2 ≤ k
  · have p2 : 2 ≤ 2 ^ k := (show 2 ^ 1 ≤ 2 ^ k from Nat.pow_le_pow_right (by decide) (by omega))
    rw [if_pos (show (2 : Int32) ≤ nI k from (nIc (a := 2) (by decide) (by omega)).mpr c), if_pos c, shl1 (by omega), show nI (2 ^ k) - 2 = nI (2 ^ k - 2) from pk_sub (b := 2) (by omega)]
    have := M_restOf_eq N (s := 2 ^ k - 2) (a := 0) (by omega) (by decide) μ
    rw [show nI 0 = (0 : Int32) from rfl] at this
    rw [this, bnS, tab _ 0 (by omega) (by omega)]
  · rw [if_neg (show ¬ (2 : Int32) ≤ nI k from nI_ge (b := 2) (by omega) (by decide)), if_neg c]; rfl
theorem sm_round (N : Nat) (hN : 2000 ≤ N) : Sm_round (Rel (RCv TKt)) N := by
  have hR := RCv_ok TKt
  intro k hk μx μm h
  obtain ⟨D, I, X, M⟩ := h.data
  have n16 := I.g.n16
  have w16 := wy_lt I
  have cl := cnt_le (wyF D.wor) D.n
  unfold f_W_round f_M_round
  rw [Gr_worthy_eq N (by omega) I μx X, bnS, bitCount_eq N w16, bnS, wy_cnt I]
  rcases M_layRound_eq N hN I μm M with ⟨c, μ2, r1, r2⟩ | ⟨c, μ2, r1, r2, r3, r4, r5, r6⟩
  · rw [if_neg (show ¬ nI (cnt (wyF D.wor) D.n) ≤ (10 : Int32) from fun q => absurd ((nIc (b := 10) (by omega) (by decide)).mp q) (by omega)), r1, bnS, if_pos rfl]
    exact ⟨_, _, _, rfl, rfl, (h.mfr r2).next hR⟩
  · rw [if_pos (show nI (cnt (wyF D.wor) D.n) ≤ (10 : Int32) from (nIc (b := 10) (by omega) (by decide)).mpr c), r1, bnS, if_neg (show ¬ (1 : Int32) = 0 by decide)]
    obtain ⟨μ', s1, s2, s3⟩ := h.rounded hk N hN I X c
    rw [s1, bvS, M_roundLength_eq N c (fun t a => Tw (HL (fw D.n D.len) (stN (wyF D.wor) D.n)) (cnt (wyF D.wor) D.n) t a) μ2 r3 r6, bnS]
    obtain ⟨t1, t2, t3, t4⟩ := s3 c
    have hh := (s2.mfr r2).next hR
    by_cases c2 : 2 ≤ cnt (wyF D.wor) D.n
    · obtain ⟨K, hK⟩ : ∃ K, cnt (wyF D.wor) D.n = K + 1 := ⟨cnt (wyF D.wor) D.n - 1, by omega⟩
      obtain ⟨l1, l2⟩ := rlen I hK (by omega) (by omega)
      have tw := Tw_le (H := HL (fw D.n D.len) (stN (wyF D.wor) D.n)) (k := K + 1) (fun a b ha hb => fw_le I.g (stN_lt D.n a (by omega)).1 (stN_lt D.n b (by omega)).1) (2 ^ (K + 1) - 2) (last := 0) (by omega)
      rw [if_pos c2, hK]
      rw [hK] at t3 t4
      rcases Classical.em (∃ i, i < K + 1 ∧ 1000000 ≤ HL (fw D.n D.len) (stN (wyF D.wor) D.n) 0 i) with q | q
      · have := l1 q
        rw [if_neg (show ¬ nI (Tw (HL (fw D.n D.len) (stN (wyF D.wor) D.n)) (K + 1) (2 ^ (K + 1) - 2) 0) < (1000000 : Int32) from fun z => absurd ((nIl (b := 1000000) (by omega) (by decide)).mp z) (by omega)), t3 (by omega) q]
        exact ⟨_, _, _, rfl, rfl, hh⟩
      · have q' : ∀ i, i < K + 1 → HL (fw D.n D.len) (stN (wyF D.wor) D.n) 0 i < 1000000 := fun i hi => by
          rcases Nat.lt_or_ge (HL (fw D.n D.len) (stN (wyF D.wor) D.n) 0 i) 1000000 with z | z
          · exact z
          · exact absurd ⟨i, hi, z⟩ q
        have := l2 q'
        rw [if_pos (show nI (Tw (HL (fw D.n D.len) (stN (wyF D.wor) D.n)) (K + 1) (2 ^ (K + 1) - 2) 0) < (1000000 : Int32) from (nIl (b := 1000000) (by omega) (by decide)).mpr this), (t4 (by omega) q').1]
        exact ⟨_, _, _, rfl, rfl, hh⟩
    · rw [if_neg c2, if_pos (by decide), (t2 (by omega)).1]
      exact ⟨_, _, _, rfl, rfl, hh⟩
/-- the reference goes along the round -/
theorem M_at_in (N : Nat) {n K : Nat} {st : Nat → Nat} {F : Nat → Nat → Nat} (n16 : n ≤ 16) (k10 : K + 1 ≤ 10) (hst : ∀ i, i < K + 1 → st i < n) (hH : ∀ a b, a < K + 1 → b < K + 1 → HL F st a b ≤ 480) {s last : Nat} (hs : s < 2 ^ (K + 1)) (hs0 : s ≠ 0) (hl : last < K + 1) (k50 : Int32 → Int32 → Int32 → Int32 → Mm → Option (Int32 × Mm)) (v1 v4 : Int32) (μ : Mm) (e24 : ∀ i, i < K + 1 → μ.1 24 i = nI (st i)) (e9 : FA n F (μ.1 9)) (tab : ∀ t a, a < K + 1 → t < 2 ^ (K + 1) → μ.1 25 (10 * t + a) = nI (Tw (HL F st) (K + 1) t a)) : ∀ (m x : Nat), x ≤ nxS (HL F st) (K + 1) s last → nxS (HL F st) (K + 1) s last < m + x → f_M_roundAt_L59 N k50 m v1 (nI s) (nI last) v4 (nI x) μ = f_M_roundAt_B105 N k50 v1 (nI s) v4 (nI (nxS (HL F st) (K + 1) s last)) μ := by
  have p1024 : 2 ^ (K + 1) ≤ 1024 := (show 2 ^ (K + 1) ≤ 2 ^ 10 from Nat.pow_le_pow_right (by decide) k10)
  obtain ⟨n1, n2, n3, n4⟩ := nxS_spec hH k10 hs hs0 hl
  have HB : ∀ a b, a < K + 1 → b < K + 1 → HL F st a b ≤ 1000000 := fun a b x y => by have := hH a b x y; omega
  intro m
  induction m with
  | zero => intro x h1 h2; omega
  | succ m ih =>
    intro x h1 h2
    have hx : x < K + 1 := by omega
    rw [f_M_roundAt_L59, bitN (by omega) (by omega)]
    unfold f_M_roundAt_B99
    simp only [nI_1, nI_add]
    cases b : s.testBit x with
    | false =>
      rw [if_pos (by decide)]
      refine ih (x + 1) ?_ (by omega)
      rcases Nat.lt_or_ge x (nxS (HL F st) (K + 1) s last) with q | q
      · exact q
      · rw [show nxS (HL F st) (K + 1) s last = x by omega, b] at n2
        cases n2
    | true =>
      have al := anN_less b
      have h3 := HB last x hl hx
      have h4 := Tw_le HB (anN s (2 ^ x)) hx
      have h5 := Tw_le HB s hl
      rw [if_neg (by decide), M_hop_eq N n16 k10 hst hl hx μ e24 e9, bnS, clr_bit (by omega) (by omega), M_restOf_eq N (by omega) (by omega), bnS, M_restOf_eq N (by omega) (by omega), bnS, tab _ x hx (by omega), tab s last hl hs, nI_add, show F (st last) (st x) = HL F st last x from rfl]
      by_cases q : HL F st last x + Tw (HL F st) (K + 1) (anN s (2 ^ x)) x = Tw (HL F st) (K + 1) s last
      · have e : x = nxS (HL F st) (K + 1) s last := by
          rcases Nat.lt_or_ge x (nxS (HL F st) (K + 1) s last) with z | z
          · exact absurd ⟨b, q⟩ (n4 x z)
          · omega
        rw [if_pos (by rw [q]), e]
      · rw [if_neg (fun z => q ((nI_eq (by omega) (by omega)).mp z))]
        refine ih (x + 1) ?_ (by omega)
        rcases Nat.lt_or_ge x (nxS (HL F st) (K + 1) s last) with z | z
        · exact z
        · rw [show nxS (HL F st) (K + 1) s last = x by omega] at n3
          exact absurd n3 q
theorem M_at_out (N : Nat) (hN : 20 ≤ N) {n K : Nat} {st : Nat → Nat} {F : Nat → Nat → Nat} (n16 : n ≤ 16) (k10 : K + 1 ≤ 10) (hst : ∀ i, i < K + 1 → st i < n) (hH : ∀ a b, a < K + 1 → b < K + 1 → HL F st a b ≤ 480) (μ : Mm) (e24 : ∀ i, i < K + 1 → μ.1 24 i = nI (st i)) (e9 : FA n F (μ.1 9)) (tab : ∀ t a, a < K + 1 → t < 2 ^ (K + 1) → μ.1 25 (10 * t + a) = nI (Tw (HL F st) (K + 1) t a)) {i : Nat} (hi : i < K + 1) : ∀ (m t : Nat), t ≤ i → i < m + t → f_M_roundAt_L50 N m (nI i) (nI (sqS (HL F st) (K + 1) t).1) (nI (sqS (HL F st) (K + 1) t).2) (nI t) μ = some (nI (st (sqS (HL F st) (K + 1) i).2), μ) := by
  have p1024 : 2 ^ (K + 1) ≤ 1024 := (show 2 ^ (K + 1) ≤ 2 ^ 10 from Nat.pow_le_pow_right (by decide) k10)
  intro m
  induction m with
  | zero => intro t h1 h2; omega
  | succ m ih =>
    intro t h1 h2
    have inv := sqS_inv hH k10 t (by omega)
    rw [f_M_roundAt_L50]
    by_cases c : t = i
    · subst c
      rw [if_pos (nI_le (Nat.le_refl _) (by omega))]
      unfold f_M_roundAt_B123
      rw [if_pos (ixb_t (show (sqS (HL F st) (K + 1) t).2 < 10 by omega) (by decide)), nI_clamp (show (sqS (HL F st) (K + 1) t).2 < 2 ^ 31 by omega), e24 _ inv.2.1]
    · have ne : (sqS (HL F st) (K + 1) t).1 ≠ 0 := fun q => by
        rw [q] at inv
        have := inv.2.2.2
        rw [cnt_none (K + 1) (fun i _ => Nat.zero_testBit i)] at this
        omega
      obtain ⟨n1, n2, n3, n4⟩ := nxS_spec hH k10 inv.1 ne inv.2.1
      have lp := M_at_in N n16 k10 hst hH inv.1 ne inv.2.1 (f_M_roundAt_L50 N m) (nI i) (nI t) μ e24 e9 tab N 0 (by omega) (by omega)
      rw [show nI 0 = (0 : Int32) from rfl] at lp
      rw [if_neg (nI_ge (by omega) (by omega)), lp]
      unfold f_M_roundAt_B105
      rw [clr_bit (by omega) (by omega)]
      simp only [nI_1, nI_add]
      exact ih (t + 1) (by omega) (by omega)
theorem sm_roundAt (N : Nat) (hN : 2000 ≤ N) : Sm_roundAt (Rel (RCv TKt)) N := by
  have hR := RCv_ok TKt
  intro k hk a1 μx μm h
  obtain ⟨D, I, X, M⟩ := h.data
  have n16 := I.g.n16
  have w16 := wy_lt I
  have cl := cnt_le (wyF D.wor) D.n
  unfold f_W_roundAt f_M_roundAt
  rw [Gr_worthy_eq N (by omega) I μx X, bnS, bitCount_eq N w16, bnS, wy_cnt I]
  rcases M_layRound_eq N hN I μm M with ⟨c, μ2, r1, r2⟩ | ⟨c, μ2, r1, r2, r3, r4, r5, r6⟩
  · rw [if_neg (show ¬ nI (cnt (wyF D.wor) D.n) ≤ (10 : Int32) from fun q => absurd ((nIc (b := 10) (by omega) (by decide)).mp q) (by omega)), r1, bnS, if_pos rfl]
    exact ⟨_, _, _, rfl, rfl, (h.mfr r2).next hR⟩
  · rw [if_pos (show nI (cnt (wyF D.wor) D.n) ≤ (10 : Int32) from (nIc (b := 10) (by omega) (by decide)).mpr c), r1, bnS, if_neg (show ¬ (1 : Int32) = 0 by decide)]
    obtain ⟨μ', s1, s2, s3⟩ := h.rounded hk N hN I X c
    obtain ⟨t1, t2, t3, t4⟩ := s3 c
    have hh := (s2.mfr r2).next hR
    rw [s1, bvS, f_M_in_eq, bnS, if01, r3]
    have k1 : (nI (cnt (wyF D.wor) D.n) - 1).toInt = (cnt (wyF D.wor) D.n : Int) - 1 := by
      rcases Nat.eq_zero_or_pos (cnt (wyF D.wor) D.n) with q | q
      · rw [q]; decide
      · rw [show nI (cnt (wyF D.wor) D.n) - 1 = nI (cnt (wyF D.wor) D.n - 1) from pk_sub (b := 1) (by omega), tI (by omega)]
        omega
    rw [k1, show (0 : Int32).toInt = 0 from rfl]
    unfold f_To_stopAt f_To_stopAt_B21
    rw [t1]
    by_cases ci : 0 ≤ a1.toInt ∧ a1.toInt ≤ (cnt (wyF D.wor) D.n : Int) - 1
    · obtain ⟨i, hi, rfl⟩ := row_of (x := a1) (cnt (wyF D.wor) D.n) ⟨ci.1, by omega⟩
      rw [if_pos ci, if_neg (show ¬ nI i < (0 : Int32) by rw [lt_I, tI (by omega), show (0 : Int32).toInt = 0 from rfl]; omega), if_neg (nI_ge hi (by omega)), M_roundLength_eq N c (fun t a => Tw (HL (fw D.n D.len) (stN (wyF D.wor) D.n)) (cnt (wyF D.wor) D.n) t a) μ2 r3 r6, bnS, if_pos (ixb_t (show i < 10 by omega) (by decide)), nI_clamp (show i < 2 ^ 31 by omega)]
      by_cases c2 : 2 ≤ cnt (wyF D.wor) D.n
      · obtain ⟨K, hK⟩ : ∃ K, cnt (wyF D.wor) D.n = K + 1 := ⟨cnt (wyF D.wor) D.n - 1, by omega⟩
        obtain ⟨l1, l2⟩ := rlen I hK (by omega) (by omega)
        have hst : ∀ i, i < K + 1 → stN (wyF D.wor) D.n i < D.n := fun i hi => (stN_lt D.n i (by omega)).1
        have tw := Tw_le (H := HL (fw D.n D.len) (stN (wyF D.wor) D.n)) (k := K + 1) (fun a b ha hb => fw_le I.g (hst a ha) (hst b hb)) (2 ^ (K + 1) - 2) (last := 0) (by omega)
        have p1024 : 2 ^ (K + 1) ≤ 1024 := (show 2 ^ (K + 1) ≤ 2 ^ 10 from Nat.pow_le_pow_right (by decide) (by omega))
        have p2 : 2 ≤ 2 ^ (K + 1) := (show 2 ^ 1 ≤ 2 ^ (K + 1) from Nat.pow_le_pow_right (by decide) (by omega))
        rw [if_pos c2, hK]
        rw [hK] at t3 t4 hi r3 r4 r6
        rcases Classical.em (∃ i, i < K + 1 ∧ 1000000 ≤ HL (fw D.n D.len) (stN (wyF D.wor) D.n) 0 i) with q | q
        · have := l1 q
          rw [if_neg (show ¬ nI (Tw (HL (fw D.n D.len) (stN (wyF D.wor) D.n)) (K + 1) (2 ^ (K + 1) - 2) 0) < (1000000 : Int32) from fun z => absurd ((nIl (b := 1000000) (by omega) (by decide)).mp z) (by omega)), if_pos (t3 (by omega) q)]
          exact ⟨_, _, _, rfl, rfl, hh⟩
        · have q' : ∀ i, i < K + 1 → HL (fw D.n D.len) (stN (wyF D.wor) D.n) 0 i < 1000000 := fun i hi => by
            rcases Nat.lt_or_ge (HL (fw D.n D.len) (stN (wyF D.wor) D.n) 0 i) 1000000 with z | z
            · exact z
            · exact absurd ⟨i, hi, z⟩ q
          have hl := l2 q'
          have hH := no_parts I.g hst q'
          obtain ⟨u1, u2⟩ := t4 (by omega) q'
          have lp := M_at_out N (by omega) n16 (by omega) hst hH μ2 r4 r5 r6 hi N 0 (by omega) (by omega)
          rw [if_pos (show nI (Tw (HL (fw D.n D.len) (stN (wyF D.wor) D.n)) (K + 1) (2 ^ (K + 1) - 2) 0) < (1000000 : Int32) from (nIl (b := 1000000) (by omega) (by decide)).mpr hl), u1, if_neg (show ¬ nI (Tw (HL (fw D.n D.len) (stN (wyF D.wor) D.n)) (K + 1) (2 ^ (K + 1) - 2) 0) = (-9 : Int32) from fun z => by
            rw [eq_I, tI (by omega), show (-9 : Int32).toInt = -9 from rfl] at z
            omega), u2 i hi, r3, shl1 (by omega), show nI (2 ^ (K + 1)) - 2 = nI (2 ^ (K + 1) - 2) from pk_sub (b := 2) (by omega)]
          simp only [bnS]
          rw [show f_M_roundAt_L50 N N (nI i) (nI (2 ^ (K + 1) - 2)) 0 0 μ2 = some (nI (stN (wyF D.wor) D.n (sqS (HL (fw D.n D.len) (stN (wyF D.wor) D.n)) (K + 1) i).2), μ2) from lp]
          exact ⟨_, _, _, rfl, rfl, hh⟩
      · have i0 : i = 0 := by omega
        have k1' : cnt (wyF D.wor) D.n = 1 := by omega
        obtain ⟨u1, u2⟩ := t2 (by omega)
        rw [if_neg c2, u1, if_neg (show ¬ (0 : Int32) = -9 by decide), if_pos (show nI 0 < (1000000 : Int32) by decide), i0, u2 k1', r3, k1']
        simp only [bnS]
        obtain ⟨m, hm⟩ : ∃ m, N = m + 1 := ⟨N - 1, by omega⟩
        have fin : ∀ v, f_M_roundAt_L50 N N (nI 0) v 0 0 μ2 = some (nI (stN (wyF D.wor) D.n 0), μ2) := fun v => by
          conv => lhs; arg 2; rw [hm]
          rw [f_M_roundAt_L50, if_pos (by decide)]
          unfold f_M_roundAt_B123
          rw [if_pos (by decide), show (0 : Int32).toNatClampNeg = 0 from rfl, r4 0 (by omega)]
        rw [fin]
        exact ⟨_, _, _, rfl, rfl, hh⟩
    · rw [if_neg ci]
      by_cases z : a1 < 0
      · rw [if_pos z]
        exact ⟨_, _, _, rfl, rfl, hh⟩
      · have z' : ¬ a1.toInt < 0 := fun q => z (lt_I.mpr q)
        rw [if_neg z, if_pos (show nI (cnt (wyF D.wor) D.n) ≤ a1 by rw [le_I, tI (by omega)]; omega)]
        exact ⟨_, _, _, rfl, rfl, hh⟩
