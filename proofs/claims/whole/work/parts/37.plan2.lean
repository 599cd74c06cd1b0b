/-! PURE 17: plan, its end -/
theorem aw_eq {f g : Nat → Int32} {b s : Nat} {lo hi : Int32} (h : ∀ i, i < s → f (b + i) = g (b + i)) : aw f b s lo hi 0 ↔ aw g b s lo hi 0 := by
  unfold aw
  exact ⟨fun q j x y => by rw [← h j x]; exact q j x y, fun q j x y => by rw [h j x]; exact q j x y⟩
theorem tw_eq {f g : Nat → Int32} {b s : Nat} (h : ∀ i, i < s → f (b + i) = g (b + i)) : tw f b s 0 ↔ tw g b s 0 := by
  unfold tw
  exact ⟨fun ⟨j, x, y, z⟩ => ⟨j, x, y, by rw [← h j x, ← h _ (nx_lt (by omega))]; exact z⟩, fun ⟨j, x, y, z⟩ => ⟨j, x, y, by rw [h j x, h _ (nx_lt (by omega))]; exact z⟩⟩
theorem plan_core {RC : Nat → Mm → Prop} (hR : RCok RC) {N : Nat} (hN : 100 ≤ N) {k w j r q gv : Nat} {qi a4 : Int32} {μx μm : Mm} (h : Rel RC k μx μm) (ew : μm.1 0 15 = nI w) (hw : w ≤ 8) (hj : j < w) (hr : r < 8) (hg : (qi = -9 ∧ gv = 0) ∨ (qi = nI q ∧ q < 8)) (hgv : gv ≤ 40) (hgs : qi = nI q → μm.1 2 q = nI gv) (h4 : 0 ≤ a4.toInt ∧ a4.toInt < 14400) (hs0 : (0 : Int32) ≤ μm.1 2 r) : ∃ o μx' μm', f_W_plan_B105 N (nI j) (nI r) qi a4 μx = some (o, μx') ∧ f_M_plan_B81 N (nI j) (nI r) qi a4 μm = some (o, μm') ∧ Rel RC (k + 1) μx' μm' := by
  obtain ⟨S1, S2, S3⟩ := id h.2.1
  obtain ⟨sz, _, s40, sb⟩ := S1 r hr
  obtain ⟨h1, w2, hw2, ew2, hall, _⟩ := id h.2.2.2.1
  have hw22 : w2 = w := (nI_eq (by omega) (by omega)).mp (ew2.symm.trans ew)
  subst hw22
  have hj8 : j < 8 := by omega
  have hwk := WK_lt hj8
  have R1 : RW1 (μx.1 (WK j)) (μx.1 (WK j + 1)) (μx.1 (WK j + 2)) (μm.1 10) (μm.1 11) (μm.1 12) (μm.1 13) (μm.1 14) (μm.1 15) (μm.1 16) (μm.1 17) (μm.1 20) (μm.1 18) (μm.1 19) j := hall j hj
  have ek : μx.1 (WK j) 0 = μm.1 10 j := R1.1
  obtain ⟨s, hs, es⟩ := size_nI hs0 s40
  rw [es, tI (by omega)] at sb
  have ex : μx.1 5 r = nI s := sz.trans es
  unfold f_W_plan_B105 f_M_plan_B81 f_W_plan_B152 f_W_plan_B186
  rw [Cr_get_eq N hj8]
  simp only [bnS, if_pos hj8, ek, if_pos (ixb_t hj8 (show 8 < 2 ^ 31 by decide)), nI_clamp (show j < 2 ^ 31 by omega), fd3, md3, if_pos (ixb_t hr (show 8 < 2 ^ 31 by decide)), nI_clamp (show r < 2 ^ 31 by omega), Sf_sizeOf_eq N hr, ex, es, f_M_in_eq, if01, fd5, md5]
  by_cases c3 : μm.1 10 j = 3
  · rw [if_pos c3, if_pos c3]
    exact ⟨_, _, _, rfl, rfl, h.found hR 3⟩
  · rw [if_neg c3, if_neg c3]
    have ts := tI (show s < 2 ^ 31 by omega)
    by_cases cs : 2 ≤ s ∧ s ≤ 24
    · rw [if_neg (show ¬ nI s < 2 by rw [lt_I, ts, show (2 : Int32).toInt = 2 from rfl]; omega), if_pos (show nI s ≤ 24 by rw [le_I, ts, show (24 : Int32).toInt = 24 from rfl]; omega), if_pos (show (2 : Int32).toInt ≤ (nI s).toInt ∧ (nI s).toInt ≤ (24 : Int32).toInt by rw [ts, show (2 : Int32).toInt = 2 from rfl, show (24 : Int32).toInt = 24 from rfl]; omega)]
      unfold f_Sf_allWithin f_Sf_hasTwins
      obtain ⟨A1, A2⟩ : (aw (μx.1 4) (40 * r) s 0 15 0 → f_Sf_allWithin_L3 N N (nI r) 0 15 0 μx = some (1, μx)) ∧ (¬ aw (μx.1 4) (40 * r) s 0 15 0 → f_Sf_allWithin_L3 N N (nI r) 0 15 0 μx = some (0, μx)) := Sf_all_loop N r s hr hs 0 15 μx ex N 0 (by omega) (by omega)
      obtain ⟨T1, T2⟩ : (tw (μx.1 4) (40 * r) s 0 → f_Sf_hasTwins_L2 N N (nI r) 0 μx = some (1, μx)) ∧ (¬ tw (μx.1 4) (40 * r) s 0 → f_Sf_hasTwins_L2 N N (nI r) 0 μx = some (0, μx)) := Sf_tw_loop N r s hr hs μx ex N 0 (by omega) (by omega)
      obtain ⟨P1, P2⟩ : (((1 : Int32) = 1 ∧ aw (μm.1 3) (40 * r) s 0 15 0 ∧ ¬ tw (μm.1 3) (40 * r) s 0) → f_M_plan_L128 N N (nI j) (nI r) qi a4 (nI s) 1 0 μm = f_M_plan_B191 N (nI j) (nI r) qi a4 (nI s) 1 μm) ∧ (¬ ((1 : Int32) = 1 ∧ aw (μm.1 3) (40 * r) s 0 15 0 ∧ ¬ tw (μm.1 3) (40 * r) s 0) → f_M_plan_L128 N N (nI j) (nI r) qi a4 (nI s) 1 0 μm = f_M_plan_B191 N (nI j) (nI r) qi a4 (nI s) 0 μm) := M_pc_loop N r s (nI j) qi a4 hr cs.2 cs.1 μm N 0 1 (Or.inr rfl) (by omega) (by omega)
      have sbn : ∀ i, i < s → μx.1 4 (40 * r + i) = μm.1 3 (40 * r + i) := fun i hi => sb i (by omega)
      have qa := aw_eq (lo := 0) (hi := 15) sbn
      have qt := tw_eq sbn
      have M0 : f_M_plan_B191 N (nI j) (nI r) qi a4 (nI s) 0 μm = some (-3, mf μm 2) := by
        unfold f_M_plan_B191
        rw [if_pos rfl, md2]
        rfl
      by_cases ca : aw (μm.1 3) (40 * r) s 0 15 0
      · rw [A1 (qa.mpr ca)]
        simp only [bnS, if_neg (show ¬ (1 : Int32) = 0 by decide)]
        by_cases ct : tw (μm.1 3) (40 * r) s 0
        · rw [T1 (qt.mpr ct), P2 (fun z => z.2.2 ct), M0]
          simp only [bnS, if_neg (show ¬ (1 : Int32) = 0 by decide), fd2]
          exact ⟨_, _, _, rfl, rfl, h.found hR 2⟩
        · rw [T2 (fun z => ct (qt.mp z)), P1 ⟨rfl, ca, ct⟩]
          simp only [bnS, if_pos trivial, Cr_changing_eq N hj8, if_pos hj8]
          unfold f_M_plan_B191
          rw [if_neg (show ¬ (1 : Int32) = 0 by decide)]
          obtain ⟨μm', m1, m2, m3, m4, m5, m6, m7⟩ : ∃ μ', f_M_plan_L205 N N (nI j) (nI r) qi a4 (nI s) 0 μm = some (nI s, μ') ∧ (∀ c, c ≠ 17 → c ≠ 18 → c ≠ 19 → c ≠ 20 → μ'.1 c = μm.1 c) ∧ μ'.2 = μm.2 ∧ μ'.1 17 = upd (μm.1 17) j (nI s) ∧ μ'.1 20 = upd (μm.1 20) j a4 ∧ (∀ x, x < 24 * j + 0 ∨ 24 * j + s ≤ x → μ'.1 18 x = μm.1 18 x ∧ μ'.1 19 x = μm.1 19 x) ∧ ∀ x, 0 ≤ x → x < s → μ'.1 18 (24 * j + x) = μm.1 3 (40 * r + x) ∧ μ'.1 19 (24 * j + x) = rv (μm.1 3) q gv x := M_pl_loop N r s j q gv qi a4 hr cs.2 hj8 hg hgv N 0 μm hgs (by omega) (by omega)
          have hx3 : ∃ μx', f_W_writePlan N j (nI r) qi a4 (sI μx 11 4 1) = some μx' ∧ (∀ c, c ≠ 11 → c ≠ WK j → c ≠ WK j + 1 → c ≠ WK j + 2 → μx'.1 c = μx.1 c) ∧ μx'.2 = μx.2 ∧ μx'.1 11 = upd (μx.1 11) 4 1 ∧ μx'.1 (WK j) = upd (upd (μx.1 (WK j)) 8 (nI s)) 7 a4 ∧ ∀ x, x < s → μx'.1 (WK j + 1) x = μx.1 4 (40 * r + x) ∧ μx'.1 (WK j + 2) x = rv (μx.1 4) q gv x := by
            unfold f_W_writePlan f_W_writePlan_B41
            simp only [Sf_sizeOf_eq N hr, bnS, Jmin, sI1, if_neg (show ¬ 5 = 11 by decide), ex, ts, show (24 : Int32).toInt = 24 from rfl, if_pos (show (s : Int) ≤ 24 by omega)]
            have L : ∀ gi, gi = nI gv → ∃ μx', f_W_writePlan_L46 N N j (nI r) qi gi 0 (sI (sI (sI μx 11 4 1) (WK j) 8 (nI s)) (WK j) 7 a4) = some μx' ∧ (∀ c, c ≠ 11 → c ≠ WK j → c ≠ WK j + 1 → c ≠ WK j + 2 → μx'.1 c = μx.1 c) ∧ μx'.2 = μx.2 ∧ μx'.1 11 = upd (μx.1 11) 4 1 ∧ μx'.1 (WK j) = upd (upd (μx.1 (WK j)) 8 (nI s)) 7 a4 ∧ ∀ x, x < s → μx'.1 (WK j + 1) x = μx.1 4 (40 * r + x) ∧ μx'.1 (WK j + 2) x = rv (μx.1 4) q gv x := by
              intro gi hgi
              subst hgi
              have f1 : ∀ c, c ≠ 11 → c ≠ WK j → (sI (sI (sI μx 11 4 1) (WK j) 8 (nI s)) (WK j) 7 a4).1 c = μx.1 c := fun c q1 q2 => by
                rw [sI1, if_neg q2, sI1, if_neg q2, sI1, if_neg q1]
              have g1 : (sI (sI (sI μx 11 4 1) (WK j) 8 (nI s)) (WK j) 7 a4).1 (WK j) = upd (upd (μx.1 (WK j)) 8 (nI s)) 7 a4 := by
                rw [sI1, if_pos rfl, sI1, if_pos rfl, sI1, if_neg (by omega)]
              have g2 : (sI (sI (sI μx 11 4 1) (WK j) 8 (nI s)) (WK j) 7 a4).1 11 = upd (μx.1 11) 4 1 := by
                rw [sI1, if_neg (by omega), sI1, if_neg (by omega), sI1, if_pos rfl]
              obtain ⟨μ', l1, l2, l3, l4, l5⟩ := W_wp_loop N r s j q gv qi hr cs.2 hj8 (by
                rcases hg with z | z
                · exact Or.inl z.2
                · exact Or.inr z) hgv N 0 (sI (sI (sI μx 11 4 1) (WK j) 8 (nI s)) (WK j) 7 a4) (by rw [g1]; rfl) (by omega) (by omega)
              refine ⟨μ', l1, fun c q0 q1 q2 q3 => (l2 c q2 q3).trans (f1 c q0 q1), l3, (l2 11 (by omega) (by omega)).trans g2, (l2 (WK j) (by omega) (by omega)).trans g1, fun x hx => ?_⟩
              obtain ⟨a, b⟩ := l5 x (by omega) hx
              rw [a, b, f1 4 (by omega) (by omega)]
              exact ⟨rfl, rfl⟩
            rcases hg with ⟨z1, z2⟩ | ⟨z1, z2⟩
            · rw [if_pos z1]
              exact L 0 (by rw [z2]; rfl)
            · have n9 : qi ≠ -9 := fun z => by
                rw [z1] at z
                have := congrArg Int32.toInt z
                rw [tI (by omega), show (-9 : Int32).toInt = -9 from rfl] at this
                omega
              rw [if_neg n9, z1, Sf_sizeOf_eq N z2]
              simp only [bnS, sI1, if_neg (show ¬ 5 = 11 by decide), if_neg (show ¬ 5 = WK j by omega)]
              rw [← z1]
              exact L _ ((S1 q z2).1.trans (hgs z1))
          obtain ⟨μx', x1, x2, x3, x4, x5, x6⟩ := hx3
          rw [x1, show f_M_plan_L205 N N (nI j) (nI r) qi a4 (nI s) 0 μm = some (nI s, μm') from m1]
          refine ⟨nI s, μx', μm', rfl, rfl, ?_⟩
          refine h.walk hR (fun c hc => x2 c (by omega) (by omega) (by omega) (by omega)) x3 (fun c q0 hc => m2 c (by omega) (by omega) (by omega) (by omega)) (fun f _ => by rw [m2 0 (by decide) (by decide) (by decide) (by decide)]) m3 (RW_one hw hj h.2.2.2.1 ew (by rw [m2 0 (by decide) (by decide) (by decide) (by decide)]; exact ew) (by rw [x4]; rfl) (fun i hi hne d hd => ?_) (fun c q1 q2 i hne => ?_) (fun i hne x hx => ?_) (fun R => ?_)) (by rw [x4]; rfl) (by rw [x4]; rfl)
          · have hwi := WK_lt hi
            have e0 := WK_ne (d := d) hne (by omega)
            refine x2 _ (by omega) e0 ?_ ?_
            · unfold WK at e0 ⊢; omega
            · unfold WK at e0 ⊢; omega
          · rcases Nat.lt_or_ge c 17 with z | z
            · rw [m2 c (by omega) (by omega) (by omega) (by omega)]
            · rcases (show c = 17 ∨ c = 20 by omega) with rfl | rfl
              · rw [m4]; exact upd_ne _ _ hne
              · rw [m5]; exact upd_ne _ _ hne
          · refine m6 _ ?_
            omega
          · obtain ⟨a1, a2', a3, a4', a5, a6, a7, a8, a9, b1, b2, b3, b4, b5, b6, b7, b8, b9, d1, d2, d3⟩ := R
            have u17 : μm'.1 17 j = nI s := by rw [m4]; exact upd_eq _ _ _
            have u20 : μm'.1 20 j = a4 := by rw [m5]; exact upd_eq _ _ _
            have n17 : nI s ≠ 0 := nI_ne0 (by omega) (by omega)
            unfold RW1
            rw [m2 10 (by decide) (by decide) (by decide) (by decide), m2 11 (by decide) (by decide) (by decide) (by decide), m2 12 (by decide) (by decide) (by decide) (by decide), m2 13 (by decide) (by decide) (by decide) (by decide), m2 14 (by decide) (by decide) (by decide) (by decide), m2 15 (by decide) (by decide) (by decide) (by decide), m2 16 (by decide) (by decide) (by decide) (by decide), u17, u20, x5]
            refine ⟨a1, a2', a3, a4', a5, a6, a7, rfl, fun _ => rfl, fun i hi => ?_, b2, b3, b4, b5, b6, b7, Or.inr (by rw [ts]; omega), fun z => absurd z n17, fun _ => h4, fun z => absurd z c3, d3⟩
            rw [ts] at hi
            have his : i < s := by omega
            obtain ⟨p1, p2⟩ := x6 i his
            obtain ⟨p3, p4⟩ := m7 i (by omega) his
            have erv : rv (μx.1 4) q gv i = rv (μm.1 3) q gv i := by
              unfold rv
              split
              · rfl
              · rcases hg with z | z
                · omega
                · rw [(S1 q z.2).2.2.2 i (by rw [hgs z.1, tI (by omega)]; omega)]
            have ab := ca i his (Nat.zero_le _)
            have lo := le_I.mp ab.1
            have hi2 := le_I.mp ab.2
            have by1 := S3 (40 * q + i)
            have ix : (if ((i + 1 : Nat) : Int) < (nI s).toInt then i + 1 else 0) = nx s i := by
              unfold nx
              rw [ts]
              by_cases z : i + 1 < s
              · rw [if_pos z, if_pos (by omega)]
              · rw [if_neg z, if_neg (by omega)]
            have p3' := (m7 (nx s i) (Nat.zero_le _) (nx_lt (by omega))).1
            rw [ix, p1, p2, p3, p4, p3', erv, sbn i his]
            refine ⟨rfl, rfl, ⟨lo, hi2⟩, ?_, fun z => ct ⟨i, his, Nat.zero_le _, z⟩⟩
            unfold rv mx0
            repeat' split
            · decide
            · decide
            · omega
      · rw [A2 (fun z => ca (qa.mp z)), P2 (fun z => ca z.2.1), M0]
        simp only [bnS, if_pos trivial, fd2]
        exact ⟨_, _, _, rfl, rfl, h.found hR 2⟩
    · have hF := h.found hR 5
      clear h hall R1 S1 S2 S3 sb
      rw [if_neg (show ¬ ((2 : Int32).toInt ≤ (nI s).toInt ∧ (nI s).toInt ≤ (24 : Int32).toInt) by rw [ts, show (2 : Int32).toInt = 2 from rfl, show (24 : Int32).toInt = 24 from rfl]; omega)]
      by_cases z : nI s < 2
      · rw [if_pos z]
        exact ⟨_, _, _, rfl, rfl, hF⟩
      · rw [if_neg z, if_neg (show ¬ nI s ≤ 24 by
          rw [lt_I, ts, show (2 : Int32).toInt = 2 from rfl] at z
          rw [le_I, ts, show (24 : Int32).toInt = 24 from rfl]
          omega)]
        exact ⟨_, _, _, rfl, rfl, hF⟩
