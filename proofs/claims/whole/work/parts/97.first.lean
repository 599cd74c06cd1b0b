/-! PURE 77: the class's first meeting -/
def FF (D : Da) (a b : Nat) (F T : Int) (r : Int64) : Prop := (r = -1 ∧ ∀ x, F ≤ x → x ≤ T → ¬ D.pz a x = D.pz b x) ∨ ∃ x, r = zL x ∧ F ≤ x ∧ D.pz a x = D.pz b x ∧ ∀ y, F ≤ y → y < x → ¬ D.pz a y = D.pz b y
theorem StO.sg {D : Da} {q j : Nat} {C E : Int} {μ : Mm} (S : StO D q j C E μ) : ∃ h n s L, Seg D j h n s C L E ∧ StV q h n s C L E μ := by
  obtain ⟨_, h, n, s, L, sg, sv, _⟩ := S
  exact ⟨h, n, s, L, sg, sv⟩
theorem StO.two {D : Da} {q j : Nat} {C E : Int} {μ : Mm} (I : DI D) (hj : j < D.w) (S : StO D q j C E μ) : -2 ^ 40 ≤ C ∧ C < E ∧ E ≤ 2 ^ 40 ∧ ((D.kd j = 3 ∧ E = 2 ^ 40) ∨ (D.kd j ≠ 3 ∧ C + 10 ≤ E ∧ E ≤ C + 46248)) ∧ μ.2 q 6 = zL C ∧ μ.2 q 8 = zL E := by
  obtain ⟨_, h, n, s, L, sg, sv, w⟩ := S
  have b := sg.1
  refine ⟨b.1, ?_, b.2.2.2.1, ?_, sv.2.2.2.1, sv.2.2.2.2.2⟩
  · rcases w with w | w
    · omega
    · have := w.2.1
      omega
  · rcases w with w | ⟨w0, w1, w2, R, i, w3, w4, w5, w6, w7, w9, w10⟩
    · exact Or.inl ⟨w.1, w.2.2⟩
    · have c := I.cm_46 hj (show i + 1 ≤ D.sz j by omega)
      exact Or.inr ⟨w0, w1, by omega⟩
set_option maxHeartbeats 8000000 in
theorem first_loop (N : Nat) {D : Da} (I : DI D) {a b : Nat} (ha : a < D.w) (hb : b < D.w) (ga : D.go a = true) (gb : D.go b = true) {F J : Nat} (hF : F < 2 ^ 45) (hJ : J ≤ 14400) : ∀ (m c na nb : Nat) (Ca Ea Cb Eb : Int) (μ : Mm), DX D μ → CrewOk D μ → StO D 72 a Ca Ea μ → StO D 73 b Cb Eb μ → Ca < Eb → Cb < Ea → (F : Int) < Ea * 27720 → (F : Int) < Eb * 27720 → (∀ x : Int, F ≤ x → x < max Ca Cb * 27720 → ¬ D.pz a x = D.pz b x) → c ≤ 2980 → 2980 < m + c → c ≤ na + nb → (1 ≤ na → (F : Int) + (10 * na - 10) * 27720 < Ca * 27720) → (1 ≤ nb → (F : Int) + (10 * nb - 10) * 27720 < Cb * 27720) → ∃ r μ', f_Me_firstOf_L62 N m (lN F) (zL (F + J * 27720)) (nI c) μ = some (r, μ') ∧ XFr μ μ' ∧ μ'.2 74 = μ.2 74 ∧ FF D a b F (F + J * 27720) r := by
  have w8 := I.w8
  intro m
  induction m with
  | zero => intro c na nb Ca Ea Cb Eb μ _ _ _ _ _ _ _ _ _ h1 h2; omega
  | succ m ih =>
    intro c na nb Ca Ea Cb Eb μ X K Sa Sb i1 i2 i3 i4 i5 c1 c2 c3 pa pb
    obtain ⟨a1, a2, a3, a4, a5, a6⟩ := Sa.two I ha
    obtain ⟨b1, b2, b3, b4, b5, b6⟩ := Sb.two I hb
    rw [f_Me_firstOf_L62]
    by_cases z : 2980 ≤ c
    · rw [if_pos (show (2980 : Int32) ≤ nI c from (nIc (a := 2980) (by decide) (by omega)).mpr z)]
      unfold f_Me_firstOf_B207
      refine ⟨_, _, rfl, XFr.refl _, rfl, Or.inl ⟨rfl, fun x x1 x2 => i5 x x1 ?_⟩⟩
      by_cases y : 1490 ≤ na
      · have := pa (by omega)
        omega
      · have := pb (by omega)
        omega
    · rw [if_neg (show ¬ (2980 : Int32) ≤ nI c from fun q => z ((nIc (a := 2980) (by decide) (by omega)).mp q)), a5, b5, Jmax64 N (by omega) (by omega) (by omega) (by omega), bnS, show (27720 : Int64) = zL 27720 from rfl, zL_mul, lN_z, Jmax64 N (by omega) (by omega) (by omega) (by omega), bnS]
      obtain ⟨B, hB⟩ : ∃ B : Int, B = max (F : Int) (max Ca Cb * 27720) := ⟨_, rfl⟩
      rw [← hB]
      have none1 : ∀ x : Int, F ≤ x → x < B → ¬ D.pz a x = D.pz b x := fun x x1 x2 => i5 x x1 (by omega)
      by_cases t : B ≤ F + J * 27720
      · rw [if_pos ((cmp_le _ _).mpr (by rw [zL_toInt (by omega) (by omega), zL_toInt (by omega) (by omega)]; exact t))]
        obtain ⟨h, n, s, L, sg, sv⟩ := Sa.sg
        obtain ⟨h', n', s', L', sg', sv'⟩ := Sb.sg
        obtain ⟨r, r1, r2⟩ := together_eq N I sg sg' (B := B) (by omega) (by omega) (by omega) (by omega) (by omega) μ sv sv'
        rw [r1, bnS]
        rcases r2 with ⟨e, r3⟩ | ⟨x, e, x1, x2, x3, x4⟩
        · rw [e, if_pos ((lg_cmp_eq _ _).mpr rfl), a6, b6, Jmin64 N (by omega) (by omega) (by omega) (by omega), bnS]
          have none2 : ∀ x : Int, F ≤ x → x < min Ea Eb * 27720 → ¬ D.pz a x = D.pz b x := fun x x1 x2 => by
            by_cases y : x < B
            · exact none1 x x1 y
            · exact r3 x (by omega) x2
          by_cases f : min Ea Eb < 2 ^ 40
          · rw [if_pos ((cmp_lt64 _ _).mpr (by rw [zL_toInt (by omega) (by omega)]; exact f))]
            unfold f_Me_firstOf_B181 f_Me_firstOf_B201
            simp only [cmp_gt, a6, b6, zL_toInt (show -2 ^ 63 ≤ Ea by omega) (show Ea < 2 ^ 63 by omega), zL_toInt (show -2 ^ 63 ≤ Eb by omega) (show Eb < 2 ^ 63 by omega), zL_toInt (show -2 ^ 63 ≤ min Ea Eb by omega) (show min Ea Eb < 2 ^ 63 by omega), ← nI_succ]
            by_cases y : min Ea Eb < Ea
            · have kb : D.kd b ≠ 3 := by omega
              have pbn : 1 ≤ nb + 1 → (F : Int) + (10 * ((nb + 1 : Nat) : Int) - 10) * 27720 < Eb * 27720 := by
                intro _
                by_cases q : 1 ≤ nb
                · have := pb q
                  omega
                · omega
              rw [if_pos y, if_neg (by omega)]
              obtain ⟨μ', E', g1, g2, g3, g4⟩ := St_goOn_eq N I (Or.inr rfl) hb gb kb (by omega) μ X K Sb
              rw [g1, bvS]
              have xf := g2.x (Or.inr rfl)
              obtain ⟨r', μ'', k1, k2, k3, k4⟩ := ih (c + 1) na (nb + 1) Ca Ea Eb E' μ' (xf.dx w8 X) (xf.crew w8 K) (Sa.other g2 (by decide)) g3 (by omega) (by omega) i3 (by omega) (fun x x1 x2 => none2 x x1 (by omega)) (by omega) (by omega) (by omega) pa pbn
              exact ⟨r', μ'', k1, xf.trans k2, k3.trans (g2 74 (by decide)).2, k4⟩
            · have ka : D.kd a ≠ 3 := by omega
              have pan : 1 ≤ na + 1 → (F : Int) + (10 * ((na + 1 : Nat) : Int) - 10) * 27720 < Ea * 27720 := by
                intro _
                by_cases q : 1 ≤ na
                · have := pa q
                  omega
                · omega
              rw [if_neg y]
              obtain ⟨μ', E', g1, g2, g3, g4⟩ := St_goOn_eq N I (Or.inl rfl) ha ga ka (by omega) μ X K Sa
              have xf := g2.x (Or.inl rfl)
              have b6' : μ'.2 73 8 = zL Eb := by rw [(g2 73 (by decide)).2]; exact b6
              rw [g1, bvS, b6', zL_toInt (by omega) (by omega)]
              have Sb' := Sb.other g2 (by decide)
              by_cases y2 : min Ea Eb < Eb
              · rw [if_pos y2]
                obtain ⟨r', μ'', k1, k2, k3, k4⟩ := ih (c + 1) (na + 1) nb Ea E' Cb Eb μ' (xf.dx w8 X) (xf.crew w8 K) g3 Sb' (by omega) (by omega) (by omega) i4 (fun x x1 x2 => none2 x x1 (by omega)) (by omega) (by omega) (by omega) pan pb
                exact ⟨r', μ'', k1, xf.trans k2, k3.trans (g2 74 (by decide)).2, k4⟩
              · have kb : D.kd b ≠ 3 := by omega
                have pbn : 1 ≤ nb + 1 → (F : Int) + (10 * ((nb + 1 : Nat) : Int) - 10) * 27720 < Eb * 27720 := by
                  intro _
                  by_cases q : 1 ≤ nb
                  · have := pb q
                    omega
                  · omega
                rw [if_neg y2]
                obtain ⟨μ2, E2, l1, l2, l3, l4⟩ := St_goOn_eq N I (Or.inr rfl) hb gb kb (by omega) μ' (xf.dx w8 X) (xf.crew w8 K) Sb'
                have xf2 := l2.x (Or.inr rfl)
                rw [l1, bvS]
                obtain ⟨r', μ'', k1, k2, k3, k4⟩ := ih (c + 1) (na + 1) (nb + 1) Ea E' Eb E2 μ2 (xf2.dx w8 (xf.dx w8 X)) (xf2.crew w8 (xf.crew w8 K)) (g3.other l2 (by decide)) l3 (by omega) (by omega) (by omega) (by omega) (fun x x1 x2 => none2 x x1 (by omega)) (by omega) (by omega) (by omega) pan pbn
                exact ⟨r', μ'', k1, (xf.trans xf2).trans k2, (k3.trans (l2 74 (by decide)).2).trans (g2 74 (by decide)).2, k4⟩
          · rw [if_neg (fun q => f (by have := (cmp_lt64 _ _).mp q; rw [zL_toInt (by omega) (by omega)] at this; exact this))]
            unfold f_Me_firstOf_B157
            exact ⟨_, _, rfl, XFr.refl _, rfl, Or.inl ⟨rfl, fun x x1 x2 => none2 x x1 (by omega)⟩⟩
        · rw [e, if_neg (fun q => by have := (zL_eq (b := -1) (by omega) (by omega) (by omega) (by omega)).mp ((lg_cmp_eq _ _).mp q); omega)]
          refine ⟨_, _, rfl, XFr.refl _, rfl, Or.inr ⟨x, rfl, by omega, x3, fun y y1 y2 => ?_⟩⟩
          by_cases w : y < B
          · exact none1 y y1 w
          · exact x4 y (by omega) y2
      · rw [if_neg (fun q => t (by have := (cmp_le _ _).mp q; rw [zL_toInt (by omega) (by omega), zL_toInt (by omega) (by omega)] at this; exact this))]
        unfold f_Me_firstOf_B105
        exact ⟨_, _, rfl, XFr.refl _, rfl, Or.inl ⟨rfl, fun x x1 x2 => none1 x x1 (by omega)⟩⟩
