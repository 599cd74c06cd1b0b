/-! PURE 15: a new walker -/
theorem Cr_add_eq (N : Nat) {w : Nat} (hw : w < 8) (a1 a2 a3 : Int32) (μ : Mm) (e : μ.1 11 1 = nI w) : f_Cr_add N a1 a2 a3 μ = some (nI w, sI (sI (sI (sI (sI (sI μ 11 1 (nI (w + 1))) 11 4 1) (WK w) 0 a1) (WK w) 1 (if a1 = 1 ∨ a1 = 2 then a2 else 1)) (WK w) 2 (if a1 = 2 then a3 else 0)) (WK w) 3 (if a1 = 3 then a2 else 0)) := by
  have e1 : nI w + 1 = nI (w + 1) := nI_add w 1
  unfold f_Cr_add f_Cr_add_B42 f_Cr_add_B47 f_Cr_add_B62 f_Cr_add_B77
  simp only [e, e1, Cr_changing_eq N hw, bnS, if_pos hw]
  by_cases c1 : a1 = 1
  · subst c1
    simp +decide only [if_true, if_false, reduceIte, true_or]
  · by_cases c2 : a1 = 2
    · subst c2
      simp +decide only [if_true, if_false, reduceIte, or_true]
    · by_cases c3 : a1 = 3
      · subst c3
        simp +decide only [if_true, if_false, reduceIte, or_self]
      · simp only [c1, c2, c3, if_false, or_self]
def mAdd (μ : Mm) (w : Nat) (a1 a2 a3 : Int32) : Mm := sI (sI (sI (sI (sI (sI (sI (sI (sI (sI μ 10 w a1) 11 w (if a1 = 1 ∨ a1 = 2 then a2 else 1)) 12 w (if a1 = 2 then a3 else 0)) 13 w (if a1 = 3 then a2 else -9)) 14 w 0) 15 w 0) 16 w 0) 17 w 0) 20 w (-9)) 0 15 (nI (w + 1))
theorem M_add_eq (N : Nat) {w : Nat} (hw : w < 8) (a1 a2 a3 : Int32) (μ : Mm) (e : μ.1 0 15 = nI w) : f_M_walker_B63 N a1 a2 a3 1 μ = some (nI w, mAdd μ w a1 a2 a3) := by
  have e1 : nI w + 1 = nI (w + 1) := nI_add w 1
  have e8 : ¬ nI w = (8 : Int32) := fun q => by
    have := (nI_eq (show w < 2 ^ 31 by omega) (show 8 < 2 ^ 31 by decide)).mp q
    omega
  unfold f_M_walker_B63 f_M_walker_B114 f_M_walker_B119 f_M_walker_B136 f_M_walker_B154 mAdd
  simp only [e, e8, if_false, if_neg (show ¬ (1 : Int32) = 0 by decide), if_pos (ixb_t hw (show 8 < 2 ^ 31 by decide)), nI_clamp (show w < 2 ^ 31 by omega), narZ (Or.inl rfl), sI1]
  by_cases c1 : a1 = 1
  · subst c1
    simp +decide only [if_true, if_false, reduceIte, true_or, e, e1]
  · by_cases c2 : a1 = 2
    · subst c2
      simp +decide only [if_true, if_false, reduceIte, or_true, e, e1]
    · by_cases c3 : a1 = 3
      · subst c3
        simp +decide only [if_true, if_false, reduceIte, or_self, e, e1]
      · simp +decide only [c1, c2, c3, if_false, or_self, e, e1]
def goodW (n : Nat) (a1 a2 a3 : Int32) : Prop := a1 = 0 ∨ (a1 = 1 ∧ 1 ≤ a2.toInt ∧ a2.toInt ≤ 6) ∨ (a1 = 2 ∧ (1 ≤ a2.toInt ∧ a2.toInt ≤ 6) ∧ 1 ≤ a3.toInt ∧ a3.toInt ≤ 500) ∨ (a1 = 3 ∧ 0 ≤ a2.toInt ∧ a2.toInt < n)
theorem W_isWT (N : Nat) {n : Nat} (hn : n ≤ 16) (a1 a2 a3 : Int32) (μ : Mm) (e : μ.1 6 1 = nI n) : (goodW n a1 a2 a3 → f_W_isWalkerAsTold N a1 a2 a3 μ = some (1, μ)) ∧ (¬ goodW n a1 a2 a3 → f_W_isWalkerAsTold N a1 a2 a3 μ = some (0, μ)) := by
  unfold f_W_isWalkerAsTold
  rw [Gr_has_eq N hn a2 μ e]
  simp only [bnS, zb01, if_true]
  unfold goodW
  constructor <;> intro g <;> repeat' split
  all_goals first | rfl | (exfalso; simp only [lt_I, le_I, eq_I, Int32.reduceToInt, not_or, not_and] at *; omega)
theorem M_isWT (N : Nat) {n : Nat} (hn : n ≤ 16) (a1 a2 a3 : Int32) (μ : Mm) (e : μ.1 0 9 = nI n) : (goodW n a1 a2 a3 → f_M_walker N a1 a2 a3 μ = f_M_walker_B63 N a1 a2 a3 1 μ) ∧ (¬ goodW n a1 a2 a3 → f_M_walker N a1 a2 a3 μ = f_M_walker_B63 N a1 a2 a3 0 μ) := by
  unfold f_M_walker f_M_walker_B19 f_M_walker_B45 f_M_walker_B58 f_M_walker_B62
  simp only [f_M_in_eq, M_isPost_eq N hn a2 μ e, bnS, if01]
  unfold goodW
  constructor <;> intro g <;> repeat' split
  all_goals first | rfl | (exfalso; simp only [lt_I, le_I, eq_I, Int32.reduceToInt, not_or, not_and] at *; omega)
theorem sm_walker {RC : Nat → Mm → Prop} (hR : RCok RC) (N : Nat) : Sm_walker (Rel RC) N := by
  intro k _ a1 a2 a3 μx μm h
  obtain ⟨h1, w, hw, ew, hall, hrest⟩ := id h.2.2.2.1
  obtain ⟨_, _, hp, n, hn1, hn, en, _⟩ := id h.2.2.1
  obtain ⟨X1, X2⟩ := W_isWT N hn a1 a2 a3 μx (hp.trans en)
  obtain ⟨M1, M2⟩ := M_isWT N hn a1 a2 a3 μm en
  unfold f_W_walker
  by_cases g : goodW n a1 a2 a3
  · rw [X1 g, M1 g]
    simp only [bnS, if_neg (show ¬ (1 : Int32) = 0 by decide)]
    by_cases c : w = 8
    · subst c
      rw [if_neg (show ¬ μx.1 11 1 < 8 by rw [h1, ew]; decide)]
      unfold f_M_walker_B63
      rw [if_neg (show ¬ (1 : Int32) = 0 by decide), if_pos (show μm.1 0 15 = 8 from ew)]
      exact ⟨_, _, _, rfl, rfl, h.next hR⟩
    · have hw8 : w < 8 := by omega
      have hwk := WK_lt hw8
      rw [if_pos (show μx.1 11 1 < 8 by rw [h1, ew]; exact nI_lt hw8 (by decide)), Cr_add_eq N hw8 a1 a2 a3 μx (h1.trans ew), M_add_eq N hw8 a1 a2 a3 μm ew]
      have hz := hrest w (Nat.le_refl _) hw8
      refine ⟨nI w, sI (sI (sI (sI (sI (sI μx 11 1 (nI (w + 1))) 11 4 1) (WK w) 0 a1) (WK w) 1 (if a1 = 1 ∨ a1 = 2 then a2 else 1)) (WK w) 2 (if a1 = 2 then a3 else 0)) (WK w) 3 (if a1 = 3 then a2 else 0), mAdd μm w a1 a2 a3, rfl, rfl, ?_⟩
      generalize hsp : (if a1 = 1 ∨ a1 = 2 then a2 else (1 : Int32)) = sp
      generalize hfu : (if a1 = 2 then a3 else (0 : Int32)) = fu
      generalize hpx : (if a1 = 3 then a2 else (0 : Int32)) = px
      have hmm : mAdd μm w a1 a2 a3 = sI (sI (sI (sI (sI (sI (sI (sI (sI (sI μm 10 w a1) 11 w sp) 12 w fu) 13 w (if a1 = 3 then a2 else -9)) 14 w 0) 15 w 0) 16 w 0) 17 w 0) 20 w (-9)) 0 15 (nI (w + 1)) := by
        rw [← hsp, ← hfu]; rfl
      rw [hmm]
      generalize hpm : (if a1 = 3 then a2 else (-9 : Int32)) = pm
      generalize hX : sI (sI (sI (sI (sI (sI μx 11 1 (nI (w + 1))) 11 4 1) (WK w) 0 a1) (WK w) 1 sp) (WK w) 2 fu) (WK w) 3 px = μx'
      generalize hM : sI (sI (sI (sI (sI (sI (sI (sI (sI (sI μm 10 w a1) 11 w sp) 12 w fu) 13 w pm) 14 w 0) 15 w 0) 16 w 0) 17 w 0) 20 w (-9)) 0 15 (nI (w + 1)) = μm'
      have x11 : μx'.1 11 = upd (upd (μx.1 11) 1 (nI (w + 1))) 4 1 := by
        rw [← hX]
        simp only [sI1, if_neg (show ¬ 11 = WK w by omega), if_true]
      have xw : μx'.1 (WK w) = upd (upd (upd (upd (μx.1 (WK w)) 0 a1) 1 sp) 2 fu) 3 px := by
        rw [← hX]
        simp only [sI1, if_neg (show ¬ WK w = 11 by omega), if_true]
      have xo : ∀ c, c ≠ 11 → c ≠ WK w → μx'.1 c = μx.1 c := fun c q1 q2 => by
        rw [← hX]
        simp only [sI1, if_neg q1, if_neg q2]
      have mo : ∀ c i, i ≠ w → c ≠ 0 → μm'.1 c i = μm.1 c i := fun c i q q0 => by
        rw [← hM, sI1, if_neg q0, sI_ix q, sI_ix q, sI_ix q, sI_ix q, sI_ix q, sI_ix q, sI_ix q, sI_ix q, sI_ix q]
      have mo2 : ∀ c, c ≠ 0 → c < 10 ∨ (17 < c ∧ c ≠ 20) → μm'.1 c = μm.1 c := fun c q0 q => by
        rw [← hM]
        simp only [sI1, if_neg q0, if_neg (show ¬ c = 10 by omega), if_neg (show ¬ c = 11 by omega), if_neg (show ¬ c = 12 by omega), if_neg (show ¬ c = 13 by omega), if_neg (show ¬ c = 14 by omega), if_neg (show ¬ c = 15 by omega), if_neg (show ¬ c = 16 by omega), if_neg (show ¬ c = 17 by omega), if_neg (show ¬ c = 20 by omega)]
      have m15 : μm'.1 0 = upd (μm.1 0) 15 (nI (w + 1)) := by
        rw [← hM]; rfl
      have xs : μx'.2 = μx.2 := by rw [← hX]; rfl
      have ms : μm'.2 = μm.2 := by rw [← hM]; rfl
      have c10 : μm'.1 10 w = a1 := by rw [← hM]; exact upd_eq (μm.1 10) w a1
      have c11 : μm'.1 11 w = sp := by rw [← hM]; exact upd_eq (μm.1 11) w _
      have c12 : μm'.1 12 w = fu := by rw [← hM]; exact upd_eq (μm.1 12) w _
      have c13 : μm'.1 13 w = pm := by rw [← hM]; exact upd_eq (μm.1 13) w _
      have c14 : μm'.1 14 w = 0 := by rw [← hM]; exact upd_eq (μm.1 14) w _
      have c15 : μm'.1 15 w = 0 := by rw [← hM]; exact upd_eq (μm.1 15) w _
      have c16 : μm'.1 16 w = 0 := by rw [← hM]; exact upd_eq (μm.1 16) w _
      have c17 : μm'.1 17 w = 0 := by rw [← hM]; exact upd_eq (μm.1 17) w _
      have c20 : μm'.1 20 w = -9 := by rw [← hM]; exact upd_eq (μm.1 20) w _
      clear hX hM
      refine h.walk hR (fun c hc => xo c (by omega) (by omega)) xs (fun c q0 hc => mo2 c q0 (by omega)) (fun f hf => by rw [m15]; exact upd_ne _ _ hf) ms ⟨by rw [x11, m15]; rfl, w + 1, by omega, by rw [m15]; rfl, fun i hi => ?_, fun i hi hi8 => ?_⟩ (by rw [x11]; rfl) (by rw [x11]; rfl)
      · by_cases ci : i = w
        · subst ci
          show RW1 (μx'.1 (WK i)) (μx'.1 (WK i + 1)) (μx'.1 (WK i + 2)) _ _ _ _ _ _ _ _ _ _ _ i
          unfold RW1
          rw [c10, c11, c12, c13, c14, c15, c16, c17, c20, xw]
          refine ⟨rfl, rfl, rfl, fun q => ?_, hz.1, hz.2.1, hz.2.2.1, hz.2.2.2, fun q => absurd rfl q, fun i hi => ?_, ?_, ?_, ?_, by decide, Or.inl rfl, Or.inl rfl, Or.inl rfl, fun _ => rfl, fun q => absurd rfl q, fun q => ?_, fun q => ?_⟩
          · show px = pm
            rw [← hpx, ← hpm, if_pos q, if_pos q]
          · rw [show (0 : Int32).toInt = 0 from rfl] at hi
            omega
          · unfold goodW at g
            rcases g with q | q | q | q
            · exact Or.inl q
            · exact Or.inr (Or.inl q.1)
            · exact Or.inr (Or.inr (Or.inl q.1))
            · exact Or.inr (Or.inr (Or.inr q.1))
          · rw [← hsp]
            unfold goodW at g
            rcases g with q | q | q | q
            · subst q; rw [if_neg (by decide)]; decide
            · rw [if_pos (Or.inl q.1)]; exact q.2
            · rw [if_pos (Or.inr q.1)]; exact q.2.1
            · rw [q.1, if_neg (by decide)]; decide
          · rw [← hfu]
            unfold goodW at g
            rcases g with q | q | q | q
            · subst q; rw [if_neg (by decide)]; decide
            · rw [q.1, if_neg (by decide)]; decide
            · rw [if_pos q.1]; omega
            · rw [q.1, if_neg (by decide)]; decide
          · refine ⟨rfl, ?_⟩
            rw [← hpm, if_pos q]
            unfold goodW at g
            rcases g with z | z | z | z
            · rw [z] at q; exact absurd q (by decide)
            · rw [z.1] at q; exact absurd q (by decide)
            · rw [z.1] at q; exact absurd q (by decide)
            · omega
          · rw [← hsp]
            rcases q with q | q <;> rw [q, if_neg (by decide)]
        · have x0 := xo (WK i + 0) (by have := WK_lt (show i < 8 by omega); omega) (WK_ne ci (by decide))
          have x1 := xo (WK i + 1) (by have := WK_lt (show i < 8 by omega); omega) (WK_ne ci (by decide))
          have x2 := xo (WK i + 2) (by have := WK_lt (show i < 8 by omega); omega) (WK_ne ci (by decide))
          rw [Nat.add_zero] at x0
          show RW1 (μx'.1 (WK i)) (μx'.1 (WK i + 1)) (μx'.1 (WK i + 2)) _ _ _ _ _ _ _ _ _ _ _ i
          rw [x0, x1, x2]
          exact RW1_congr (hall i (by omega)) (mo 10 i ci (by decide)) (mo 11 i ci (by decide)) (mo 12 i ci (by decide)) (mo 13 i ci (by decide)) (mo 14 i ci (by decide)) (mo 15 i ci (by decide)) (mo 16 i ci (by decide)) (mo 17 i ci (by decide)) (mo 20 i ci (by decide)) (fun x _ => by rw [mo2 18 (by decide) (by decide)]) (fun x _ => by rw [mo2 19 (by decide) (by decide)])
      · have x0 := xo (WK i + 0) (by have := WK_lt hi8; omega) (WK_ne (by omega) (by decide))
        rw [Nat.add_zero] at x0
        show μx'.1 (WK i) 4 = 0 ∧ μx'.1 (WK i) 5 = 0 ∧ μx'.1 (WK i) 6 = 0 ∧ μx'.1 (WK i) 8 = 0
        rw [x0]
        exact hrest i (by omega) hi8
  · rw [X2 g, M2 g]
    exact ⟨_, _, _, rfl, rfl, h.next hR⟩
