/-! PURE 45: all that ride are listed -/
def Da.sq (D : Da) (S : Nat → Bool) (p t : Nat) : Bool := (D.sa S (t : Int) D.w).testBit p
def og (D : Da) (r : Nat) (rid : Nat → Nat) (p : Nat) : Prop := ∃ k, k < r ∧ (D.vis (rid k) 0).testBit p = true ∧ D.ph (rid k) 0 ≠ D.cm (rid k) (D.hl (rid k) 0)
def RM (r : Nat) (rid leg nt : Nat → Nat) (μ : Mm) : Prop := μ.1 61 11 = nI r ∧ ∀ k, k < r → μ.1 68 k = nI (rid k) ∧ μ.1 69 k = nI (leg k) ∧ μ.1 70 k = nI (nt k)
def RI (D : Da) (S : Nat → Bool) (r : Nat) (rid leg nt : Nat → Nat) : Prop := ∀ k, k < r → rid k < D.w ∧ S (rid k) = true ∧ D.kd (rid k) ≠ 3 ∧ leg k < D.sz (rid k) ∧ D.ph (rid k) (nt k : Nat) = D.cm (rid k) (leg k) ∧ nt k ≤ 18000
def CV (D : Da) (W r : Nat) (rid nt : Nat → Nat) (μ : Mm) : Prop := ∀ p, p < 16 → W.testBit p = true → ∀ k, k < r → ∀ u : Nat, u < nt k → (D.vis (rid k) (u : Nat)).testBit p = true → ∃ c : Nat, c ≤ 20000 ∧ μ.1 66 p = nI c ∧ u < c
theorem PSt.ogi {sq : Nat → Bool} {J need lim : Nat} {og og' : Prop} {r : Rc} (h : og ↔ og') (q : PSt sq J need og lim r) : PSt sq J need og' lim r := by
  rw [propext h] at q
  exact q
theorem PSt_cov {sq : Nat → Bool} {J need lim : Nat} {og : Prop} {r : Rc} (q : PSt sq J need og lim r) : r.2.2.2.2.1 = -1 ∨ ∃ c : Nat, c ≤ 20000 ∧ r.2.2.2.2.1 = nI c := by
  rcases q with ⟨q, _⟩ | ⟨f, last, c, st, a1, a2, a3, a4, a5, a6, a7, a8, a9, a10⟩
  · left; rw [q]
  · right
    refine ⟨c, a7, ?_⟩
    rcases a10 with ⟨_, _, e⟩ | ⟨_, _, e⟩ <;> rw [e]
theorem PSt_cover {sq : Nat → Bool} {J need b : Nat} {og og' : Prop} {r : Rc} (hJ : 1 ≤ J) (hn : 1 ≤ need) (q : PSt sq J need og 0 r) (hf : r.2.2.2.2.2 = -1) (hb : 1 ≤ b) (hb2 : b ≤ 128) (hs : ∀ t, t < b → sq t = true) (ho : og') : PSt sq J need og' 0 (cvI (nI b) r) := by
  right
  rcases q with ⟨q, no⟩ | ⟨f, last, c, st, a1, a2, a3, a4, a5, a6, a7, a8, a9, a10⟩
  · subst q
    refine ⟨0, 0, b, (0, 0, -9, 0, 0), hs 0 (by omega), fun t h => by omega, by omega, by omega, by omega, by omega, by omega, rfl, fun x x1 x2 => ?_, Or.inl ⟨rfl, ho, ?_⟩⟩
    · have := scn_stay (sq := sq) (J := J) (need := need) (f := 0) (n := 0) hn rfl (x - (0 + 1)) (fun e he => hs _ (by omega))
      rw [Nat.zero_add] at this
      rw [this]; rfl
    · unfold cvI mxI
      simp only []
      rw [if_neg (by rw [tI (by omega), show (-1 : Int32).toInt = -1 from rfl]; omega)]
      rfl
  · rcases a10 with ⟨f0, o, e⟩ | ⟨cJ, o, e⟩
    · subst f0
      have l0 : last = 0 := by omega
      subst l0
      have sc : scn sq J need 0 (c - (0 + 1)) = st := a9 c (by omega) (Nat.le_refl _)
      refine ⟨0, 0, if b ≤ c then c else b, st, a1, a2, by omega, a4, by omega, by split <;> omega, by split <;> omega, a8, fun x x1 x2 => ?_, Or.inl ⟨rfl, ho, ?_⟩⟩
      · by_cases k : x ≤ c
        · exact a9 x (by omega) k
        · have := scn_stay (sq := sq) (J := J) (need := need) (f := 0) (n := c - (0 + 1)) hn (by rw [sc]; exact a8) (x - c) (fun e he => hs _ (by split at x2 <;> omega))
          rw [show c - (0 + 1) + (x - c) = x - (0 + 1) by omega, sc] at this
          exact this
      · rw [e]
        unfold cvI
        simp only []
        rw [mxI_nn (by omega) (by omega)]
    · rw [e] at hf
      exact absurd hf (nI_n1 (by omega))
def EI (D : Da) (S : Nat → Bool) (W J need r : Nat) (rid leg nt : Nat → Nat) (μ0 μ : Mm) : Prop := RM r rid leg nt μ ∧ RI D S r rid leg nt ∧ CV D W r rid nt μ ∧ (∀ p, p < 16 → W.testBit p = true → PSt (D.sq S p) J need (og D r rid p) 0 (rd μ p) ∧ (rd μ p).2.2.2.2.2 = -1) ∧ (∀ p, p < 16 → W.testBit p = false → rd μ p = rd μ0 p) ∧ QFr μ0 μ
theorem mxI_ge {x : Int32} {b : Nat} (hb : b ≤ 20000) (h : x = -1 ∨ ∃ c : Nat, c ≤ 20000 ∧ x = nI c) : ∃ c' : Nat, c' ≤ 20000 ∧ mxI x (nI b) = nI c' ∧ b ≤ c' ∧ ∀ c : Nat, c ≤ 20000 → x = nI c → c ≤ c' := by
  rcases h with h | ⟨c, h1, h2⟩
  · subst h
    refine ⟨b, hb, ?_, Nat.le_refl _, fun c hc e => absurd e.symm (nI_n1 (by omega))⟩
    unfold mxI
    rw [if_neg (by rw [tI (by omega), show (-1 : Int32).toInt = -1 from rfl]; omega)]
  · subst h2
    refine ⟨if b ≤ c then c else b, by split <;> omega, mxI_nn (by omega) (by omega), by split <;> omega, fun c' hc e => ?_⟩
    have := (nI_eq (by omega) (by omega)).mp e
    split <;> omega
theorem Wa_enlist_loop (N : Nat) (hN : 30 ≤ N) {D : Da} (I : DI D) {B W J need : Nat} (hB : B < 2 ^ 31) (hs : ∀ x, x < D.w → B.testBit x = true → D.go x = true) (hW : W < 65536) (hJ : 1 ≤ J) (hn : 1 ≤ need) (μ0 : Mm) (X : DX D μ0) (C : CrewOk D μ0) (eW : μ0.1 61 13 = nI W) : ∀ (m i r : Nat) (rid leg nt : Nat → Nat) (μ : Mm), i ≤ D.w → D.w < m + i → r ≤ i → EI D (fun x => B.testBit x) W J need r rid leg nt μ0 μ → (∀ x, x < i → B.testBit x = true → D.kd x ≠ 3 → D.ev x &&& W ≠ 0 → ∃ k, k < r ∧ rid k = x) → ∃ (μ' : Mm) (r' : Nat) (rid' leg' nt' : Nat → Nat), f_Wa_enlist_L7 N m (nI B) (nI i) μ = some μ' ∧ r' ≤ 8 ∧ EI D (fun x => B.testBit x) W J need r' rid' leg' nt' μ0 μ' ∧ ∀ x, x < D.w → B.testBit x = true → D.kd x ≠ 3 → D.ev x &&& W ≠ 0 → ∃ k, k < r' ∧ rid' k = x := by
  have w8 := I.w8
  intro m
  induction m with
  | zero => intro i r rid leg nt μ h1 h2; omega
  | succ m ih =>
    intro i r rid leg nt μ h1 h2 hr hE hall
    obtain ⟨e1, e2, e3, e4, e5, e6⟩ := id hE
    have X1 := e6.xfr.dx w8 X
    have C1 := e6.xfr.crew w8 C
    have eW1 : μ.1 61 13 = nI W := by rw [e6.2.1 13 (by decide)]; exact eW
    rw [f_Wa_enlist_L7, X1.w]
    by_cases h : i = D.w
    · rw [if_pos (by rw [h]; exact nI_le (Nat.le_refl _) (by omega))]
      exact ⟨μ, r, rid, leg, nt, rfl, by omega, hE, fun x hx => hall x (by omega)⟩
    · have hi : i < D.w := by omega
      have k3 := I.kd i hi
      have ev := D.ev_lt I.g i
      rw [if_neg (nI_ge (by omega) (by omega)), Cr_get_eq N (show i < 8 by omega), bnS, if_pos (show i < 8 by omega), bitN hB (show i < 32 by omega), X1.kd i hi]
      unfold f_Wa_enlist_B75
      simp only [nI_1, nI_add]
      have skip : (B.testBit i = true → D.kd i ≠ 3 → D.ev i &&& W ≠ 0 → False) → ∃ (μ' : Mm) (r' : Nat) (rid' leg' nt' : Nat → Nat), f_Wa_enlist_L7 N m (nI B) (nI (i + 1)) μ = some μ' ∧ r' ≤ 8 ∧ EI D (fun x => B.testBit x) W J need r' rid' leg' nt' μ0 μ' ∧ ∀ x, x < D.w → B.testBit x = true → D.kd x ≠ 3 → D.ev x &&& W ≠ 0 → ∃ k, k < r' ∧ rid' k = x := fun no => ih (i + 1) r rid leg nt μ (by omega) (by omega) (by omega) hE (fun x hx a b c => by
        by_cases e : x = i
        · subst e
          exact absurd (no a b c) id
        · exact hall x (by omega) a b c)
      by_cases c : B.testBit i = true
      · rw [if_neg (by rw [c]; decide)]
        have g := hs i hi c
        by_cases c2 : D.kd i = 3
        · rw [if_pos (by rw [c2]; rfl)]
          exact skip (fun _ q _ => q c2)
        · rw [if_neg (show ¬ nI (D.kd i) = 3 from fun q => c2 ((nI_eq (b := 3) (by omega) (by decide)).mp q)), (C1.2 i hi g).2.1, eW1, andN (by omega) (by omega)]
          have al : D.ev i &&& W < 65536 := Nat.lt_of_le_of_lt Nat.and_le_right hW
          by_cases c3 : D.ev i &&& W = 0
          · rw [if_pos (by rw [c3]; rfl)]
            exact skip (fun _ _ q => q c3)
          · rw [if_neg (nI_ne0 (by omega) (by omega)), e1.1]
            obtain ⟨μ1, l, t, Bs, b, r1, r2, r3, r4, r5, r6, r7, r8, r9, r10, r11, r12, r13, r14, r15⟩ := Wa_setOut_eq N hN I hi g c2 (show r < 8 by omega) hW μ X1 C1 eW1
            rw [r1, bvS, r3, e1.1, show (1 : Int32) = nI 1 from rfl, nI_add]
            have q1 := QFr.f11 μ1 (nI (r + 1))
            have rq : ∀ q, q < 16 → rd (sI μ1 61 11 (nI (r + 1))) q = if Bs.testBit q = true then cvI (nI b) (rd μ q) else rd μ q := fun q hq => by
              rw [← r12 q hq]
              exact rd_of (fun c h1 h2 => sI_ne _ _ _ (by omega)) q
            have ogi : ∀ p, W.testBit p = true → (og D (r + 1) (fun x => if x = r then i else rid x) p ↔ (og D r rid p ∨ Bs.testBit p = true)) := fun p hp => by
              constructor
              · rintro ⟨k, k1, k2, k4⟩
                by_cases e : k = r
                · simp only [if_pos e] at k2 k4
                  right
                  exact (r13 p).mpr ⟨hp, k2, k4⟩
                · simp only [if_neg e] at k2 k4
                  left
                  exact ⟨k, by omega, k2, k4⟩
              · rintro (⟨k, k1, k2, k4⟩ | h)
                · refine ⟨k, by omega, ?_, ?_⟩
                  · simp only [if_neg (show ¬ k = r by omega)]; exact k2
                  · simp only [if_neg (show ¬ k = r by omega)]; exact k4
                · obtain ⟨_, x2, x3⟩ := (r13 p).mp h
                  refine ⟨r, by omega, ?_, ?_⟩
                  · simp only [if_true]; exact x2
                  · simp only [if_true]; exact x3
            refine ih (i + 1) (r + 1) (fun x => if x = r then i else rid x) (fun x => if x = r then l else leg x) (fun x => if x = r then t else nt x) (sI μ1 61 11 (nI (r + 1))) (by omega) (by omega) (by omega) ⟨⟨?_, ?_⟩, ?_, ?_, ?_, ?_, ?_⟩ ?_
            · rw [sI_at, upd_eq]
            · intro k hk
              rw [sI_ne _ _ _ (by decide), sI_ne _ _ _ (by decide), sI_ne _ _ _ (by decide), r4, r5, r6, upd_at, upd_at, upd_at]
              by_cases e : k = r
              · simp only [if_pos e]
                exact ⟨trivial, trivial, trivial⟩
              · simp only [if_neg e]
                exact e1.2 k (by omega)
            · intro k hk
              by_cases e : k = r
              · simp only [if_pos e]
                exact ⟨hi, c, c2, r7, r8, by omega⟩
              · simp only [if_neg e]
                exact e2 k (by omega)
            · intro p hp hw k hk u hu hv
              have cov := PSt_cov (e4 p hp hw).1
              have e66 : (sI μ1 61 11 (nI (r + 1))).1 66 p = (rd (sI μ1 61 11 (nI (r + 1))) p).2.2.2.2.1 := rfl
              rw [e66, rq p hp]
              by_cases e : k = r
              · simp only [if_pos e] at hu hv
                obtain ⟨x1, x2⟩ := r14 u hu p hw hv
                obtain ⟨c', y1, y2, y3, _⟩ := mxI_ge (b := b) (by omega) cov
                refine ⟨c', y1, ?_, by omega⟩
                rw [if_pos x1]
                exact y2
              · simp only [if_neg e] at hu hv
                obtain ⟨c0, z1, z2, z3⟩ := e3 p hp hw k (by omega) u hu hv
                by_cases x1 : Bs.testBit p = true
                · obtain ⟨c', y1, y2, y3, y4⟩ := mxI_ge (b := b) (by omega) cov
                  refine ⟨c', y1, ?_, ?_⟩
                  · rw [if_pos x1]
                    exact y2
                  · have := y4 c0 z1 z2
                    omega
                · refine ⟨c0, z1, ?_, z3⟩
                  rw [if_neg x1]
                  exact z2
            · intro p hp hw
              obtain ⟨s1, s2⟩ := e4 p hp hw
              rw [rq p hp]
              by_cases x1 : Bs.testBit p = true
              · rw [if_pos x1]
                refine ⟨PSt_cover hJ hn s1 s2 r10 r11 (fun u hu => ?_) ((ogi p hw).mpr (Or.inr x1)), s2⟩
                have := r15 u hu p x1
                exact (D.sa_tb (fun x => B.testBit x) (u : Int) p D.w).mpr ⟨i, hi, c, this⟩
              · rw [if_neg x1]
                refine ⟨s1.ogi ?_, s2⟩
                rw [ogi p hw]
                exact ⟨Or.inl, fun h => h.elim id (fun y => absurd y x1)⟩
            · intro p hp hw
              rw [rq p hp, if_neg (fun x1 => by have := ((r13 p).mp x1).1; rw [hw] at this; cases this)]
              exact e5 p hp hw
            · exact (e6.trans r2).trans q1
            · intro x hx a1 a2 a3
              by_cases e : x = i
              · exact ⟨r, by omega, by simp only [if_true]; exact e.symm⟩
              · obtain ⟨k, k1, k2⟩ := hall x (by omega) a1 a2 a3
                exact ⟨k, by omega, by simp only [if_neg (show ¬ k = r by omega)]; exact k2⟩
      · have c' : B.testBit i = false := by simpa using c
        rw [if_pos (by rw [c']; decide)]
        exact skip (fun q _ _ => c q)
