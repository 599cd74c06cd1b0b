/-! PURE 43: one post through the sweep -/
theorem scn_stay {sq : Nat → Bool} {J need f n : Nat} (hn : 1 ≤ need) (h0 : (scn sq J need f n).1 = 0) : ∀ d, (∀ e, e < d → sq (f + 1 + n + e) = true) → scn sq J need f (n + d) = scn sq J need f n
  | 0, _ => rfl
  | d + 1, h => by
    have ih := scn_stay hn h0 d (fun e he => h e (by omega))
    show stp sq J need (f + 1 + (n + d)) (scn sq J need f (n + d)) = _
    rw [ih]
    unfold stp
    rw [if_pos (by rw [show f + 1 + (n + d) = f + 1 + n + d by omega]; exact h d (by omega)), clo_0 hn h0]
theorem scn_run {sq : Nat → Bool} {J need f n : Nat} : ∀ d, (∀ e, e < d → sq (f + 1 + n + e) = false) → scn sq J need f (n + d) = ((scn sq J need f n).1 + d, (scn sq J need f n).2)
  | 0, _ => rfl
  | d + 1, h => by
    have ih := scn_run (J := J) (need := need) d (fun e he => h e (by omega))
    show stp sq J need (f + 1 + (n + d)) (scn sq J need f (n + d)) = _
    rw [ih]
    unfold stp
    rw [if_neg (by rw [show f + 1 + (n + d) = f + 1 + n + d by omega, h d (by omega)]; decide)]
    rfl
theorem ng_clo {J need t l L O U b : Nat} {F : Int} (hl : 1 ≤ l) (hl2 : l ≤ 40000) (hn : 1 ≤ need) (hn2 : need ≤ 14400) (hL : L ≤ 40000) (hU : U ≤ 40000) (hO : O ≤ 40000) (hF : -9 ≤ F) (hF2 : F < 40000) (hb : (t - l) % J = b) (hb2 : b < 40000) (x : Int32 × Int32) : ngI (nI need) (nI b) (nI l) (nI L, zI F, nI U, nI O, x) = (nI (clo J need t (l, L, F, O, U)).2.1, zI (clo J need t (l, L, F, O, U)).2.2.1, nI (clo J need t (l, L, F, O, U)).2.2.2.2, nI (clo J need t (l, L, F, O, U)).2.2.2.1, x) := by
  unfold ngI clo
  simp only [hb]
  have e1 : (nI L < nI l ∨ (nI l = nI L ∧ ¬ zI F ≤ nI b)) ↔ (L < l ∨ (0 < l ∧ l = L ∧ (b : Int) < F)) := by
    rw [nIl (by omega) (by omega), nI_eq (by omega) (by omega), le_I, zI_toInt (by omega) (by omega), tI (by omega)]
    omega
  have e2 : (nI need ≤ nI l) ↔ need ≤ l := nIc (by omega) (by omega)
  by_cases c : L < l ∨ (0 < l ∧ l = L ∧ (b : Int) < F)
  · rw [if_pos (e1.mpr c), if_pos (e1.mpr c), if_pos c, if_pos c, nI_add]
    by_cases d : need ≤ l
    · rw [if_pos (e2.mpr d), if_pos d, pk_sub d, show (1 : Int32) = nI 1 from rfl, nI_add, nI_add]; rfl
    · rw [if_neg (fun q => d (e2.mp q)), if_neg d, show (0 : Int32) = nI 0 from rfl, nI_add]; rfl
  · rw [if_neg (fun q => c (e1.mp q)), if_neg (fun q => c (e1.mp q)), if_neg c, if_neg c, nI_add]
    by_cases d : need ≤ l
    · rw [if_pos (e2.mpr d), if_pos d, pk_sub d, show (1 : Int32) = nI 1 from rfl, nI_add, nI_add]
    · rw [if_neg (fun q => d (e2.mp q)), if_neg d, show (0 : Int32) = nI 0 from rfl, nI_add]
def PSt (sq : Nat → Bool) (J need : Nat) (og : Prop) (lim : Nat) (r : Rc) : Prop :=
  (r = (0, -9, 0, 0, -1, -1) ∧ ¬ og) ∨
  ∃ (f last c : Nat) (st : Nat × Nat × Int × Nat × Nat), sq f = true ∧ (∀ t, t < f → sq t = false) ∧ f ≤ last ∧ last < J ∧ last ≤ lim ∧ last + 1 ≤ c ∧ c ≤ 20000 ∧ st.1 = 0 ∧ (∀ x, last + 1 ≤ x → x ≤ c → scn sq J need f (x - (f + 1)) = st) ∧ ((f = 0 ∧ og ∧ r = (nI st.2.1, zI st.2.2.1, nI st.2.2.2.2, nI st.2.2.2.1, nI c, -1)) ∨ (c ≤ J ∧ ¬ og ∧ r = (nI st.2.1, zI st.2.2.1, nI st.2.2.2.2, nI st.2.2.2.1, nI c, nI f)))
theorem mxI_nn {a b : Nat} (ha : a < 2 ^ 31) (hb : b < 2 ^ 31) : mxI (nI a) (nI b) = nI (if b ≤ a then a else b) := by
  unfold mxI
  rw [tI ha, tI hb]
  by_cases c : b ≤ a
  · rw [if_pos (by omega), if_pos c]
  · rw [if_neg (by omega), if_neg c]
theorem nI_n1 {a : Nat} (h : a < 2 ^ 31) : nI a ≠ -1 := fun q => by
  have := eq_I.mp q
  rw [tI h, show (-1 : Int32).toInt = -1 from rfl] at this
  omega
theorem PSt.lim {sq : Nat → Bool} {J need : Nat} {og : Prop} {l l' : Nat} {r : Rc} (h : l ≤ l') (q : PSt sq J need og l r) : PSt sq J need og l' r := by
  rcases q with q | ⟨f, last, c, st, a1, a2, a3, a4, a5, a6⟩
  · exact Or.inl q
  · exact Or.inr ⟨f, last, c, st, a1, a2, a3, a4, by omega, a6⟩
theorem PSt_see {sq : Nat → Bool} {J need : Nat} {og : Prop} {a b : Nat} {r : Rc} (hJ : 1 ≤ J) (hJ2 : J ≤ 14400) (hn : 1 ≤ need) (hn2 : need ≤ 14400) (q : PSt sq J need og a r) (haJ : a < J) (hab : a < b) (hb : b ≤ 20000) (hs : ∀ t, a ≤ t → t < b → sq t = true) (h1 : r.2.2.2.2.1 = -1 → ∀ t, t < a → sq t = false) (h2 : ∀ c : Nat, c ≤ 20000 → r.2.2.2.2.1 = nI c → ∀ t, c ≤ t → t < a → sq t = false) (h3 : ¬ og → b ≤ J) : PSt sq J need og a (soI (nI need) (nI a) (nI b) r) := by
  right
  rcases q with ⟨q, no⟩ | ⟨f, last, c, st, a1, a2, a3, a4, a5, a6, a7, a8, a9, a10⟩
  · subst q
    refine ⟨a, a, b, (0, 0, -9, 0, 0), hs a (by omega) hab, h1 rfl, by omega, haJ, by omega, by omega, hb, rfl, fun x x1 x2 => ?_, Or.inr ⟨h3 no, no, ?_⟩⟩
    · have := scn_stay (sq := sq) (J := J) (need := need) (f := a) (n := 0) hn rfl (x - (a + 1)) (fun e he => hs _ (by omega) (by omega))
      rw [Nat.zero_add] at this
      rw [this]; rfl
    · unfold soI
      rw [if_pos rfl]
      unfold mxI
      rw [if_neg (by rw [tI (by omega), show (-1 : Int32).toInt = -1 from rfl]; omega)]
      rfl
  · have fc : f + 1 ≤ c := by omega
    have rc : r.2.2.2.2.1 = nI c := by
      rcases a10 with ⟨_, _, e⟩ | ⟨_, _, e⟩ <;> rw [e]
    have sc : scn sq J need f (c - (f + 1)) = st := a9 c (by omega) (Nat.le_refl _)
    have bd := scn_b sq f hJ hn (c - (f + 1))
    rw [sc] at bd
    by_cases g : a ≤ c
    · -- covered already
      have up : ∀ d, c + d ≤ b → scn sq J need f (c + d - (f + 1)) = st := fun d hd => by
        have := scn_stay (sq := sq) (J := J) (need := need) (f := f) (n := c - (f + 1)) hn (by rw [sc]; exact a8) d (fun e he => hs _ (by omega) (by omega))
        rw [show c - (f + 1) + d = c + d - (f + 1) by omega] at this
        rw [this, sc]
      have new : ∀ y, soI (nI need) (nI a) (nI b) (nI st.2.1, zI st.2.2.1, nI st.2.2.2.2, nI st.2.2.2.1, nI c, y) = (nI st.2.1, zI st.2.2.1, nI st.2.2.2.2, nI st.2.2.2.1, nI (if b ≤ c then c else b), y) := fun y => by
        unfold soI
        rw [if_neg (nI_n1 (by omega)), if_pos (nI_le g (by omega)), mxI_nn (by omega) (by omega)]
      refine ⟨f, a, if b ≤ c then c else b, st, a1, a2, by omega, haJ, Nat.le_refl _, by split <;> omega, by split <;> omega, a8, fun x x1 x2 => ?_, ?_⟩
      · by_cases k : x ≤ c
        · exact a9 x (by omega) k
        · have := up (x - c) (by rw [if_neg (by split at x2 <;> omega)] at x2; omega)
          rw [show c + (x - c) = x by omega] at this
          exact this
      · rcases a10 with ⟨f0, o, e⟩ | ⟨cJ, o, e⟩
        · left
          exact ⟨f0, o, by rw [e, new]⟩
        · right
          have := h3 o
          exact ⟨by split <;> omega, o, by rw [e, new]⟩
    · -- a gap
      have cl : c < a := by omega
      have uns := h2 c a7 rc
      have rn := scn_run (sq := sq) (J := J) (need := need) (f := f) (n := c - (f + 1)) (a - c) (fun e he => uns _ (by omega) (by omega))
      rw [show c - (f + 1) + (a - c) = a - (f + 1) by omega, sc, a8, Nat.zero_add] at rn
      obtain ⟨r0, L, F, O, U⟩ := st
      simp only [] at a8 bd rn
      have s1 : scn sq J need f (a - (f + 1) + 1) = clo J need a (a - c, L, F, O, U) := by
        show stp sq J need (f + 1 + (a - (f + 1))) (scn sq J need f (a - (f + 1))) = _
        rw [rn, show f + 1 + (a - (f + 1)) = a by omega]
        unfold stp
        rw [if_pos (hs a (by omega) hab)]
      have z1 : (clo J need a (a - c, L, F, O, U)).1 = 0 := rfl
      have hm : (a - (a - c)) % J = c := by rw [show a - (a - c) = c by omega, Nat.mod_eq_of_lt (by omega)]
      have ng := fun x => ng_clo (J := J) (need := need) (t := a) (l := a - c) (L := L) (O := O) (U := U) (b := c) (F := F) (by omega) (by omega) hn hn2 (by omega) (by omega) (by omega) bd.2.2.2.1 (by omega) hm (by omega) x
      have new : ∀ y, soI (nI need) (nI a) (nI b) (nI L, zI F, nI U, nI O, nI c, y) = (nI (clo J need a (a - c, L, F, O, U)).2.1, zI (clo J need a (a - c, L, F, O, U)).2.2.1, nI (clo J need a (a - c, L, F, O, U)).2.2.2.2, nI (clo J need a (a - c, L, F, O, U)).2.2.2.1, nI b, y) := fun y => by
        unfold soI
        rw [if_neg (nI_n1 (by omega)), if_neg (nI_ge (by omega) (by omega)), mxI_nn (by omega) (by omega), if_neg (by omega), pk_sub (by omega), ng]
      refine ⟨f, a, b, clo J need a (a - c, L, F, O, U), a1, a2, by omega, haJ, Nat.le_refl _, by omega, hb, z1, fun x x1 x2 => ?_, ?_⟩
      · have := scn_stay (sq := sq) (J := J) (need := need) (f := f) (n := a - (f + 1) + 1) hn (by rw [s1]; exact z1) (x - (a + 1)) (fun e he => hs _ (by omega) (by omega))
        rw [show a - (f + 1) + 1 + (x - (a + 1)) = x - (f + 1) by omega, s1] at this
        exact this
      · rcases a10 with ⟨f0, o, e⟩ | ⟨cJ, o, e⟩
        · left
          exact ⟨f0, o, by rw [e, new]⟩
        · right
          exact ⟨h3 o, o, by rw [e, new]⟩
theorem PSt_end {sq : Nat → Bool} {J need : Nat} {og : Prop} {lim : Nat} {r : Rc} (hJ : 1 ≤ J) (hJ2 : J ≤ 14400) (hn : 1 ≤ need) (hn2 : need ≤ 14400) (per : ∀ t, sq (t + J) = sq t) (q : PSt sq J need og lim r) (hx : ∃ t, t < J ∧ sq t = true) (h1 : r.2.2.2.2.1 = -1 → ∀ t, t < J → sq t = false) (h2 : ∀ c : Nat, c ≤ 20000 → r.2.2.2.2.1 = nI c → ∀ t, c ≤ t → t < J → sq t = false) (h3 : og → ∀ c : Nat, c ≤ 20000 → r.2.2.2.2.1 = nI c → J ≤ c) : ∃ x : Int32 × Int32, fsN sq J < J ∧ crI (nI J) (nI need) r = (nI (scn sq J need (fsN sq J) J).2.1, zI (scn sq J need (fsN sq J) J).2.2.1, nI (scn sq J need (fsN sq J) J).2.2.2.2, nI (scn sq J need (fsN sq J) J).2.2.2.1, x) := by
  rcases q with ⟨q, no⟩ | ⟨f, last, c, st, a1, a2, a3, a4, a5, a6, a7, a8, a9, a10⟩
  · subst q
    obtain ⟨t, t1, t2⟩ := hx
    have := h1 rfl t t1
    rw [t2] at this
    cases this
  · have fJ : f < J := by omega
    rw [fsN_is fJ a1 a2]
    have rc : r.2.2.2.2.1 = nI c := by
      rcases a10 with ⟨_, _, e⟩ | ⟨_, _, e⟩ <;> rw [e]
    have sc : scn sq J need f (c - (f + 1)) = st := a9 c (by omega) (Nat.le_refl _)
    rcases a10 with ⟨f0, o, e⟩ | ⟨cJ, o, e⟩
    · subst f0
      have cJ := h3 o c a7 rc
      have s1 := a9 J (by omega) cJ
      have s2 : scn sq J need 0 J = st := by
        have := scn_stay (sq := sq) (J := J) (need := need) (f := 0) (n := J - (0 + 1)) hn (by rw [s1]; exact a8) 1 (fun e he => by
          have := per 0
          rw [a1] at this
          rw [show 0 + 1 + (J - (0 + 1)) + e = 0 + J by omega]
          exact this)
        rw [show J - (0 + 1) + 1 = J by omega, s1] at this
        exact this
      refine ⟨(nI c, -1), fJ, ?_⟩
      rw [s2, e]
      unfold crI
      rw [if_pos rfl]
    · have uns := h2 c a7 rc
      have bd := scn_b sq f hJ hn (c - (f + 1))
      rw [sc] at bd
      have rn := scn_run (sq := sq) (J := J) (need := need) (f := f) (n := c - (f + 1)) (f + J - c) (fun e he => by
        by_cases k : f + 1 + (c - (f + 1)) + e < J
        · exact uns _ (by omega) k
        · have := per (f + 1 + (c - (f + 1)) + e - J)
          rw [show f + 1 + (c - (f + 1)) + e - J + J = f + 1 + (c - (f + 1)) + e by omega] at this
          rw [this]
          exact a2 _ (by omega))
      rw [show c - (f + 1) + (f + J - c) = J - 1 by omega, sc, a8, Nat.zero_add] at rn
      obtain ⟨r0, L, F, O, U⟩ := st
      simp only [] at a8 bd rn
      have s1 : scn sq J need f J = clo J need (f + J) (f + J - c, L, F, O, U) := by
        have : scn sq J need f (J - 1 + 1) = stp sq J need (f + 1 + (J - 1)) (scn sq J need f (J - 1)) := rfl
        rw [show J - 1 + 1 = J by omega] at this
        rw [this, rn, show f + 1 + (J - 1) = f + J by omega]
        unfold stp
        rw [if_pos (by rw [per]; exact a1)]
      refine ⟨(nI c, nI f), fJ, ?_⟩
      rw [s1, e]
      unfold crI
      rw [if_neg (nI_n1 (by omega))]
      simp only [nI_add]
      rw [pk_sub (by omega)]
      by_cases k : f + J - c = 0
      · rw [if_pos (by rw [k]; decide), k, clo_0 hn rfl]
      · rw [if_neg (show ¬ nI (f + J - c) ≤ (0 : Int32) from nI_ge (a := 0) (by omega) (by omega))]
        have hm : (f + J - (f + J - c)) % J = if J ≤ c then 0 else c := by
          rw [show f + J - (f + J - c) = c by omega]
          by_cases k2 : J ≤ c
          · rw [if_pos k2, show c = J by omega, Nat.mod_self]
          · rw [if_neg k2, Nat.mod_eq_of_lt (by omega)]
        have eb : (if nI J ≤ nI c then (0 : Int32) else nI c) = nI (if J ≤ c then 0 else c) := by
          by_cases k2 : J ≤ c
          · rw [if_pos k2, if_pos (nI_le k2 (by omega))]; rfl
          · rw [if_neg k2, if_neg (nI_ge (by omega) (by omega))]
        rw [eb, ng_clo (J := J) (need := need) (t := f + J) (l := f + J - c) (L := L) (O := O) (U := U) (F := F) (by omega) (by omega) hn hn2 (by omega) (by omega) (by omega) bd.2.2.2.1 (by omega) hm (by split <;> omega)]
/-- unseen parts, counted -/
theorem scn_cnt (sq : Nat → Bool) (J need f : Nat) : ∀ n, (scn sq J need f n).1 + (scn sq J need f n).2.2.2.2 = cnt (fun t => !sq (f + 1 + t)) n
  | 0 => rfl
  | n + 1 => by
    have ih := scn_cnt sq J need f n
    show (stp sq J need (f + 1 + n) (scn sq J need f n)).1 + (stp sq J need (f + 1 + n) (scn sq J need f n)).2.2.2.2 = cnt (fun t => !sq (f + 1 + t)) n + (if (!sq (f + 1 + n)) = true then 1 else 0)
    rw [← ih]
    unfold stp
    by_cases c : sq (f + 1 + n) = true
    · rw [if_pos c, c]
      unfold clo
      simp only [Bool.not_true]
      rw [if_neg (by decide)]
      omega
    · have c' : sq (f + 1 + n) = false := by simpa using c
      rw [if_neg c, c']
      simp only [Bool.not_false, if_true]
      omega
theorem cnt_shift (p : Nat → Bool) (a : Nat) : ∀ n, cnt p (a + n) = cnt p a + cnt (fun t => p (a + t)) n
  | 0 => rfl
  | n + 1 => by
    show cnt p (a + n) + (if p (a + n) = true then 1 else 0) = cnt p a + (cnt (fun t => p (a + t)) n + (if p (a + n) = true then 1 else 0))
    rw [cnt_shift p a n]
    omega
theorem cnt_turn {p : Nat → Bool} {J : Nat} (per : ∀ t, p (t + J) = p t) (a : Nat) : cnt (fun t => p (a + t)) J = cnt p J := by
  have h1 := cnt_shift p a J
  have h2 := cnt_shift p J a
  rw [Nat.add_comm J a, h1] at h2
  have h3 : cnt (fun t => p (J + t)) a = cnt p a := cnt_ext a (fun i _ => by show p (J + i) = p i; rw [Nat.add_comm]; exact per i)
  omega
theorem scn_U {sq : Nat → Bool} {J need f : Nat} (hJ : 1 ≤ J) (per : ∀ t, sq (t + J) = sq t) (hf : sq f = true) : (scn sq J need f J).2.2.2.2 = cnt (fun t => !sq t) J ∧ (scn sq J need f J).1 = 0 := by
  have h0 : (scn sq J need f J).1 = 0 := by
    have : scn sq J need f (J - 1 + 1) = stp sq J need (f + 1 + (J - 1)) (scn sq J need f (J - 1)) := rfl
    rw [show J - 1 + 1 = J by omega] at this
    rw [this, show f + 1 + (J - 1) = f + J by omega]
    unfold stp
    rw [if_pos (by rw [per]; exact hf)]
    rfl
  have h1 := scn_cnt sq J need f J
  have h2 := cnt_turn (p := fun t => !sq t) (J := J) (fun t => by show (!sq (t + J)) = !sq t; rw [per]) (f + 1)
  refine ⟨?_, h0⟩
  rw [← h2]
  omega
