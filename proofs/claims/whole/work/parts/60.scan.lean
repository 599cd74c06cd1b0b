/-! PURE 40: rows of unseen parts, read part by part; the reference's reading. A state: the row at hand, the longest, where it begins, openings, all unseen -/
def clo (J need t : Nat) (s : Nat × Nat × Int × Nat × Nat) : Nat × Nat × Int × Nat × Nat := (0, (if s.2.1 < s.1 ∨ (0 < s.1 ∧ s.1 = s.2.1 ∧ (((t - s.1) % J : Nat) : Int) < s.2.2.1) then s.1 else s.2.1), (if s.2.1 < s.1 ∨ (0 < s.1 ∧ s.1 = s.2.1 ∧ (((t - s.1) % J : Nat) : Int) < s.2.2.1) then (((t - s.1) % J : Nat) : Int) else s.2.2.1), s.2.2.2.1 + (if need ≤ s.1 then s.1 - need + 1 else 0), s.2.2.2.2 + s.1)
def stp (sq : Nat → Bool) (J need t : Nat) (s : Nat × Nat × Int × Nat × Nat) : Nat × Nat × Int × Nat × Nat := if sq t = true then clo J need t s else (s.1 + 1, s.2)
/-- behind the n parts that follow f -/
def scn (sq : Nat → Bool) (J need f : Nat) : Nat → Nat × Nat × Int × Nat × Nat
  | 0 => (0, 0, -9, 0, 0)
  | n + 1 => stp sq J need (f + 1 + n) (scn sq J need f n)
theorem clo_0 {J need t : Nat} (hn : 1 ≤ need) {s : Nat × Nat × Int × Nat × Nat} (h : s.1 = 0) : clo J need t s = s := by
  obtain ⟨r, L, F, O, U⟩ := s
  have h0 : r = 0 := h
  subst h0
  unfold clo
  simp only []
  rw [if_neg (by omega), if_neg (by omega), if_neg (by omega)]
  rfl
theorem scn_b (sq : Nat → Bool) {J need : Nat} (f : Nat) (hJ : 1 ≤ J) (hn : 1 ≤ need) : ∀ n, (scn sq J need f n).1 + (scn sq J need f n).2.2.2.2 ≤ n ∧ (scn sq J need f n).2.2.2.1 ≤ (scn sq J need f n).2.2.2.2 ∧ (scn sq J need f n).2.1 ≤ n ∧ -9 ≤ (scn sq J need f n).2.2.1 ∧ (scn sq J need f n).2.2.1 < J
  | 0 => by
    unfold scn
    simp only []
    omega
  | n + 1 => by
    obtain ⟨h1, h2, h3, h4, h5⟩ := scn_b sq f hJ hn n
    unfold scn stp
    generalize scn sq J need f n = s at *
    obtain ⟨r, L, F, O, U⟩ := s
    simp only [] at h1 h2 h3 h4 h5
    by_cases c : sq (f + 1 + n) = true
    · rw [if_pos c]
      unfold clo
      simp only []
      have hm := Nat.mod_lt (f + 1 + n - r) hJ
      refine ⟨by omega, ?_, ?_, ?_, ?_⟩
      · split <;> omega
      · split <;> omega
      · split <;> omega
      · split <;> omega
    · rw [if_neg c]
      simp only []
      omega
/-- only fields 33 to 35 of the reference change -/
def GFr (μ μ' : Mm) : Prop := (∀ c, c ≠ 0 → μ'.1 c = μ.1 c) ∧ (∀ f, f < 33 ∨ 35 < f → μ'.1 0 f = μ.1 0 f) ∧ μ'.2 = μ.2
theorem GFr.refl (μ : Mm) : GFr μ μ := ⟨fun _ _ => rfl, fun _ _ => rfl, rfl⟩
theorem GFr.trans {μ μ' μ'' : Mm} (a : GFr μ μ') (b : GFr μ' μ'') : GFr μ μ'' := ⟨fun c h => (b.1 c h).trans (a.1 c h), fun f h => (b.2.1 f h).trans (a.2.1 f h), b.2.2.trans a.2.2⟩
theorem GFr.fld {f : Nat} (h : 33 ≤ f) (h' : f ≤ 35) (μ : Mm) (v : Int32) : GFr μ (sI μ 0 f v) := ⟨fun c hc => sI_ne _ _ _ hc, fun g hg => by rw [sI_at, upd_ne _ _ (by omega)], rfl⟩
theorem GFr.mfr {μ μ' : Mm} (a : GFr μ μ') : MFr μ μ' := ⟨fun f h => a.2.1 f (by omega), fun c h => a.1 c (by omega), fun f _ => by rw [a.2.2]⟩
theorem M_close_end (N : Nat) {r need O : Nat} (hr : r ≤ 14400) (hn : 1 ≤ need) (hn2 : need ≤ 14400) (μ : Mm) (e : μ.1 0 35 = nI O) : f_M_closeRow_B48 N (nI r) (nI need) μ = some (sI μ 0 35 (nI (O + (if need ≤ r then r - need + 1 else 0)))) := by
  unfold f_M_closeRow_B48 f_M_closeRow_B67
  rw [e]
  by_cases c : need ≤ r
  · rw [if_neg (nI_nlt c (by omega)), if_pos c, pk_sub c, show (1 : Int32) = nI 1 from rfl, nI_add, nI_add]
  · rw [if_pos (nI_lt (by omega) (by omega)), if_neg c, show (0 : Int32) = nI 0 from rfl, nI_add]
theorem M_closeRow_eq (N : Nat) {J need t : Nat} {s : Nat × Nat × Int × Nat × Nat} (hJ : 1 ≤ J) (hJ2 : J ≤ 14400) (hn : 1 ≤ need) (hn2 : need ≤ 14400) (h1 : s.1 ≤ 14400) (h1t : s.1 ≤ t) (ht : t ≤ 30000) (h2 : s.2.1 ≤ 14400) (h3 : -9 ≤ s.2.2.1) (h4 : s.2.2.1 < J) (μ : Mm) (e31 : μ.1 0 31 = nI J) (e33 : μ.1 0 33 = nI s.2.1) (e34 : μ.1 0 34 = zI s.2.2.1) (e35 : μ.1 0 35 = nI s.2.2.2.1) : ∃ μ', f_M_closeRow N (nI s.1) (nI t - nI s.1) (nI need) μ = some μ' ∧ GFr μ μ' ∧ μ'.1 0 33 = nI (clo J need t s).2.1 ∧ μ'.1 0 34 = zI (clo J need t s).2.2.1 ∧ μ'.1 0 35 = nI (clo J need t s).2.2.2.1 := by
  obtain ⟨r, L, F, O, U⟩ := s
  simp only [] at h1 h1t h2 h3 h4 e33 e34 e35
  unfold f_M_closeRow
  have hm := Nat.mod_lt (t - r) hJ
  rw [e31, if_neg (nI_ne0 (by omega) (by omega)), pk_sub h1t, pk_rem (by omega) (by omega) (by omega), e33, e34]
  unfold clo
  simp only []
  have keep : ∃ μ', f_M_closeRow_B48 N (nI r) (nI need) μ = some μ' ∧ GFr μ μ' ∧ μ'.1 0 33 = nI L ∧ μ'.1 0 34 = zI F ∧ μ'.1 0 35 = nI (O + (if need ≤ r then r - need + 1 else 0)) := by
    refine ⟨_, M_close_end N h1 hn hn2 μ e35, GFr.fld (by decide) (by decide) μ _, ?_, ?_, ?_⟩
    · rw [sI_at, upd_ne _ _ (by decide), e33]
    · rw [sI_at, upd_ne _ _ (by decide), e34]
    · rw [sI_at, upd_eq]
  have take : ∃ μ', f_M_closeRow_B37 N (nI r) (nI need) (nI ((t - r) % J)) μ = some μ' ∧ GFr μ μ' ∧ μ'.1 0 33 = nI r ∧ μ'.1 0 34 = zI (((t - r) % J : Nat) : Int) ∧ μ'.1 0 35 = nI (O + (if need ≤ r then r - need + 1 else 0)) := by
    unfold f_M_closeRow_B37
    refine ⟨_, M_close_end N h1 hn hn2 _ (by rw [sI_at, upd_ne _ _ (by decide), sI_at, upd_ne _ _ (by decide), e35]), ((GFr.fld (by decide) (by decide) μ _).trans (GFr.fld (by decide) (by decide) _ _)).trans (GFr.fld (by decide) (by decide) _ _), ?_, ?_, ?_⟩
    · rw [sI_at, upd_ne _ _ (by decide), sI_at, upd_ne _ _ (by decide), sI_at, upd_eq]
    · rw [sI_at, upd_ne _ _ (by decide), sI_at, upd_eq]; rfl
    · rw [sI_at, upd_eq]
  have fle : zI F ≤ nI ((t - r) % J) ↔ ¬ (((t - r) % J : Nat) : Int) < F := by
    rw [le_I, zI_toInt (by omega) (by omega), tI (by omega)]
    omega
  by_cases c1 : L < r
  · rw [if_pos (nI_lt c1 (by omega)), if_pos (Or.inl c1), if_pos (Or.inl c1)]
    exact take
  · rw [if_neg (nI_nlt (by omega) (by omega))]
    by_cases c2 : r = 0
    · rw [if_pos (show nI r ≤ (0 : Int32) by rw [c2]; decide), if_neg (by omega), if_neg (by omega)]
      exact keep
    · rw [if_neg (show ¬ nI r ≤ (0 : Int32) from nI_ge (a := 0) (by omega) (by omega))]
      by_cases c3 : r = L
      · rw [if_pos (by rw [c3])]
        by_cases c4 : (((t - r) % J : Nat) : Int) < F
        · rw [if_neg (fun q => (fle.mp q) c4), if_pos (Or.inr ⟨by omega, c3, c4⟩), if_pos (Or.inr ⟨by omega, c3, c4⟩)]
          exact take
        · rw [if_pos (fle.mpr c4), if_neg (by omega), if_neg (by omega)]
          exact keep
      · rw [if_neg (fun q => c3 ((nI_eq (by omega) (by omega)).mp q)), if_neg (by omega), if_neg (by omega)]
        exact keep
/-- whether a post is seen: the table's word -/
theorem M_isSeen_eq (N : Nat) {J p t : Nat} (sv : Nat → Nat) (hJ : 1 ≤ J) (hJ2 : J ≤ 14400) (hp : p < 16) (ht : t ≤ 30000) (μ : Mm) (e31 : μ.1 0 31 = nI J) (tab : ∀ x, x < J → μ.1 21 x = nI (sv x) ∧ sv x < 65536) : f_M_isSeen N (nI p) (nI t) μ = some (b2 ((sv (t % J)).testBit p), μ) := by
  have hm := Nat.mod_lt t hJ
  obtain ⟨t1, t2⟩ := tab (t % J) hm
  unfold f_M_isSeen
  rw [e31, if_neg (nI_ne0 (by omega) (by omega)), pk_rem (by omega) (by omega) (by omega)]
  simp only []
  rw [if_pos (ixb_t (show t % J < 14400 by omega) (by decide)), nI_clamp (show t % J < 2 ^ 31 by omega), t1, bitN (by omega) (by omega)]
  by_cases c : (sv (t % J)).testBit p = true
  · rw [c, if_pos (by decide)]; rfl
  · have c' : (sv (t % J)).testBit p = false := by simpa using c
    rw [c', if_neg (by decide)]; rfl
theorem M_rows_scan (N : Nat) {J p need f : Nat} (sv : Nat → Nat) (sq : Nat → Bool) (hJ : 1 ≤ J) (hJ2 : J ≤ 14400) (hp : p < 16) (hn : 1 ≤ need) (hn2 : need ≤ 14400) (hf : f < J) (hs : ∀ t, sq t = (sv (t % J)).testBit p) : ∀ (m n : Nat) (μ : Mm), μ.1 0 31 = nI J → (∀ x, x < J → μ.1 21 x = nI (sv x) ∧ sv x < 65536) → n ≤ J → J < m + n → μ.1 0 33 = nI (scn sq J need f n).2.1 → μ.1 0 34 = zI (scn sq J need f n).2.2.1 → μ.1 0 35 = nI (scn sq J need f n).2.2.2.1 → ∃ μ', f_M_layRows_L72 N m (nI p) (nI need) (nI f) (nI (scn sq J need f n).1) (nI (f + 1 + n)) μ = some μ' ∧ GFr μ μ' ∧ μ'.1 0 33 = nI (scn sq J need f J).2.1 ∧ μ'.1 0 34 = zI (scn sq J need f J).2.2.1 ∧ μ'.1 0 35 = nI (scn sq J need f J).2.2.2.1 := by
  intro m
  induction m with
  | zero => intro n μ _ _ h1 h2; omega
  | succ m ih =>
    intro n μ e31 tab h1 h2 e33 e34 e35
    obtain ⟨b1, b2', b3, b4, b5⟩ := scn_b sq f hJ hn n
    rw [f_M_layRows_L72, e31, nI_add]
    by_cases c : n = J
    · rw [if_pos (nI_lt (by omega) (by omega))]
      subst c
      exact ⟨μ, rfl, GFr.refl μ, e33, e34, e35⟩
    · rw [if_neg (nI_nlt (by omega) (by omega)), M_isSeen_eq N sv hJ hJ2 hp (by omega) μ e31 tab, bnS, ← hs]
      unfold f_M_layRows_B114
      simp only [nI_1, nI_add]
      have st : scn sq J need f (n + 1) = stp sq J need (f + 1 + n) (scn sq J need f n) := rfl
      unfold stp at st
      by_cases q : sq (f + 1 + n) = true
      · rw [if_pos q] at st
        rw [q, if_neg (by decide)]
        obtain ⟨μ1, r1, r2, r3, r4, r5⟩ := M_closeRow_eq N (t := f + 1 + n) (s := scn sq J need f n) hJ hJ2 hn hn2 (by omega) (by omega) (by omega) (by omega) b4 b5 μ e31 e33 e34 e35
        rw [r1, bvS]
        rw [← st] at r3 r4 r5
        have z0 : (scn sq J need f (n + 1)).1 = 0 := by rw [st]; rfl
        obtain ⟨μ', s1, s2, s3, s4, s5⟩ := ih (n + 1) μ1 (by rw [r2.2.1 31 (by omega)]; exact e31) (fun x hx => by rw [r2.1 21 (by decide)]; exact tab x hx) (by omega) (by omega) r3 r4 r5
        rw [z0, show nI 0 = (0 : Int32) from rfl] at s1
        exact ⟨μ', s1, r2.trans s2, s3, s4, s5⟩
      · rw [if_neg q] at st
        have q' : sq (f + 1 + n) = false := by simpa using q
        rw [q', if_pos (by decide)]
        have := ih (n + 1) μ e31 tab (by omega) (by omega) (by rw [st]; exact e33) (by rw [st]; exact e34) (by rw [st]; exact e35)
        rw [show (scn sq J need f (n + 1)).1 = (scn sq J need f n).1 + 1 by rw [st]] at this
        exact this
/-- the first part at which it holds, below n; else n -/
def fsN (sq : Nat → Bool) : Nat → Nat
  | 0 => 0
  | n + 1 => if fsN sq n < n then fsN sq n else if sq n = true then n else n + 1
theorem fsN_spec (sq : Nat → Bool) : ∀ n, fsN sq n ≤ n ∧ (fsN sq n < n → sq (fsN sq n) = true) ∧ ∀ t, t < fsN sq n → sq t = false
  | 0 => ⟨Nat.le_refl _, fun h => by unfold fsN at h; omega, fun t h => by unfold fsN at h; omega⟩
  | n + 1 => by
    obtain ⟨a, b, c⟩ := fsN_spec sq n
    unfold fsN
    by_cases d : fsN sq n < n
    · rw [if_pos d]
      exact ⟨by omega, fun _ => b d, c⟩
    · rw [if_neg d]
      have e : fsN sq n = n := by omega
      rw [e] at c
      by_cases q : sq n = true
      · rw [if_pos q]
        exact ⟨by omega, fun _ => q, c⟩
      · rw [if_neg q]
        refine ⟨by omega, fun h => by omega, fun t h => ?_⟩
        by_cases x : t = n
        · subst x; simpa using q
        · exact c t (by omega)
theorem fsN_is {sq : Nat → Bool} {n f : Nat} (hf : f < n) (h : sq f = true) (h0 : ∀ t, t < f → sq t = false) : fsN sq n = f := by
  obtain ⟨a, b, c⟩ := fsN_spec sq n
  rcases Nat.lt_trichotomy (fsN sq n) f with x | x | x
  · have := b (by omega)
    rw [h0 _ x] at this
    cases this
  · exact x
  · have := c f x
    rw [h] at this
    cases this
theorem fsN_no {sq : Nat → Bool} {n : Nat} (h : ∀ t, t < n → sq t = false) : fsN sq n = n := by
  obtain ⟨a, b, c⟩ := fsN_spec sq n
  rcases Nat.lt_or_ge (fsN sq n) n with x | x
  · have := b x
    rw [h _ x] at this
    cases this
  · omega
/-- the answers of a reading: the longest row, where it begins, openings -/
def rL (sq : Nat → Bool) (J : Nat) : Int := if fsN sq J = J then -9 else ((scn sq J 1 (fsN sq J) J).2.1 : Nat)
def rF (sq : Nat → Bool) (J : Nat) : Int := if fsN sq J = J then -9 else (scn sq J 1 (fsN sq J) J).2.2.1
def rO (sq : Nat → Bool) (J need : Nat) : Nat := if fsN sq J = J then J else (scn sq J need (fsN sq J) J).2.2.2.1
/-- the longest does not hang on what a thief needs -/
theorem scn_need (sq : Nat → Bool) (J n1 n2 f : Nat) : ∀ n, (scn sq J n1 f n).1 = (scn sq J n2 f n).1 ∧ (scn sq J n1 f n).2.1 = (scn sq J n2 f n).2.1 ∧ (scn sq J n1 f n).2.2.1 = (scn sq J n2 f n).2.2.1 ∧ (scn sq J n1 f n).2.2.2.2 = (scn sq J n2 f n).2.2.2.2
  | 0 => ⟨rfl, rfl, rfl, rfl⟩
  | n + 1 => by
    obtain ⟨a, b, c, d⟩ := scn_need sq J n1 n2 f n
    unfold scn stp
    by_cases q : sq (f + 1 + n) = true
    · rw [if_pos q, if_pos q]
      unfold clo
      simp only [a, b, c, d]
      exact ⟨trivial, trivial, trivial, trivial⟩
    · rw [if_neg q, if_neg q]
      exact ⟨by simp only [a], b, c, d⟩
theorem M_layRows_eq (N : Nat) (hN : 61000 ≤ N) {J p need : Nat} (sv : Nat → Nat) (sq : Nat → Bool) (hJ : 1 ≤ J) (hJ2 : J ≤ 14400) (hp : p < 16) (hn : 1 ≤ need) (hn2 : need ≤ 14400) (hs : ∀ t, sq t = (sv (t % J)).testBit p) (μ : Mm) (e31 : μ.1 0 31 = nI J) (tab : ∀ x, x < J → μ.1 21 x = nI (sv x) ∧ sv x < 65536) : ∃ μ', f_M_layRows N (nI p) (nI need) μ = some μ' ∧ GFr μ μ' ∧ μ'.1 0 33 = zI (rL sq J) ∧ μ'.1 0 34 = zI (rF sq J) ∧ μ'.1 0 35 = nI (rO sq J need) := by
  obtain ⟨fa, fb, fc⟩ := fsN_spec sq J
  unfold f_M_layRows
  simp only []
  have f0 : GFr μ (sI (sI (sI μ 0 33 0) 0 34 (-9)) 0 35 0) := ((GFr.fld (by decide) (by decide) μ _).trans (GFr.fld (by decide) (by decide) _ _)).trans (GFr.fld (by decide) (by decide) _ _)
  have a33 : (sI (sI (sI μ 0 33 0) 0 34 (-9)) 0 35 0).1 0 33 = 0 := by rw [sI_at, upd_ne _ _ (by decide), sI_at, upd_ne _ _ (by decide), sI_at, upd_eq]
  have a34 : (sI (sI (sI μ 0 33 0) 0 34 (-9)) 0 35 0).1 0 34 = -9 := by rw [sI_at, upd_ne _ _ (by decide), sI_at, upd_eq]
  have a35 : (sI (sI (sI μ 0 33 0) 0 34 (-9)) 0 35 0).1 0 35 = 0 := by rw [sI_at, upd_eq]
  generalize sI (sI (sI μ 0 33 0) 0 34 (-9)) 0 35 0 = μ1 at f0 a33 a34 a35
  have e31' : μ1.1 0 31 = nI J := by rw [f0.2.1 31 (by omega)]; exact e31
  have tab' : ∀ x, x < J → μ1.1 21 x = nI (sv x) ∧ sv x < 65536 := fun x hx => by rw [f0.1 21 (by decide)]; exact tab x hx
  have srch : ∀ (m t : Nat), t ≤ fsN sq J → fsN sq J < m + t → f_M_layRows_L18 N m (nI p) (nI need) (nI t) μ1 = f_M_layRows_B41 N (nI p) (nI need) (nI (fsN sq J)) μ1 := by
    intro m
    induction m with
    | zero => intro t h1 h2; omega
    | succ m ih =>
      intro t h1 h2
      rw [f_M_layRows_L18, e31']
      by_cases c : t = J
      · rw [if_pos (nI_le (by omega) (by omega)), show fsN sq J = t by omega]
      · rw [if_neg (nI_ge (by omega) (by omega)), M_isSeen_eq N sv hJ hJ2 hp (by omega) μ1 e31' tab', bnS, ← hs]
        by_cases q : sq t = true
        · have : fsN sq J = t := by
            rcases Nat.lt_or_ge t (fsN sq J) with x | x
            · have := fc t x
              rw [q] at this
              cases this
            · omega
          rw [q, if_neg (by decide), this]
        · have q' : sq t = false := by simpa using q
          rw [q', if_pos (by decide)]
          simp only [nI_1, nI_add]
          refine ih (t + 1) ?_ (by omega)
          rcases Nat.lt_or_ge t (fsN sq J) with x | x
          · exact x
          · have e : fsN sq J = t := by omega
            have := fb (by omega)
            rw [e] at this
            exact absurd this q
  have s0 := srch N 0 (by omega) (by omega)
  rw [show nI 0 = (0 : Int32) from rfl] at s0
  rw [s0]
  unfold f_M_layRows_B41 rL rF rO
  rw [e31']
  by_cases c : fsN sq J = J
  · rw [if_pos (by rw [c]), if_pos c, if_pos c, if_pos c]
    simp only []
    have e31'' : (sI μ1 0 33 (-9)).1 0 31 = nI J := by rw [sI_at, upd_ne _ _ (by decide), e31']
    rw [e31'']
    refine ⟨_, rfl, (f0.trans (GFr.fld (by decide) (by decide) μ1 _)).trans (GFr.fld (by decide) (by decide) _ _), ?_, ?_, ?_⟩
    · rw [sI_at, upd_ne _ _ (by decide), sI_at, upd_eq]; rfl
    · rw [sI_at, upd_ne _ _ (by decide), sI_at, upd_ne _ _ (by decide), a34]; rfl
    · rw [sI_at, upd_eq]
  · rw [if_neg (fun q => c ((nI_eq (by omega) (by omega)).mp q)), if_neg c, if_neg c, if_neg c]
    simp only [nI_1, nI_add]
    obtain ⟨μ', r1, r2, r3, r4, r5⟩ := M_rows_scan N sv sq hJ hJ2 hp hn hn2 (f := fsN sq J) (by omega) hs N 0 μ1 e31' tab' (by omega) (by omega) a33 a34 a35
    obtain ⟨_, q2, q3, _⟩ := scn_need sq J 1 need (fsN sq J) J
    rw [q2, q3]
    exact ⟨μ', r1, f0.trans r2, r3, r4, r5⟩
