/-! PURE 1: the relation between the class's memory and the reference's, block by block. RC: what the class keeps for itself (its caches), any that stays when other cells change. -/
def RT (a1 a2 : Int32) (u v : Int64) (ans : Nat → Int32) (b1 b2 : Int32) (u' v' : Int64) (came : Nat → Int32) : Prop :=
  a1 = b1 ∧ a2 = b2 ∧ u = u' ∧ v = v' ∧ ∀ f, f < 6 → ans f = came f
def RS (bytes sizes rows msizes : Nat → Int32) : Prop :=
  (∀ r, r < 8 → sizes r = msizes r ∧ -1 ≤ (msizes r).toInt ∧ (msizes r).toInt ≤ 40 ∧ ∀ i : Nat, (i : Int) < (msizes r).toInt → bytes (40 * r + i) = rows (40 * r + i)) ∧
  (∀ j, -128 ≤ (bytes j).toInt ∧ (bytes j).toInt ≤ 127) ∧ ∀ j, -128 ≤ (rows j).toInt ∧ (rows j).toInt ≤ 127
/-- pairs a < b < n for which f holds: how many -/
def cntR (f : Nat → Nat → Bool) (a : Nat) : Nat → Nat
  | 0 => 0
  | b + 1 => cntR f a b + (if a < b ∧ f a b = true then 1 else 0)
def cntP (f : Nat → Nat → Bool) (n : Nat) : Nat → Nat
  | 0 => 0
  | a + 1 => cntP f n a + cntR f a n
def RG (kind posts walls broken : Int32) (len wor bas : Nat → Int32) (mkind mposts : Int32) (mlen mbrk mwor mbas : Nat → Int32) : Prop :=
  kind = mkind ∧ (mkind = 0 ∨ mkind = 1 ∨ mkind = 2) ∧ posts = mposts ∧ ∃ n : Nat, 1 ≤ n ∧ n ≤ 16 ∧ mposts = nI n ∧
  (∀ a b, a < 16 → b < 16 → (0 ≤ (mlen (16 * a + b)).toInt ∧ (mlen (16 * a + b)).toInt ≤ 30) ∧ (mbrk (16 * a + b) = 0 ∨ mbrk (16 * a + b) = 1) ∧ mlen (16 * a + b) = mlen (16 * b + a) ∧ mbrk (16 * a + b) = mbrk (16 * b + a) ∧ (mlen (16 * a + b) = 0 → mbrk (16 * a + b) = 0) ∧ (a = b → mlen (16 * a + b) = 0) ∧ (n ≤ a ∨ n ≤ b → mlen (16 * a + b) = 0) ∧ len (16 * a + b) = (if mbrk (16 * a + b) = 0 then mlen (16 * a + b) else -mlen (16 * a + b))) ∧
  (∀ p, p < n → wor p = mwor p ∧ 0 ≤ (mwor p).toInt ∧ (mwor p).toInt ≤ 9) ∧ (∀ p, p < 16 → bas p = mbas p ∧ (mbas p = 0 ∨ mbas p = 1)) ∧
  walls = nI (cntP (fun a b => decide (mlen (16 * a + b) ≠ 0)) n n) ∧ broken = nI (cntP (fun a b => decide (mbrk (16 * a + b) ≠ 0)) n n) ∧ cntP (fun a b => decide (mlen (16 * a + b) ≠ 0)) n n ≤ 40 ∧
  (mkind = 0 → 2 ≤ n ∧ ∀ i, i + 1 < n → mlen (16 * i + (i + 1)) ≠ 0)
def RW1 (wo wp wr kind speed fuel post view lost gone size start : Nat → Int32) (ppost prest : Nat → Int32) (j : Nat) : Prop :=
  wo 0 = kind j ∧ wo 1 = speed j ∧ wo 2 = fuel j ∧ (kind j = 3 → wo 3 = post j) ∧ wo 4 = view j ∧ wo 5 = lost j ∧ wo 6 = gone j ∧ wo 8 = size j ∧ (size j ≠ 0 → wo 7 = start j) ∧
  (∀ i : Nat, (i : Int) < (size j).toInt → wp i = ppost (24 * j + i) ∧ wr i = prest (24 * j + i) ∧ (0 ≤ (ppost (24 * j + i)).toInt ∧ (ppost (24 * j + i)).toInt ≤ 15) ∧ (0 ≤ (prest (24 * j + i)).toInt ∧ (prest (24 * j + i)).toInt ≤ 127) ∧ ppost (24 * j + i) ≠ ppost (24 * j + (if ((i + 1 : Nat) : Int) < (size j).toInt then i + 1 else 0))) ∧
  (kind j = 0 ∨ kind j = 1 ∨ kind j = 2 ∨ kind j = 3) ∧ (1 ≤ (speed j).toInt ∧ (speed j).toInt ≤ 6) ∧ (0 ≤ (fuel j).toInt ∧ (fuel j).toInt ≤ 500) ∧ (0 ≤ (view j).toInt ∧ (view j).toInt ≤ 40) ∧ (lost j = 0 ∨ lost j = 1) ∧ (gone j = 0 ∨ gone j = 1) ∧
  (size j = 0 ∨ (2 ≤ (size j).toInt ∧ (size j).toInt ≤ 24)) ∧ (size j = 0 → start j = -9) ∧ (size j ≠ 0 → 0 ≤ (start j).toInt ∧ (start j).toInt < 14400) ∧ (kind j = 3 → size j = 0 ∧ 0 ≤ (post j).toInt ∧ (post j).toInt ≤ 15) ∧ (kind j = 0 ∨ kind j = 3 → speed j = 1)
def RW (made : Int32) (wo wp wr : Nat → Nat → Int32) (mw : Int32) (kind speed fuel post view lost gone size ppost prest start : Nat → Int32) : Prop :=
  made = mw ∧ ∃ w : Nat, w ≤ 8 ∧ mw = nI w ∧ (∀ j, j < w → RW1 (wo j) (wp j) (wr j) kind speed fuel post view lost gone size start ppost prest j) ∧ ∀ j, w ≤ j → j < 8 → wo j 4 = 0 ∧ wo j 5 = 0 ∧ wo j 6 = 0 ∧ wo j 8 = 0
def RP (firsts lasts mfst mlst : Nat → Int32) : Prop := ∀ w, w < 8 → firsts w = mfst w ∧ lasts w = mlst w
def RTx (μx μm : Mm) : Prop := RT (μx.1 1 1) (μx.1 1 2) (μx.2 1 3) (μx.2 1 4) (μx.1 2) (μm.1 0 0) (μm.1 0 2) (μm.2 0 3) (μm.2 0 4) (μm.1 1)
def RSx (μx μm : Mm) : Prop := RS (μx.1 4) (μx.1 5) (μm.1 3) (μm.1 2)
def RGx (μx μm : Mm) : Prop := RG (μx.1 6 0) (μx.1 6 1) (μx.1 6 2) (μx.1 6 3) (μx.1 7) (μx.1 8) (μx.1 9) (μm.1 0 8) (μm.1 0 9) (μm.1 5) (μm.1 6) (μm.1 7) (μm.1 8)
def RWx (μx μm : Mm) : Prop := RW (μx.1 11 1) (fun j => μx.1 (WK j)) (fun j => μx.1 (WK j + 1)) (fun j => μx.1 (WK j + 2)) (μm.1 0 15) (μm.1 10) (μm.1 11) (μm.1 12) (μm.1 13) (μm.1 14) (μm.1 15) (μm.1 16) (μm.1 17) (μm.1 18) (μm.1 19) (μm.1 20)
def RPx (μx μm : Mm) : Prop := RP (μx.1 80) (μx.1 81) (μm.1 29) (μm.1 30)
def Rel (RC : Nat → Mm → Prop) (k : Nat) (μx μm : Mm) : Prop := RTx μx μm ∧ RSx μx μm ∧ RGx μx μm ∧ RWx μx μm ∧ RPx μx μm ∧ μm.1 0 27 = 0 ∧ RC k μx
/-- what the class keeps for itself: it lasts; it hangs on cells 6 to 60 and 75 to 77 alone; the ground's version is small; it lasts when the ground changes and its version grows, and when a walker changes and the crew is marked old -/
def RCok (RC : Nat → Mm → Prop) : Prop := (∀ k μ, RC k μ → RC (k + 1) μ) ∧ (∀ k μ μ', (∀ c, (6 ≤ c ∧ c ≤ 60) ∨ (75 ≤ c ∧ c ≤ 77) → μ'.1 c = μ.1 c) → RC k μ → RC k μ') ∧
  (∀ k μ, RC k μ → ∃ v : Nat, μ.1 6 4 = nI v ∧ v ≤ 17 * k) ∧
  (∀ k μ μ' (v v' : Nat), RC k μ → (∀ c, (10 ≤ c ∧ c ≤ 60) ∨ (75 ≤ c ∧ c ≤ 77) → μ'.1 c = μ.1 c) → μ.1 6 4 = nI v → v ≤ 17 * k → μ'.1 6 4 = nI v' → v < v' → v' ≤ 17 * (k + 1) → (μ'.1 6 9 = 1 ∨ (μ'.1 6 9 = μ.1 6 9 ∧ μ'.1 6 1 = μ.1 6 1 ∧ μ'.1 7 = μ.1 7)) → RC (k + 1) μ') ∧
  (∀ k μ μ', RC k μ → (∀ c, (6 ≤ c ∧ c ≤ 10) ∨ (75 ≤ c ∧ c ≤ 77) → μ'.1 c = μ.1 c) → μ'.1 11 4 = 1 → μ'.1 11 5 = μ.1 11 5 → RC (k + 1) μ')
/-- nothing was written -/
theorem Rel.next {RC : Nat → Mm → Prop} (hR : RCok RC) {k : Nat} {μx μm : Mm} (h : Rel RC k μx μm) : Rel RC (k + 1) μx μm := ⟨h.1, h.2.1, h.2.2.1, h.2.2.2.1, h.2.2.2.2.1, h.2.2.2.2.2.1, hR.1 k μx h.2.2.2.2.2.2⟩
theorem RW_cells {μx μx' μm μm' : Mm} (hx : ∀ c, 11 ≤ c → c ≤ 60 → μx'.1 c = μx.1 c) (h0 : μm'.1 0 15 = μm.1 0 15) (hm : ∀ c, 10 ≤ c → c ≤ 20 → μm'.1 c = μm.1 c) (h : RWx μx μm) : RWx μx' μm' := by
  obtain ⟨h1, w, hw, e, hj, hk⟩ := h
  have key : ∀ j, j < 8 → μx'.1 (WK j) = μx.1 (WK j) ∧ μx'.1 (WK j + 1) = μx.1 (WK j + 1) ∧ μx'.1 (WK j + 2) = μx.1 (WK j + 2) := fun j hj => by
    unfold WK
    exact ⟨hx _ (by omega) (by omega), hx _ (by omega) (by omega), hx _ (by omega) (by omega)⟩
  refine ⟨by rw [hx 11 (by omega) (by omega), h0]; exact h1, w, hw, by rw [h0]; exact e, fun j h => ?_, fun j h1 h2 => ?_⟩
  · obtain ⟨a, b, c⟩ := key j (by omega)
    show RW1 (μx'.1 (WK j)) (μx'.1 (WK j + 1)) (μx'.1 (WK j + 2)) _ _ _ _ _ _ _ _ _ _ _ j
    rw [a, b, c, hm 10 (by omega) (by omega), hm 11 (by omega) (by omega), hm 12 (by omega) (by omega), hm 13 (by omega) (by omega), hm 14 (by omega) (by omega), hm 15 (by omega) (by omega), hm 16 (by omega) (by omega), hm 17 (by omega) (by omega), hm 18 (by omega) (by omega), hm 19 (by omega) (by omega), hm 20 (by omega) (by omega)]
    exact hj j h
  · obtain ⟨a, b, c⟩ := key j h2
    show μx'.1 (WK j) 4 = 0 ∧ μx'.1 (WK j) 5 = 0 ∧ μx'.1 (WK j) 6 = 0 ∧ μx'.1 (WK j) 8 = 0
    rw [a]
    exact hk j h1 h2
/-- a finding on both sides -/
theorem Rel.found {RC : Nat → Mm → Prop} (hR : RCok RC) {k : Nat} {μx μm : Mm} (h : Rel RC k μx μm) (f : Nat) : Rel RC (k + 1) (tf μx f) (mf μm f) := by
  obtain ⟨hT, hS, hG, hW, hP, h0, hC⟩ := h
  obtain ⟨t1, t2, t3, t4, t5⟩ := hT
  refine ⟨⟨rfl, t2, t3, t4, fun g hg => ?_⟩, hS, hG, RW_cells (μx := μx) (μm := μm) (fun c _ _ => ?_) rfl (fun c _ _ => ?_) hW, hP, h0, hR.1 k _ (hR.2.1 k μx _ (fun c hc => ?_) hC)⟩
  · show upd (μx.1 2) f (μx.1 2 f + 1) g = upd (μm.1 1) f (μm.1 1 f + 1) g
    rw [upd_at, upd_at]
    by_cases e : g = f
    · subst e
      rw [if_pos rfl, if_pos rfl, t5 g hg]
    · rw [if_neg e, if_neg e, t5 g hg]
  · simp only [tf, sI1]; rw [if_neg (by omega), if_neg (by omega)]
  · simp only [mf, sI1]; rw [if_neg (by omega), if_neg (by omega)]
  · simp only [tf, sI1]; rw [if_neg (by omega), if_neg (by omega)]
