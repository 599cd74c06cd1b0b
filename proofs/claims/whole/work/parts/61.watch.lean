/-! PURE 41: the class's watch: what each piece does to the six numbers of a post: longest, its begin, unseen, openings, covered, first seen -/
abbrev Rc : Type := Int32 × Int32 × Int32 × Int32 × Int32 × Int32
def rd (μ : Mm) (p : Nat) : Rc := (μ.1 62 p, μ.1 63 p, μ.1 64 p, μ.1 65 p, μ.1 66 p, μ.1 67 p)
/-- only the six numbers of posts change -/
def PFr (μ μ' : Mm) : Prop := (∀ c, c < 62 ∨ 67 < c → μ'.1 c = μ.1 c) ∧ μ'.2 = μ.2
theorem PFr.refl (μ : Mm) : PFr μ μ := ⟨fun _ _ => rfl, rfl⟩
theorem PFr.trans {μ μ' μ'' : Mm} (a : PFr μ μ') (b : PFr μ' μ'') : PFr μ μ'' := ⟨fun c h => (b.1 c h).trans (a.1 c h), b.2.trans a.2⟩
theorem PFr.fld {c : Nat} (h : 62 ≤ c) (h' : c ≤ 67) (μ : Mm) (p : Nat) (v : Int32) : PFr μ (sI μ c p v) := ⟨fun d hd => sI_ne _ _ _ (by omega), rfl⟩
theorem PFr.xfr {μ μ' : Mm} (a : PFr μ μ') : XFr μ μ' := ⟨fun c h => a.1 c (by omega), by rw [a.2]⟩
theorem rd_ne {c : Nat} (μ : Mm) {p q : Nat} (h : q ≠ p) (v : Int32) : rd (sI μ c p v) q = rd μ q := by
  have : ∀ d, (sI μ c p v).1 d q = μ.1 d q := fun d => by
    rw [sI1]
    split
    · rename_i e
      rw [upd_ne _ _ h, e]
    · rfl
  unfold rd
  rw [this, this, this, this, this, this]
theorem rd62 (μ : Mm) (p : Nat) (v : Int32) : rd (sI μ 62 p v) p = (v, (rd μ p).2) := by
  unfold rd
  rw [sI_at, upd_eq, sI_ne _ _ _ (by decide), sI_ne _ _ _ (by decide), sI_ne _ _ _ (by decide), sI_ne _ _ _ (by decide), sI_ne _ _ _ (by decide)]
theorem rd63 (μ : Mm) (p : Nat) (v : Int32) : rd (sI μ 63 p v) p = ((rd μ p).1, v, (rd μ p).2.2) := by
  unfold rd
  rw [sI_at, upd_eq, sI_ne _ _ _ (by decide), sI_ne _ _ _ (by decide), sI_ne _ _ _ (by decide), sI_ne _ _ _ (by decide), sI_ne _ _ _ (by decide)]
theorem rd64 (μ : Mm) (p : Nat) (v : Int32) : rd (sI μ 64 p v) p = ((rd μ p).1, (rd μ p).2.1, v, (rd μ p).2.2.2) := by
  unfold rd
  rw [sI_at, upd_eq, sI_ne _ _ _ (by decide), sI_ne _ _ _ (by decide), sI_ne _ _ _ (by decide), sI_ne _ _ _ (by decide), sI_ne _ _ _ (by decide)]
theorem rd65 (μ : Mm) (p : Nat) (v : Int32) : rd (sI μ 65 p v) p = ((rd μ p).1, (rd μ p).2.1, (rd μ p).2.2.1, v, (rd μ p).2.2.2.2) := by
  unfold rd
  rw [sI_at, upd_eq, sI_ne _ _ _ (by decide), sI_ne _ _ _ (by decide), sI_ne _ _ _ (by decide), sI_ne _ _ _ (by decide), sI_ne _ _ _ (by decide)]
theorem rd66 (μ : Mm) (p : Nat) (v : Int32) : rd (sI μ 66 p v) p = ((rd μ p).1, (rd μ p).2.1, (rd μ p).2.2.1, (rd μ p).2.2.2.1, v, (rd μ p).2.2.2.2.2) := by
  unfold rd
  rw [sI_at, upd_eq, sI_ne _ _ _ (by decide), sI_ne _ _ _ (by decide), sI_ne _ _ _ (by decide), sI_ne _ _ _ (by decide), sI_ne _ _ _ (by decide)]
theorem rd67 (μ : Mm) (p : Nat) (v : Int32) : rd (sI μ 67 p v) p = ((rd μ p).1, (rd μ p).2.1, (rd μ p).2.2.1, (rd μ p).2.2.2.1, (rd μ p).2.2.2.2.1, v) := by
  unfold rd
  rw [sI_at, upd_eq, sI_ne _ _ _ (by decide), sI_ne _ _ _ (by decide), sI_ne _ _ _ (by decide), sI_ne _ _ _ (by decide), sI_ne _ _ _ (by decide)]
/-- a gap is noted -/
def ngI (need b l : Int32) (r : Rc) : Rc := (if r.1 < l ∨ (l = r.1 ∧ ¬ r.2.1 ≤ b) then l else r.1, if r.1 < l ∨ (l = r.1 ∧ ¬ r.2.1 ≤ b) then b else r.2.1, r.2.2.1 + l, r.2.2.2.1 + (if need ≤ l then l - need + 1 else 0), r.2.2.2.2)
def mxI (a b : Int32) : Int32 := if b.toInt ≤ a.toInt then a else b
theorem Jmax' (N : Nat) (a b : Int32) (μ : Mm) : f_Jm_max_7cf53 N a b μ = some (mxI a b, μ) := Jmax N a b μ
/-- a visit is seen -/
def soI (need a b : Int32) (r : Rc) : Rc := if r.2.2.2.2.1 = -1 then (r.1, r.2.1, r.2.2.1, r.2.2.2.1, mxI r.2.2.2.2.1 b, a) else if a ≤ r.2.2.2.2.1 then (r.1, r.2.1, r.2.2.1, r.2.2.2.1, mxI r.2.2.2.2.1 b, r.2.2.2.2.2) else ((ngI need r.2.2.2.2.1 (a - r.2.2.2.2.1) r).1, (ngI need r.2.2.2.2.1 (a - r.2.2.2.2.1) r).2.1, (ngI need r.2.2.2.2.1 (a - r.2.2.2.2.1) r).2.2.1, (ngI need r.2.2.2.2.1 (a - r.2.2.2.2.1) r).2.2.2.1, mxI r.2.2.2.2.1 b, r.2.2.2.2.2)
theorem Wa_noteGap_eq (N : Nat) {p : Nat} (hp : p < 16) (b l : Int32) (μ : Mm) : ∃ μ', f_Wa_noteGap N (nI p) b l μ = some μ' ∧ PFr μ μ' ∧ (∀ q, q ≠ p → rd μ' q = rd μ q) ∧ rd μ' p = ngI (μ.1 61 15) b l (rd μ p) := by
  unfold f_Wa_noteGap
  simp only [if_pos (ixb_t hp (show 16 < 2 ^ 31 by decide)), nI_clamp (show p < 2 ^ 31 by omega)]
  have e15 : (sI μ 64 p (μ.1 64 p + l)).1 61 15 = μ.1 61 15 := by rw [sI_ne _ _ _ (by decide)]
  have e65 : (sI μ 64 p (μ.1 64 p + l)).1 65 p = μ.1 65 p := by rw [sI_ne _ _ _ (by decide)]
  rw [e15, e65]
  have key : ∀ s3 : Int32, ∃ μ', f_Wa_noteGap_B37 N (nI p) b l (nI p) (μ.1 65 p) s3 (sI μ 64 p (μ.1 64 p + l)) = some μ' ∧ PFr μ μ' ∧ (∀ q, q ≠ p → rd μ' q = rd μ q) ∧ rd μ' p = (if (rd μ p).1 < l ∨ (l = (rd μ p).1 ∧ ¬ (rd μ p).2.1 ≤ b) then l else (rd μ p).1, if (rd μ p).1 < l ∨ (l = (rd μ p).1 ∧ ¬ (rd μ p).2.1 ≤ b) then b else (rd μ p).2.1, (rd μ p).2.2.1 + l, (rd μ p).2.2.2.1 + s3, (rd μ p).2.2.2.2) := by
    intro s3
    unfold f_Wa_noteGap_B37
    simp only [if_pos (ixb_t hp (show 16 < 2 ^ 31 by decide)), nI_clamp (show p < 2 ^ 31 by omega)]
    have e62 : (sI (sI μ 64 p (μ.1 64 p + l)) 65 p (μ.1 65 p + s3)).1 62 p = μ.1 62 p := by rw [sI_ne _ _ _ (by decide), sI_ne _ _ _ (by decide)]
    have e63 : (sI (sI μ 64 p (μ.1 64 p + l)) 65 p (μ.1 65 p + s3)).1 63 p = μ.1 63 p := by rw [sI_ne _ _ _ (by decide), sI_ne _ _ _ (by decide)]
    have f1 : PFr μ (sI (sI μ 64 p (μ.1 64 p + l)) 65 p (μ.1 65 p + s3)) := (PFr.fld (by decide) (by decide) μ _ _).trans (PFr.fld (by decide) (by decide) _ _ _)
    have r1 : rd (sI (sI μ 64 p (μ.1 64 p + l)) 65 p (μ.1 65 p + s3)) p = ((rd μ p).1, (rd μ p).2.1, (rd μ p).2.2.1 + l, (rd μ p).2.2.2.1 + s3, (rd μ p).2.2.2.2) := by
      rw [rd65, rd64]; rfl
    have r2 : ∀ q, q ≠ p → rd (sI (sI μ 64 p (μ.1 64 p + l)) 65 p (μ.1 65 p + s3)) q = rd μ q := fun q hq => by rw [rd_ne _ hq, rd_ne _ hq]
    rw [e62, e63]
    generalize sI (sI μ 64 p (μ.1 64 p + l)) 65 p (μ.1 65 p + s3) = μ5 at f1 r1 r2
    have take : ∃ μ', f_Wa_noteGap_B69 N (nI p) b l μ5 = some μ' ∧ PFr μ μ' ∧ (∀ q, q ≠ p → rd μ' q = rd μ q) ∧ rd μ' p = (l, b, (rd μ p).2.2.1 + l, (rd μ p).2.2.2.1 + s3, (rd μ p).2.2.2.2) := by
      unfold f_Wa_noteGap_B69
      simp only [if_pos (ixb_t hp (show 16 < 2 ^ 31 by decide)), nI_clamp (show p < 2 ^ 31 by omega)]
      refine ⟨_, rfl, (f1.trans (PFr.fld (by decide) (by decide) μ5 _ _)).trans (PFr.fld (by decide) (by decide) _ _ _), fun q hq => by rw [rd_ne _ hq, rd_ne _ hq, r2 q hq], ?_⟩
      rw [rd63, rd62, r1]
    by_cases c1 : μ.1 62 p < l
    · rw [if_pos c1, if_pos (show (rd μ p).1 < l ∨ _ from Or.inl c1), if_pos (show (rd μ p).1 < l ∨ _ from Or.inl c1)]
      exact take
    · rw [if_neg c1]
      by_cases c2 : l = μ.1 62 p
      · rw [if_pos c2]
        by_cases c3 : μ.1 63 p ≤ b
        · rw [if_pos c3, if_neg (show ¬ ((rd μ p).1 < l ∨ (l = (rd μ p).1 ∧ ¬ (rd μ p).2.1 ≤ b)) from fun q => q.elim c1 (fun q => q.2 c3)), if_neg (show ¬ ((rd μ p).1 < l ∨ (l = (rd μ p).1 ∧ ¬ (rd μ p).2.1 ≤ b)) from fun q => q.elim c1 (fun q => q.2 c3))]
          exact ⟨μ5, rfl, f1, r2, r1⟩
        · rw [if_neg c3, if_pos (show (rd μ p).1 < l ∨ _ from Or.inr ⟨c2, c3⟩), if_pos (show (rd μ p).1 < l ∨ _ from Or.inr ⟨c2, c3⟩)]
          exact take
      · rw [if_neg c2, if_neg (show ¬ ((rd μ p).1 < l ∨ (l = (rd μ p).1 ∧ ¬ (rd μ p).2.1 ≤ b)) from fun q => q.elim c1 (fun q => c2 q.1)), if_neg (show ¬ ((rd μ p).1 < l ∨ (l = (rd μ p).1 ∧ ¬ (rd μ p).2.1 ≤ b)) from fun q => q.elim c1 (fun q => c2 q.1))]
        exact ⟨μ5, rfl, f1, r2, r1⟩
  unfold ngI
  by_cases c : μ.1 61 15 ≤ l
  · rw [if_pos c, if_pos c]
    exact key _
  · rw [if_neg c, if_neg c]
    exact key 0
theorem Wa_seeOne_end (N : Nat) {p : Nat} (hp : p < 16) (b : Int32) (μ : Mm) : ∃ μ', f_Wa_seeOne_B49 N (nI p) b μ = some μ' ∧ PFr μ μ' ∧ (∀ q, q ≠ p → rd μ' q = rd μ q) ∧ rd μ' p = ((rd μ p).1, (rd μ p).2.1, (rd μ p).2.2.1, (rd μ p).2.2.2.1, mxI (rd μ p).2.2.2.2.1 b, (rd μ p).2.2.2.2.2) := by
  unfold f_Wa_seeOne_B49
  simp only [if_pos (ixb_t hp (show 16 < 2 ^ 31 by decide)), nI_clamp (show p < 2 ^ 31 by omega), Jmax', bnS]
  exact ⟨_, rfl, PFr.fld (by decide) (by decide) μ _ _, fun q hq => rd_ne _ hq _, rd66 μ p _⟩
theorem Wa_seeOne_eq (N : Nat) {p : Nat} (hp : p < 16) (a b : Int32) (μ : Mm) : ∃ μ', f_Wa_seeOne N (nI p) a b μ = some μ' ∧ PFr μ μ' ∧ (∀ q, q ≠ p → rd μ' q = rd μ q) ∧ rd μ' p = soI (μ.1 61 15) a b (rd μ p) := by
  unfold f_Wa_seeOne soI
  simp only [if_pos (ixb_t hp (show 16 < 2 ^ 31 by decide)), nI_clamp (show p < 2 ^ 31 by omega)]
  by_cases c1 : μ.1 66 p = -1
  · rw [if_pos c1, if_pos (show (rd μ p).2.2.2.2.1 = -1 from c1)]
    obtain ⟨μ', r1, r2, r3, r4⟩ := Wa_seeOne_end N hp b (sI μ 67 p a)
    refine ⟨μ', r1, (PFr.fld (by decide) (by decide) μ _ _).trans r2, fun q hq => by rw [r3 q hq, rd_ne _ hq], ?_⟩
    rw [r4, rd67]
  · rw [if_neg c1, if_neg (show ¬ (rd μ p).2.2.2.2.1 = -1 from c1)]
    by_cases c2 : a ≤ μ.1 66 p
    · rw [if_pos c2, if_pos (show a ≤ (rd μ p).2.2.2.2.1 from c2)]
      exact Wa_seeOne_end N hp b μ
    · rw [if_neg c2, if_neg (show ¬ a ≤ (rd μ p).2.2.2.2.1 from c2)]
      obtain ⟨μ1, s1, s2, s3, s4⟩ := Wa_noteGap_eq N hp (μ.1 66 p) (a - μ.1 66 p) μ
      obtain ⟨μ', r1, r2, r3, r4⟩ := Wa_seeOne_end N hp b μ1
      rw [s1, bvS]
      refine ⟨μ', r1, s2.trans r2, fun q hq => by rw [r3 q hq, s3 q hq], ?_⟩
      rw [r4, s4]
      rfl
theorem shr1 {B : Nat} (h : B < 2 ^ 31) : nI B >>> ((1 : Int32) &&& 31) = nI (B / 2) := pk_shrN h _ 1 (by decide)
theorem andOne {B : Nat} (h : B < 2 ^ 31) : nI B &&& (1 : Int32) = b2 (B.testBit 0) := by
  have := bitN (a := B) (p := 0) h (by decide)
  rw [show nI B >>> (nI 0 &&& 31) = nI B from ?_] at this
  · exact this
  · have := pk_shrN h (nI 0 &&& 31) 0 (by decide)
    rw [this, Nat.pow_zero, Nat.div_one]
theorem Wa_see_loop (N : Nat) (a b : Int32) : ∀ (m p B : Nat) (μ : Mm), p ≤ 16 → 16 < m + p → B < 65536 → ∃ μ', f_Wa_see_L6 N m a b (nI B) (nI p) μ = some μ' ∧ PFr μ μ' ∧ ∀ q, q < 16 → rd μ' q = if p ≤ q ∧ B.testBit (q - p) = true then soI (μ.1 61 15) a b (rd μ q) else rd μ q := by
  intro m
  induction m with
  | zero => intro p B μ h1 h2; omega
  | succ m ih =>
    intro p B μ h1 h2 hB
    rw [f_Wa_see_L6]
    by_cases c : p = 16
    · subst c
      rw [if_pos (by decide)]
      exact ⟨μ, rfl, PFr.refl μ, fun q hq => by rw [if_neg (by omega)]⟩
    · rw [if_neg (show ¬ (16 : Int32) ≤ nI p from nI_ge (b := 16) (by omega) (by decide))]
      by_cases z : B = 0
      · subst z
        rw [if_pos (by decide)]
        exact ⟨μ, rfl, PFr.refl μ, fun q hq => by rw [Nat.zero_testBit, if_neg (by simp)]⟩
      · rw [if_neg (nI_ne0 (by omega) (by omega)), andOne (by omega)]
        unfold f_Wa_see_B33
        simp only [shr1 (show B < 2 ^ 31 by omega), nI_1, nI_add]
        have tb : ∀ q, p + 1 ≤ q → (B / 2).testBit (q - (p + 1)) = B.testBit (q - p) := fun q hq => by
          rw [show q - p = (q - (p + 1)) + 1 by omega, Nat.testBit_succ]
        by_cases d : B.testBit 0 = true
        · rw [d, if_neg (by decide)]
          obtain ⟨μ1, s1, s2, s3, s4⟩ := Wa_seeOne_eq N (show p < 16 by omega) a b μ
          rw [s1, bvS]
          obtain ⟨μ', r1, r2, r3⟩ := ih (p + 1) (B / 2) μ1 (by omega) (by omega) (by omega)
          refine ⟨μ', r1, s2.trans r2, fun q hq => ?_⟩
          rw [r3 q hq, s2.1 61 (by omega)]
          by_cases e : q = p
          · subst e
            rw [if_neg (by omega), s4, if_pos ⟨by omega, by rw [Nat.sub_self]; exact d⟩]
          · rw [s3 q e]
            by_cases f : p + 1 ≤ q
            · rw [tb q f]
              by_cases g : B.testBit (q - p) = true
              · rw [if_pos ⟨f, g⟩, if_pos ⟨by omega, g⟩]
              · rw [if_neg (fun x => g x.2), if_neg (fun x => g x.2)]
            · rw [if_neg (fun x => f x.1), if_neg (by omega)]
        · have d' : B.testBit 0 = false := by simpa using d
          rw [d', if_pos (by decide)]
          obtain ⟨μ', r1, r2, r3⟩ := ih (p + 1) (B / 2) μ (by omega) (by omega) (by omega)
          refine ⟨μ', r1, r2, fun q hq => ?_⟩
          rw [r3 q hq]
          by_cases e : q = p
          · subst e
            rw [if_neg (by omega), if_neg (by rw [Nat.sub_self, d']; simp)]
          · by_cases f : p + 1 ≤ q
            · rw [tb q f]
              by_cases g : B.testBit (q - p) = true
              · rw [if_pos ⟨f, g⟩, if_pos ⟨by omega, g⟩]
              · rw [if_neg (fun x => g x.2), if_neg (fun x => g x.2)]
            · rw [if_neg (fun x => f x.1), if_neg (by omega)]
theorem Wa_see_eq (N : Nat) (hN : 30 ≤ N) (a b : Int32) {B : Nat} (hB : B < 65536) (μ : Mm) : ∃ μ', f_Wa_see N (nI B) a b μ = some μ' ∧ PFr μ μ' ∧ ∀ q, q < 16 → rd μ' q = if B.testBit q = true then soI (μ.1 61 15) a b (rd μ q) else rd μ q := by
  obtain ⟨μ', r1, r2, r3⟩ := Wa_see_loop N a b N 0 B μ (by omega) (by omega) hB
  refine ⟨μ', r1, r2, fun q hq => ?_⟩
  rw [r3 q hq, Nat.sub_zero]
  by_cases g : B.testBit q = true
  · rw [if_pos ⟨by omega, g⟩, if_pos g]
  · rw [if_neg (fun x => g x.2), if_neg g]
theorem Wa_cover_loop (N : Nat) (b : Int32) {B : Nat} (hB : B < 65536) : ∀ (m p : Nat) (μ : Mm), p ≤ 16 → 16 < m + p → ∃ μ', f_Wa_coverAhead_L2 N m (nI B) b (nI p) μ = some μ' ∧ PFr μ μ' ∧ ∀ q, q < 16 → rd μ' q = if p ≤ q ∧ B.testBit q = true then ((rd μ q).1, (rd μ q).2.1, (rd μ q).2.2.1, (rd μ q).2.2.2.1, mxI (rd μ q).2.2.2.2.1 b, (rd μ q).2.2.2.2.2) else rd μ q := by
  intro m
  induction m with
  | zero => intro p μ h1 h2; omega
  | succ m ih =>
    intro p μ h1 h2
    rw [f_Wa_coverAhead_L2]
    by_cases c : p = 16
    · subst c
      rw [if_pos (by decide)]
      exact ⟨μ, rfl, PFr.refl μ, fun q hq => by rw [if_neg (by omega)]⟩
    · rw [if_neg (show ¬ (16 : Int32) ≤ nI p from nI_ge (b := 16) (by omega) (by decide)), bitN (by omega) (by omega)]
      unfold f_Wa_coverAhead_B32
      simp only [if_pos (ixb_t (show p < 16 by omega) (show 16 < 2 ^ 31 by decide)), nI_clamp (show p < 2 ^ 31 by omega), Jmax', bnS, nI_1, nI_add]
      by_cases d : B.testBit p = true
      · rw [d, if_neg (by decide)]
        obtain ⟨μ', r1, r2, r3⟩ := ih (p + 1) (sI μ 66 p (mxI (μ.1 66 p) b)) (by omega) (by omega)
        refine ⟨μ', r1, (PFr.fld (by decide) (by decide) μ _ _).trans r2, fun q hq => ?_⟩
        rw [r3 q hq]
        by_cases e : q = p
        · subst e
          rw [if_neg (by omega), rd66, if_pos ⟨by omega, d⟩]; rfl
        · rw [rd_ne _ e]
          by_cases g : B.testBit q = true
          · by_cases f : p + 1 ≤ q
            · rw [if_pos ⟨f, g⟩, if_pos ⟨by omega, g⟩]
            · rw [if_neg (fun x => f x.1), if_neg (by omega)]
          · rw [if_neg (fun x => g x.2), if_neg (fun x => g x.2)]
      · have d' : B.testBit p = false := by simpa using d
        rw [d', if_pos (by decide)]
        obtain ⟨μ', r1, r2, r3⟩ := ih (p + 1) μ (by omega) (by omega)
        refine ⟨μ', r1, r2, fun q hq => ?_⟩
        rw [r3 q hq]
        by_cases e : q = p
        · subst e
          rw [if_neg (by omega), if_neg (fun x => d x.2)]
        · by_cases g : B.testBit q = true
          · by_cases f : p + 1 ≤ q
            · rw [if_pos ⟨f, g⟩, if_pos ⟨by omega, g⟩]
            · rw [if_neg (fun x => f x.1), if_neg (by omega)]
          · rw [if_neg (fun x => g x.2), if_neg (fun x => g x.2)]
theorem Wa_clear_loop (N : Nat) {V : Nat} (hV : V < 65536) : ∀ (m p : Nat) (μ : Mm), μ.1 61 14 = nI V → p ≤ 16 → 16 < m + p → ∃ μ', f_Wa_clear_L2 N m (nI p) μ = some μ' ∧ PFr μ μ' ∧ ∀ q, q < 16 → rd μ' q = if p ≤ q then (0, -9, if V.testBit q = true then μ.1 61 0 else 0, if V.testBit q = true then μ.1 61 0 else 0, -1, -1) else rd μ q := by
  intro m
  induction m with
  | zero => intro p μ _ h1 h2; omega
  | succ m ih =>
    intro p μ ev h1 h2
    rw [f_Wa_clear_L2]
    by_cases c : p = 16
    · subst c
      rw [if_pos (by decide)]
      exact ⟨μ, rfl, PFr.refl μ, fun q hq => by rw [if_neg (by omega)]⟩
    · rw [if_neg (show ¬ (16 : Int32) ≤ nI p from nI_ge (b := 16) (by omega) (by decide)), ev, bitN (by omega) (by omega)]
      unfold f_Wa_clear_B24 f_Wa_clear_B57 f_Wa_clear_B75
      simp only [if_pos (ixb_t (show p < 16 by omega) (show 16 < 2 ^ 31 by decide)), nI_clamp (show p < 2 ^ 31 by omega), nI_1, nI_add, sI_ne _ _ _ (show (61 : Nat) ≠ 62 by decide), sI_ne _ _ _ (show (61 : Nat) ≠ 63 by decide), sI_ne _ _ _ (show (61 : Nat) ≠ 64 by decide)]
      have key : ∀ x : Int32, x = (if V.testBit p = true then μ.1 61 0 else 0) → ∃ μ', f_Wa_clear_L2 N m (nI (p + 1)) (sI (sI (sI (sI (sI (sI μ 62 p 0) 63 p (-9)) 64 p x) 65 p x) 66 p (-1)) 67 p (-1)) = some μ' ∧ PFr μ μ' ∧ ∀ q, q < 16 → rd μ' q = if p ≤ q then (0, -9, if V.testBit q = true then μ.1 61 0 else 0, if V.testBit q = true then μ.1 61 0 else 0, -1, -1) else rd μ q := by
        intro x hx
        have f0 : PFr μ (sI (sI (sI (sI (sI (sI μ 62 p 0) 63 p (-9)) 64 p x) 65 p x) 66 p (-1)) 67 p (-1)) := (((((PFr.fld (by decide) (by decide) μ _ _).trans (PFr.fld (by decide) (by decide) _ _ _)).trans (PFr.fld (by decide) (by decide) _ _ _)).trans (PFr.fld (by decide) (by decide) _ _ _)).trans (PFr.fld (by decide) (by decide) _ _ _)).trans (PFr.fld (by decide) (by decide) _ _ _)
        obtain ⟨μ', r1, r2, r3⟩ := ih (p + 1) _ (by rw [f0.1 61 (by omega)]; exact ev) (by omega) (by omega)
        refine ⟨μ', r1, f0.trans r2, fun q hq => ?_⟩
        rw [r3 q hq, f0.1 61 (by omega)]
        by_cases e : q = p
        · subst e
          rw [if_neg (by omega), if_pos (by omega), rd67, rd66, rd65, rd64, rd63, rd62, hx]
        · rw [rd_ne _ e, rd_ne _ e, rd_ne _ e, rd_ne _ e, rd_ne _ e, rd_ne _ e]
          by_cases f : p + 1 ≤ q
          · rw [if_pos f, if_pos (show p ≤ q by omega)]
          · rw [if_neg f, if_neg (show ¬ p ≤ q by omega)]
      by_cases d : V.testBit p = true
      · rw [d, if_neg (by decide), if_neg (by decide), if_neg (by decide)]
        exact key _ (by rw [if_pos d])
      · have d' : V.testBit p = false := by simpa using d
        rw [d', if_pos (by decide), if_pos (by decide), if_pos (by decide)]
        exact key 0 (by rw [if_neg d])
/-- the round is closed at a post -/
def crI (J need : Int32) (r : Rc) : Rc := if r.2.2.2.2.2 = -1 then r else if r.2.2.2.2.2 + J - r.2.2.2.2.1 ≤ 0 then r else ngI need (if J ≤ r.2.2.2.2.1 then 0 else r.2.2.2.2.1) (r.2.2.2.2.2 + J - r.2.2.2.2.1) r
theorem Wa_close_loop (N : Nat) : ∀ (m p : Nat) (μ : Mm), p ≤ 16 → 16 < m + p → ∃ μ', f_Wa_closeRound_L2 N m (nI p) μ = some μ' ∧ PFr μ μ' ∧ ∀ q, q < 16 → rd μ' q = if p ≤ q then crI (μ.1 61 0) (μ.1 61 15) (rd μ q) else rd μ q := by
  intro m
  induction m with
  | zero => intro p μ h1 h2; omega
  | succ m ih =>
    intro p μ h1 h2
    rw [f_Wa_closeRound_L2]
    by_cases c : p = 16
    · subst c
      rw [if_pos (by decide)]
      exact ⟨μ, rfl, PFr.refl μ, fun q hq => by rw [if_neg (by omega)]⟩
    · rw [if_neg (show ¬ (16 : Int32) ≤ nI p from nI_ge (b := 16) (by omega) (by decide))]
      unfold f_Wa_closeRound_B69 f_Wa_closeRound_B73
      simp only [if_pos (ixb_t (show p < 16 by omega) (show 16 < 2 ^ 31 by decide)), nI_clamp (show p < 2 ^ 31 by omega), nI_1, nI_add]
      have fin : ∀ μ1 : Mm, PFr μ μ1 → (∀ q, q ≠ p → rd μ1 q = rd μ q) → rd μ1 p = crI (μ.1 61 0) (μ.1 61 15) (rd μ p) → ∃ μ', f_Wa_closeRound_L2 N m (nI (p + 1)) μ1 = some μ' ∧ PFr μ μ' ∧ ∀ q, q < 16 → rd μ' q = if p ≤ q then crI (μ.1 61 0) (μ.1 61 15) (rd μ q) else rd μ q := by
        intro μ1 f0 h3 h4
        obtain ⟨μ', r1, r2, r3⟩ := ih (p + 1) μ1 (by omega) (by omega)
        refine ⟨μ', r1, f0.trans r2, fun q hq => ?_⟩
        rw [r3 q hq, f0.1 61 (by omega)]
        by_cases e : q = p
        · subst e
          rw [if_neg (by omega), if_pos (by omega), h4]
        · rw [h3 q e]
          by_cases f : p + 1 ≤ q
          · rw [if_pos f, if_pos (by omega)]
          · rw [if_neg f, if_neg (by omega)]
      by_cases c1 : μ.1 67 p = -1
      · rw [if_pos c1]
        exact fin μ (PFr.refl μ) (fun _ _ => rfl) (by unfold crI; rw [if_pos (show (rd μ p).2.2.2.2.2 = -1 from c1)])
      · rw [if_neg c1]
        by_cases c2 : μ.1 67 p + μ.1 61 0 - μ.1 66 p ≤ 0
        · rw [if_pos c2]
          exact fin μ (PFr.refl μ) (fun _ _ => rfl) (by unfold crI; rw [if_neg (show ¬ (rd μ p).2.2.2.2.2 = -1 from c1), if_pos (show (rd μ p).2.2.2.2.2 + μ.1 61 0 - (rd μ p).2.2.2.2.1 ≤ 0 from c2)])
        · rw [if_neg c2]
          have cr : crI (μ.1 61 0) (μ.1 61 15) (rd μ p) = ngI (μ.1 61 15) (if μ.1 61 0 ≤ μ.1 66 p then 0 else μ.1 66 p) (μ.1 67 p + μ.1 61 0 - μ.1 66 p) (rd μ p) := by
            unfold crI
            rw [if_neg (show ¬ (rd μ p).2.2.2.2.2 = -1 from c1), if_neg (show ¬ (rd μ p).2.2.2.2.2 + μ.1 61 0 - (rd μ p).2.2.2.2.1 ≤ 0 from c2)]
            rfl
          by_cases c3 : μ.1 61 0 ≤ μ.1 66 p
          · rw [if_pos c3] at cr
            rw [if_pos c3]
            obtain ⟨μ1, s1, s2, s3, s4⟩ := Wa_noteGap_eq N (show p < 16 by omega) 0 (μ.1 67 p + μ.1 61 0 - μ.1 66 p) μ
            rw [s1, bvS]
            exact fin μ1 s2 s3 (by rw [s4, cr])
          · rw [if_neg c3] at cr
            rw [if_neg c3]
            obtain ⟨μ1, s1, s2, s3, s4⟩ := Wa_noteGap_eq N (show p < 16 by omega) (μ.1 66 p) (μ.1 67 p + μ.1 61 0 - μ.1 66 p) μ
            rw [s1, bvS]
            exact fin μ1 s2 s3 (by rw [s4, cr])
