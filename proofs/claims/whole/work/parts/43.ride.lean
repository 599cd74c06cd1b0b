/-! PURE 23: rides from base to base -/
theorem nx_mod {s k : Nat} (hk : k < s) : nx s k = (k + 1) % s := by
  unfold nx
  by_cases c : k + 1 < s
  · rw [if_pos c, Nat.mod_eq_of_lt c]
  · rw [if_neg c, show k + 1 = s by omega, Nat.mod_self]
def nxi (s k : Nat) : Nat → Nat
  | 0 => k
  | d + 1 => nx s (nxi s k d)
theorem nxi_eq {s k : Nat} (hk : k < s) : ∀ d, nxi s k d = (k + d) % s
  | 0 => (Nat.mod_eq_of_lt hk).symm
  | d + 1 => by
    show nx s (nxi s k d) = _
    rw [nxi_eq hk d, nx_mod (Nat.mod_lt _ (by omega)), Nat.mod_add_mod]
    rfl
theorem nxi_lt {s k : Nat} (hk : k < s) (d : Nat) : nxi s k d < s := by
  rw [nxi_eq hk]; exact Nat.mod_lt _ (by omega)
theorem nxi_s {s k : Nat} (hk : k < s) : nxi s k s = k := by
  rw [nxi_eq hk, Nat.add_mod_right, Nat.mod_eq_of_lt hk]
theorem nxi_at {s k b : Nat} (hk : k < s) (hb : b < s) : ∃ d, d < s ∧ nxi s k d = b := by
  by_cases c : k ≤ b
  · exact ⟨b - k, by omega, by rw [nxi_eq hk, show k + (b - k) = b by omega, Nat.mod_eq_of_lt hb]⟩
  · exact ⟨b + s - k, by omega, by rw [nxi_eq hk, show k + (b + s - k) = b + s by omega, Nat.add_mod_right, Nat.mod_eq_of_lt hb]⟩
theorem nxi_c (s k : Nat) : ∀ d, nxi s (nx s k) d = nxi s k (d + 1)
  | 0 => rfl
  | d + 1 => by
    show nx s (nxi s (nx s k) d) = nx s (nxi s k (d + 1))
    rw [nxi_c s k d]
/-- what is still to ride from a place to the next base -/
def Gf (s : Nat) (bs : Nat → Bool) (l : Nat → Nat) : Nat → Nat → Nat
  | 0, _ => 0
  | f + 1, k => if bs k = true then 0 else l k + Gf s bs l f (nx s k)
theorem Gf_stable (s : Nat) (bs : Nat → Bool) (l : Nat → Nat) : ∀ (d k f f' : Nat), bs (nxi s k d) = true → d < f → d < f' → Gf s bs l f k = Gf s bs l f' k
  | d, k, f, f', h, h1, h2 => by
    obtain ⟨f, rfl⟩ : ∃ g, f = g + 1 := ⟨f - 1, by omega⟩
    obtain ⟨f', rfl⟩ : ∃ g, f' = g + 1 := ⟨f' - 1, by omega⟩
    rw [Gf, Gf]
    by_cases c : bs k = true
    · rw [if_pos c, if_pos c]
    · rw [if_neg c, if_neg c]
      cases d with
      | zero => exact absurd h c
      | succ d =>
        rw [Gf_stable s bs l d (nx s k) f f' (by rw [nxi_c]; exact h) (by omega) (by omega)]
def gapB (s : Nat) (bs : Nat → Bool) (l : Nat → Nat) (i : Nat) : Nat := l i + Gf s bs l s (nx s i)
theorem Gf_eq {s : Nat} {bs : Nat → Bool} {l : Nat → Nat} {b0 k : Nat} (hb : b0 < s) (h0 : bs b0 = true) (hk : k < s) : Gf s bs l s k = if bs k = true then 0 else l k + Gf s bs l s (nx s k) := by
  obtain ⟨f, e⟩ : ∃ g, s = g + 1 := ⟨s - 1, by omega⟩
  obtain ⟨d, hd, ed⟩ := nxi_at hk hb
  by_cases c : bs k = true
  · rw [if_pos c]
    have : Gf s bs l (f + 1) k = 0 := by rw [Gf, if_pos c]
    rw [← e] at this
    exact this
  · rw [if_neg c]
    have h1 : Gf s bs l (f + 1) k = l k + Gf s bs l f (nx s k) := by rw [Gf, if_neg c]
    rw [← e] at h1
    rw [h1]
    cases d with
    | zero =>
      have ed' : k = b0 := ed
      rw [ed'] at c
      exact absurd h0 c
    | succ d =>
      rw [Gf_stable s bs l d (nx s k) f s (by rw [nxi_c, ed]; exact h0) (by omega) (by omega)]
/-- what the reference finds -/
def mF (s : Nat) (bs : Nat → Bool) (l : Nat → Nat) : Nat → Int
  | 0 => -9
  | i + 1 => if bs i = true then max (mF s bs l i) (gapB s bs l i) else mF s bs l i
theorem mF_ge (s : Nat) (bs : Nat → Bool) (l : Nat → Nat) : ∀ n i, i < n → bs i = true → (gapB s bs l i : Int) ≤ mF s bs l n
  | n + 1, i, h, hb => by
    show _ ≤ (if bs n = true then max (mF s bs l n) (gapB s bs l n) else mF s bs l n)
    by_cases e : i = n
    · subst e
      rw [if_pos hb]; omega
    · have := mF_ge s bs l n i (by omega) hb
      split <;> omega
theorem mF_is (s : Nat) (bs : Nat → Bool) (l : Nat → Nat) : ∀ n, (mF s bs l n = -9 ∧ ∀ i, i < n → bs i = false) ∨ ∃ i, i < n ∧ bs i = true ∧ mF s bs l n = gapB s bs l i
  | 0 => Or.inl ⟨rfl, fun i h => by omega⟩
  | n + 1 => by
    have e : mF s bs l (n + 1) = (if bs n = true then max (mF s bs l n) (gapB s bs l n) else mF s bs l n) := rfl
    rw [e]
    rcases mF_is s bs l n with ⟨h, hz⟩ | ⟨i, h1, h2, h3⟩
    · by_cases c : bs n = true
      · rw [if_pos c]
        exact Or.inr ⟨n, by omega, c, by omega⟩
      · rw [if_neg c]
        refine Or.inl ⟨h, fun i hi => ?_⟩
        by_cases e : i = n
        · rw [e]; exact Bool.eq_false_iff.mpr c
        · exact hz i (by omega)
    · by_cases c : bs n = true
      · rw [if_pos c]
        by_cases d : mF s bs l n ≤ gapB s bs l n
        · exact Or.inr ⟨n, by omega, c, by omega⟩
        · exact Or.inr ⟨i, by omega, h2, by omega⟩
      · rw [if_neg c]
        exact Or.inr ⟨i, by omega, h2, h3⟩
/-- what the class keeps on its way: the most, and what was ridden since the last base -/
def rR (s : Nat) (bs : Nat → Bool) (l : Nat → Nat) (fst : Nat) : Nat → Nat × Nat
  | 0 => (0, 0)
  | t + 1 => if bs (nxi s fst (t + 1)) = true then (max (rR s bs l fst t).1 ((rR s bs l fst t).2 + l (nxi s fst t)), 0) else ((rR s bs l fst t).1, (rR s bs l fst t).2 + l (nxi s fst t))
theorem rR_inv {s : Nat} {bs : Nat → Bool} {l : Nat → Nat} {b : Nat} (hb : b < s) (h0 : bs b = true) : ∀ t, (∃ sb, sb ≤ t ∧ bs (nxi s b sb) = true ∧ gapB s bs l (nxi s b sb) = (rR s bs l b t).2 + l (nxi s b t) + Gf s bs l s (nxi s b (t + 1)) ∧ (∀ u, sb < u → u ≤ t → bs (nxi s b u) = false) ∧ ∀ u, u < sb → bs (nxi s b u) = true → gapB s bs l (nxi s b u) ≤ (rR s bs l b t).1) ∧ ((rR s bs l b t).1 = 0 ∨ ∃ u, bs (nxi s b u) = true ∧ (rR s bs l b t).1 = gapB s bs l (nxi s b u))
  | 0 => ⟨⟨0, Nat.le_refl _, h0, by show l b + Gf s bs l s (nx s b) = 0 + l b + Gf s bs l s (nx s b); omega, fun u h1 h2 => by omega, fun u hu => by omega⟩, Or.inl rfl⟩
  | t + 1 => by
    obtain ⟨⟨sb, i1, i2, i3, i4, i5⟩, iB⟩ := rR_inv (l := l) hb h0 t
    have eR : rR s bs l b (t + 1) = if bs (nxi s b (t + 1)) = true then (max (rR s bs l b t).1 ((rR s bs l b t).2 + l (nxi s b t)), 0) else ((rR s bs l b t).1, (rR s bs l b t).2 + l (nxi s b t)) := rfl
    have eG := Gf_eq (l := l) hb h0 (nxi_lt hb (t + 1))
    have eN : nxi s b (t + 1 + 1) = nx s (nxi s b (t + 1)) := rfl
    by_cases c : bs (nxi s b (t + 1)) = true
    · rw [if_pos c] at eR eG
      rw [eR]
      refine ⟨⟨t + 1, Nat.le_refl _, c, ?_, fun u h1 h2 => by omega, fun u hu hbu => ?_⟩, ?_⟩
      · show l (nxi s b (t + 1)) + Gf s bs l s (nx s (nxi s b (t + 1))) = 0 + l (nxi s b (t + 1)) + Gf s bs l s (nxi s b (t + 1 + 1))
        rw [eN]; omega
      · show _ ≤ max (rR s bs l b t).1 ((rR s bs l b t).2 + l (nxi s b t))
        by_cases e : u < sb
        · have := i5 u e hbu
          omega
        · have ue : u = sb := by
            by_cases q : u = sb
            · exact q
            · have := i4 u (by omega) (by omega)
              rw [hbu] at this
              exact absurd this (by decide)
          rw [ue, i3, eG]
          omega
      · show max (rR s bs l b t).1 ((rR s bs l b t).2 + l (nxi s b t)) = 0 ∨ ∃ u, bs (nxi s b u) = true ∧ max (rR s bs l b t).1 ((rR s bs l b t).2 + l (nxi s b t)) = gapB s bs l (nxi s b u)
        have gs : gapB s bs l (nxi s b sb) = (rR s bs l b t).2 + l (nxi s b t) := by omega
        by_cases d : (rR s bs l b t).1 ≤ (rR s bs l b t).2 + l (nxi s b t)
        · exact Or.inr ⟨sb, i2, by omega⟩
        · rcases iB with q | ⟨u, q1, q2⟩
          · omega
          · exact Or.inr ⟨u, q1, by omega⟩
    · rw [if_neg c] at eR eG
      rw [eR]
      refine ⟨⟨sb, by omega, i2, ?_, fun u h1 h2 => ?_, i5⟩, iB⟩
      rotate_left
      · by_cases q : u = t + 1
        · rw [q]; exact Bool.eq_false_iff.mpr c
        · exact i4 u h1 (by omega)
      show gapB s bs l (nxi s b sb) = (rR s bs l b t).2 + l (nxi s b t) + l (nxi s b (t + 1)) + Gf s bs l s (nxi s b (t + 1 + 1))
      rw [i3, eG, eN]
      omega

/-- both find the same -/
theorem ride_eq {s : Nat} {bs : Nat → Bool} {l : Nat → Nat} {b : Nat} (hb : b < s) (h0 : bs b = true) (hl : ∀ i, i < s → 1 ≤ l i) : ((rR s bs l b s).1 : Int) = mF s bs l s := by
  obtain ⟨⟨sb, i1, i2, i3, i4, i5⟩, iB⟩ := rR_inv (l := l) hb h0 s
  have es : sb = s := by
    by_cases q : sb = s
    · exact q
    · have := i4 s (by omega) (Nat.le_refl _)
      rw [nxi_s hb, h0] at this
      exact absurd this (by decide)
  subst es
  have up : ∀ i, i < sb → bs i = true → gapB sb bs l i ≤ (rR sb bs l b sb).1 := fun i hi hbi => by
    obtain ⟨d, hd, ed⟩ := nxi_at hb hi
    have := i5 d hd (by rw [ed]; exact hbi)
    rw [ed] at this
    exact this
  have g1 : 1 ≤ gapB sb bs l b := by
    have := hl b hb
    unfold gapB
    omega
  have g2 := up b hb h0
  have g3 := mF_ge sb bs l sb b hb h0
  have le1 : mF sb bs l sb ≤ (rR sb bs l b sb).1 := by
    rcases mF_is sb bs l sb with ⟨q, _⟩ | ⟨i, q1, q2, q3⟩
    · omega
    · have := up i q1 q2
      omega
  have le2 : ((rR sb bs l b sb).1 : Int) ≤ mF sb bs l sb := by
    rcases iB with q | ⟨u, q1, q2⟩
    · omega
    · have := mF_ge sb bs l sb (nxi sb b u) (nxi_lt hb u) q1
      omega
  omega
theorem Gf_le (s : Nat) (bs : Nat → Bool) (l : Nat → Nat) (hl : ∀ i, i < s → l i ≤ 30) : ∀ f k, k < s → Gf s bs l f k ≤ 30 * f
  | 0, _, _ => Nat.le_refl _
  | f + 1, k, hk => by
    have := Gf_le s bs l hl f (nx s k) (nx_lt (by omega))
    have := hl k hk
    rw [Gf]
    split <;> omega
theorem rR_le (s : Nat) (bs : Nat → Bool) (l : Nat → Nat) (b : Nat) (hb : b < s) (hl : ∀ i, i < s → l i ≤ 30) : ∀ t, (rR s bs l b t).1 ≤ 30 * t ∧ (rR s bs l b t).2 ≤ 30 * t
  | 0 => ⟨Nat.le_refl _, Nat.le_refl _⟩
  | t + 1 => by
    have := rR_le s bs l b hb hl t
    have := hl (nxi s b t) (nxi_lt hb t)
    rw [rR]
    split
    · show max _ _ ≤ _ ∧ 0 ≤ _
      omega
    · show _ ≤ _ ∧ _ + _ ≤ _
      omega
