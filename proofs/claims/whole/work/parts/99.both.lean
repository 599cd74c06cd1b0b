/-! PURE 79: the two searches held against one another -/
theorem CR_MR {D : Da} (I : DI D) {a b : Nat} (ha : a < D.w) (hb : b < D.w) (ga : D.go a = true) (gb : D.go b = true) {F J : Nat} {rC rM : Int64} (c : D.CR a b F J rC) (m : D.MR a b F ((F / 27720 + J + 1) * 27720) rM) (ok : F % 27720 = 0 ∨ ¬ D.oq a b (F / 27720)) : rC = rM := by
  have em : ∀ x : Nat, F ≤ x → D.pz a (x : Int) = D.pz b (x : Int) → (∀ y : Nat, F ≤ y → y < x → ¬ D.pz a (y : Int) = D.pz b (y : Int)) → D.Em a b x := by
    intro x x1 s fx
    refine ⟨s, ?_⟩
    by_cases z : x % 27720 = 0
    · exact Or.inl z
    · refine Or.inr (fun q => ?_)
      have o := (oq_ends I ha hb ga gb q).1
      have e : ((x / 27720 : Nat) : Int) * 27720 = ((x / 27720 * 27720 : Nat) : Int) := by omega
      rw [e] at o
      by_cases y : F ≤ x / 27720 * 27720
      · exact fx _ y (by omega) o
      · have t : F / 27720 = x / 27720 := by omega
        rcases ok with k | k
        · omega
        · rw [t] at k; exact k q
  rcases c with ⟨h1, h2⟩ | ⟨x, h1, h2, h3, h4, h5⟩
  · rcases m with ⟨m1, _⟩ | ⟨x, _, x1, _, e, _⟩
    · rw [h1, m1]
    · exact absurd e.1 (h2 x x1)
  · have E := em x h2 h4 h5
    rcases m with ⟨_, n⟩ | ⟨x', g1, g2, g3, g4, g5⟩
    · exact absurd E (n x h2 (by omega))
    · have : x' = x := by
        rcases Nat.lt_trichotomy x' x with l | l | l
        · exact absurd g4.1 (h5 x' g2 l)
        · exact l
        · exact absurd E (g5 x h2 l)
      rw [h1, g1, this]
theorem CR_ov {D : Da} (I : DI D) {a b : Nat} (ha : a < D.w) (hb : b < D.w) (ga : D.go a = true) (gb : D.go b = true) {F J : Nat} {rC rM : Int64} (hJ : 1 ≤ J) (c : D.CR a b F J rC) (m : D.MR a b F ((F / 27720 + J + 1) * 27720) rM) (f0 : F % 27720 ≠ 0) (o : D.oq a b (F / 27720)) : rC = lN F ∧ ∃ x, rM = lN x ∧ F < x ∧ x < (F / 27720 + J + 1) * 27720 := by
  have s : D.pz a (F : Int) = D.pz b (F : Int) := by
    have := (inside I ha hb ga gb (t := F / 27720) (f := F % 27720) (by omega) (by omega)).mpr (Or.inr o)
    rwa [show ((F / 27720 : Nat) : Int) * 27720 + ((F % 27720 : Nat) : Int) = (F : Int) by omega] at this
  have E : D.Em a b ((F / 27720 + 1) * 27720) := by
    refine ⟨?_, Or.inl (by omega)⟩
    have := (oq_ends I ha hb ga gb o).2
    rwa [show ((F / 27720 + 1 : Nat) : Int) * 27720 = (((F / 27720 + 1) * 27720 : Nat) : Int) by omega] at this
  refine ⟨?_, ?_⟩
  · rcases c with ⟨_, h2⟩ | ⟨x, h1, h2, _, _, h5⟩
    · exact absurd s (h2 F (Nat.le_refl _))
    · have : x = F := by
        rcases Nat.lt_or_ge F x with l | l
        · exact absurd s (h5 F (Nat.le_refl _) l)
        · omega
      rw [h1, this]
  · rcases m with ⟨_, n⟩ | ⟨x, g1, g2, g3, g4, g5⟩
    · exact absurd E (n _ (by omega) (by omega))
    · refine ⟨x, g1, ?_, g3⟩
      rcases Nat.lt_or_ge F x with l | l
      · exact l
      · have : x = F := by omega
        rw [this] at g4
        rcases g4.2 with k | k
        · exact absurd k f0
        · exact absurd o k
