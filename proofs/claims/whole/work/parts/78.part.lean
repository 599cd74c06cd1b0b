/-! PURE 58: partings: the least longest time, post by post -/
def nwF (wl : Nat → Int) (p who u k : Nat) : Nat := if k = who ∧ 0 < p ∧ 0 < wl p then u + (wl p).toNat else 0
def alF (wl : Nat → Int) (p who free k : Nat) : Bool := decide (k = who ∧ 0 < p ∧ 0 < wl p) || free.testBit k
def opF (n S : Nat) (wl : Nat → Int) (U : Nat → Nat) : Nat → Nat → Nat → Nat → Nat
  | 0, _, _, _ => 0
  | d + 1, who, u, free => mnF (alF wl (n - (d + 1)) who free) (fun k => max (U k * nwF wl (n - (d + 1)) who u k) (opF n S wl U d k (nwF wl (n - (d + 1)) who u k) (anN free (2 ^ k)))) 1000000 S
def vF (n S : Nat) (wl : Nat → Int) (U : Nat → Nat) (d who u free k : Nat) : Nat := max (U k * nwF wl (n - (d + 1)) who u k) (opF n S wl U d k (nwF wl (n - (d + 1)) who u k) (anN free (2 ^ k)))
theorem opF_s (n S : Nat) (wl : Nat → Int) (U : Nat → Nat) (d who u free : Nat) : opF n S wl U (d + 1) who u free = mnF (alF wl (n - (d + 1)) who free) (vF n S wl U d who u free) 1000000 S := rfl
theorem opF_le (n S : Nat) (wl : Nat → Int) (U : Nat → Nat) (d who u free : Nat) : opF n S wl U d who u free ≤ 1000000 := by
  cases d with
  | zero => show 0 ≤ _; omega
  | succ d => rw [opF_s]; exact (mnF_le _ _ _ _).1
/-- one who has a post with so many units, and the rest behind it -/
def Wf (n S : Nat) (wl : Nat → Int) (U : Nat → Nat) (d m u others : Nat) : Nat := max (U m * u) (opF n S wl U d m u others)
theorem anN_off {s x : Nat} (h : s.testBit x = false) : anN s (2 ^ x) = s := by
  apply Nat.eq_of_testBit_eq
  intro i
  rw [anN_tb, Nat.testBit_two_pow]
  by_cases e : x = i
  · subst e; rw [h]; rfl
  · rw [decide_eq_false e, Bool.not_false, Bool.and_true]
theorem op_split {n S : Nat} {wl : Nat → Int} {U : Nat → Nat} {d m u others : Nat} (hS : S ≤ 5) (hm : m < S) (hb : others.testBit m = false) (hp : 0 < n - (d + 1)) : opF n S wl U (d + 1) m u others = min (if 0 < wl (n - (d + 1)) then Wf n S wl U d m (u + (wl (n - (d + 1))).toNat) others else 1000000) (opF n S wl U (d + 1) 9 0 others) := by
  have kk : ∀ k, k < S → k ≠ m → alF wl (n - (d + 1)) m others k = others.testBit k ∧ nwF wl (n - (d + 1)) m u k = 0 := fun k hk e => by
    unfold alF nwF
    rw [decide_eq_false (fun q => e q.1), if_neg (fun q => e q.1)]
    exact ⟨rfl, rfl⟩
  have k9 : ∀ k, k < S → alF wl (n - (d + 1)) 9 others k = others.testBit k ∧ nwF wl (n - (d + 1)) 9 0 k = 0 := fun k hk => by
    unfold alF nwF
    rw [decide_eq_false (fun q => by omega), if_neg (fun q => by omega)]
    exact ⟨rfl, rfl⟩
  have vm : 0 < wl (n - (d + 1)) → vF n S wl U d m u others m = Wf n S wl U d m (u + (wl (n - (d + 1))).toNat) others := fun h => by
    unfold vF Wf nwF
    rw [if_pos ⟨rfl, hp, h⟩, anN_off hb]
  have v9 : ∀ k, k < S → k ≠ m → vF n S wl U d m u others k = vF n S wl U d 9 0 others k := fun k hk e => by
    unfold vF
    rw [(kk k hk e).2, (k9 k hk).2]
  have am : alF wl (n - (d + 1)) m others m = decide (0 < wl (n - (d + 1))) := by
    unfold alF
    rw [hb, Bool.or_false]
    by_cases h : 0 < wl (n - (d + 1))
    · rw [decide_eq_true h, decide_eq_true ⟨rfl, hp, h⟩]
    · rw [decide_eq_false h, decide_eq_false (fun q => h q.2.2)]
  rw [opF_s, opF_s]
  have A := mnF_le (alF wl (n - (d + 1)) m others) (vF n S wl U d m u others) 1000000 S
  have B := mnF_le (alF wl (n - (d + 1)) 9 others) (vF n S wl U d 9 0 others) 1000000 S
  apply Nat.le_antisymm
  · refine Nat.le_min.mpr ⟨?_, ?_⟩
    · by_cases h : 0 < wl (n - (d + 1))
      · rw [if_pos h, ← vm h]
        exact A.2 m hm (by rw [am]; exact decide_eq_true h)
      · rw [if_neg h]; exact A.1
    · rcases mnF_at (alF wl (n - (d + 1)) 9 others) (vF n S wl U d 9 0 others) 1000000 S with q | ⟨k, k1, k2, k3⟩
      · rw [q]; exact A.1
      · rw [k3]
        have e : k ≠ m := fun q => by
          rw [(k9 k k1).1, q, hb] at k2
          cases k2
        rw [← v9 k k1 e]
        exact A.2 k k1 (by rw [(kk k k1 e).1, ← (k9 k k1).1]; exact k2)
  · rcases mnF_at (alF wl (n - (d + 1)) m others) (vF n S wl U d m u others) 1000000 S with q | ⟨k, k1, k2, k3⟩
    · rw [q]
      exact Nat.le_trans (Nat.min_le_right _ _) B.1
    · rw [k3]
      by_cases e : k = m
      · subst e
        rw [am, decide_eq_true_eq] at k2
        rw [if_pos k2, vm k2]
        exact Nat.min_le_left _ _
      · refine Nat.le_trans (Nat.min_le_right _ _) ?_
        rw [v9 k k1 e]
        exact B.2 k k1 (by rw [(k9 k k1).1, ← (kk k k1 e).1]; exact k2)
/-- the least sharer with whom none needs longer -/
def nxP (n S : Nat) (wl : Nat → Int) (U : Nat → Nat) (L d who u free : Nat) : Nat := fsN (fun k => alF wl (n - (d + 1)) who free k && decide (vF n S wl U d who u free k ≤ L)) S
/-- the parting: who, units, free, behind t posts -/
def sqP (n S : Nat) (wl : Nat → Int) (U : Nat → Nat) (L : Nat) : Nat → Nat × Nat × Nat → Nat → Nat × Nat × Nat
  | _, s, 0 => s
  | d, s, t + 1 => sqP n S wl U L (d - 1) (nxP n S wl U L (d - 1) s.1 s.2.1 s.2.2, nwF wl (n - d) s.1 s.2.1 (nxP n S wl U L (d - 1) s.1 s.2.1 s.2.2), anN s.2.2 (2 ^ nxP n S wl U L (d - 1) s.1 s.2.1 s.2.2)) t
theorem nxP_spec {n S : Nat} {wl : Nat → Int} {U : Nat → Nat} {L d who u free : Nat} (hL : L < 1000000) (h : opF n S wl U (d + 1) who u free ≤ L) : nxP n S wl U L d who u free < S ∧ alF wl (n - (d + 1)) who free (nxP n S wl U L d who u free) = true ∧ vF n S wl U d who u free (nxP n S wl U L d who u free) ≤ L ∧ ∀ k, k < nxP n S wl U L d who u free → ¬ (alF wl (n - (d + 1)) who free k = true ∧ vF n S wl U d who u free k ≤ L) := by
  obtain ⟨a, b, c⟩ := fsN_spec (fun k => alF wl (n - (d + 1)) who free k && decide (vF n S wl U d who u free k ≤ L)) S
  have hlt : nxP n S wl U L d who u free < S := by
    rcases Nat.lt_or_ge (nxP n S wl U L d who u free) S with q | q
    · exact q
    · exfalso
      rw [opF_s] at h
      rcases mnF_at (alF wl (n - (d + 1)) who free) (vF n S wl U d who u free) 1000000 S with z | ⟨k, k1, k2, k3⟩
      · omega
      · have := c k (by unfold nxP at q; omega)
        simp only [k2, Bool.true_and, decide_eq_false_iff_not] at this
        omega
  have hb := b hlt
  rw [Bool.and_eq_true, decide_eq_true_eq] at hb
  refine ⟨hlt, hb.1, hb.2, fun k hk q => ?_⟩
  have := c k hk
  rw [q.1, decide_eq_true q.2] at this
  cases this
theorem nxP_is {n S : Nat} {wl : Nat → Int} {U : Nat → Nat} {L d who u free k : Nat} (hk : k < S) (h1 : alF wl (n - (d + 1)) who free k = true) (h2 : vF n S wl U d who u free k ≤ L) (h : ∀ x, x < k → ¬ (alF wl (n - (d + 1)) who free x = true ∧ vF n S wl U d who u free x ≤ L)) : nxP n S wl U L d who u free = k := by
  refine fsN_is hk (by rw [h1, decide_eq_true h2]; rfl) (fun t ht => ?_)
  cases q : alF wl (n - (d + 1)) who free t with
  | false => rfl
  | true =>
    rw [Bool.true_and]
    exact decide_eq_false (fun z => h t ht ⟨q, z⟩)
