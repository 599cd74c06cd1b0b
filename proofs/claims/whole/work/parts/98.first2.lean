/-! PURE 78: the class's first meeting, for ever -/
theorem pz_per {D : Da} {j J : Nat} (hd : D.per j ∣ J) (x k : Int) : D.pz j (x + (J : Int) * 27720 * k) = D.pz j x := by
  have gp : D.gp j (x + (J : Int) * 27720 * k) = D.gp j x := by
    obtain ⟨q, hq⟩ := hd
    unfold Da.gp
    have e : x + (J : Int) * 27720 * k - (D.st j : Int) * 27720 = (x - (D.st j : Int) * 27720) + (D.per j : Int) * 27720 * (q * k) := by
      have : (J : Int) * 27720 * k = (D.per j : Int) * 27720 * (q * k) := by
        rw [hq, Int.natCast_mul, Int.mul_right_comm (D.per j : Int) q 27720, Int.mul_assoc ((D.per j : Int) * 27720)]
      omega
    rw [e, Int.add_mul_emod_self_left]
  unfold Da.pz
  rw [gp]
def Da.CR (D : Da) (a b F J : Nat) (r : Int64) : Prop := (r = -1 ∧ ∀ y : Nat, F ≤ y → ¬ D.pz a (y : Int) = D.pz b (y : Int)) ∨ ∃ x : Nat, r = lN x ∧ F ≤ x ∧ x < F + J * 27720 ∧ D.pz a (x : Int) = D.pz b (x : Int) ∧ ∀ y : Nat, F ≤ y → y < x → ¬ D.pz a (y : Int) = D.pz b (y : Int)
theorem same_back {D : Da} {a b F J : Nat} (hJ : 1 ≤ J) (da : D.per a ∣ J) (db : D.per b ∣ J) {x : Int} (hx : (F : Int) ≤ x) (h : D.pz a x = D.pz b x) : ∃ y : Nat, F ≤ y ∧ y < F + J * 27720 ∧ (y : Int) ≤ x ∧ D.pz a (y : Int) = D.pz b (y : Int) := by
  have m0 := Int.emod_nonneg (x - F) (show (J : Int) * 27720 ≠ 0 by omega)
  have m1 := Int.emod_lt_of_pos (x - F) (show (0 : Int) < (J : Int) * 27720 by omega)
  have m2 := Int.emod_add_mul_ediv (x - F) ((J : Int) * 27720)
  have m3 : 0 ≤ (J : Int) * 27720 * ((x - F) / ((J : Int) * 27720)) := Int.mul_nonneg (by omega) (Int.ediv_nonneg (by omega) (by omega))
  generalize (x - F) % ((J : Int) * 27720) = r at *
  generalize (x - F) / ((J : Int) * 27720) = k at *
  refine ⟨(F + r).toNat, by omega, by omega, by omega, ?_⟩
  rw [show (((F + r).toNat : Nat) : Int) = F + r by omega, ← pz_per da (F + r) k, ← pz_per db (F + r) k]
  rw [show (F : Int) + r + (J : Int) * 27720 * k = x by omega]
  exact h
theorem FF.cr {D : Da} {a b F J : Nat} {r : Int64} (hJ : 1 ≤ J) (da : D.per a ∣ J) (db : D.per b ∣ J) (h : FF D a b F (F + J * 27720) r) : D.CR a b F J r := by
  rcases h with ⟨h1, h2⟩ | ⟨x, h1, h2, h3, h4⟩
  · refine Or.inl ⟨h1, fun y y1 q => ?_⟩
    obtain ⟨z, z1, z2, z3, z4⟩ := same_back hJ da db (F := F) (by omega) q
    exact h2 z (by omega) (by omega) z4
  · obtain ⟨z, z1, z2, z3, z4⟩ := same_back hJ da db (F := F) h2 h3
    have e : (z : Int) = x := by
      by_cases c : (z : Int) < x
      · exact absurd z4 (h4 z (by omega) c)
      · omega
    subst e
    exact Or.inr ⟨z, h1, z1, z2, h3, fun y y1 y2 => h4 y (by omega) (by omega)⟩
theorem Me_firstOf_eq (N : Nat) (hN : 3000 ≤ N) {D : Da} (I : DI D) {a b : Nat} (ha : a < D.w) (hb : b < D.w) (ga : D.go a = true) (gb : D.go b = true) (ne : a ≠ b) (hJ : D.j2 a b ≤ 14400) {F : Nat} (hF : F < 2 ^ 45) (μ : Mm) (X : DX D μ) (K : CrewOk D μ) : ∃ r μ', f_Me_firstOf N (nI a) (nI b) (lN F) μ = some (r, μ') ∧ XFr μ μ' ∧ μ'.2 74 = μ.2 74 ∧ D.CR a b F (D.j2 a b) r := by
  have w8 := I.w8
  have j := I.j2 ha hb ga gb
  unfold f_Me_firstOf
  rw [Cr_pair N (by omega) I ha hb ga gb ne μ X K, bnS, if_neg (by omega)]
  simp only []
  rw [Cr_get_eq N (by omega), bnS, if_pos (by omega)]
  obtain ⟨μ1, Ca, Ea, p1, p2, p3, p4, p5⟩ := St_set_eq N (by omega) I (q := 72) (Or.inl rfl) ha ga hF μ X K
  have x1 := p2.x (Or.inl rfl)
  rw [p1, bvS, Cr_get_eq N (by omega), bnS, if_pos (by omega)]
  obtain ⟨μ2, Cb, Eb, q1, q2, q3, q4, q5⟩ := St_set_eq N (by omega) I (q := 73) (Or.inr rfl) hb gb hF μ1 (x1.dx w8 X) (x1.crew w8 K)
  have x2 := x1.trans (q2.x (Or.inr rfl))
  rw [q1, bvS, i2lN (by omega), show (27720 : Int64) = zL 27720 from rfl, lN_z, lN_z, zL_mul, zL_add]
  obtain ⟨r, μ', k1, k2, k3, k4⟩ := first_loop N I ha hb ga gb hF hJ N 0 0 0 Ca Ea Cb Eb μ2 (x2.dx w8 X) (x2.crew w8 K) (p3.other q2 (by decide)) q3 (by omega) (by omega) p5 q5 (fun x y1 y2 => by omega) (by omega) (by omega) (by omega) (fun h => by omega) (fun h => by omega)
  refine ⟨r, μ', k1, x2.trans k2, (k3.trans (q2 74 (by decide)).2).trans (p2 74 (by decide)).2, k4.cr j.1 j.2.2.1 j.2.2.2⟩
