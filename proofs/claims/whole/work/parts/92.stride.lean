/-! PURE 72: strides -/
theorem seg_guard {D : Da} (I : DI D) {j : Nat} (hj : j < D.w) (g : D.go j = true) (hk : D.kd j = 3) : Seg D j (D.po j) (D.po j) 0 (-2 ^ 40) (2 ^ 40) (2 ^ 40) := by
  have n16 := I.g.n16
  have p := (pz_int I hj g 0).2.1
  unfold Da.hp at p
  rw [if_pos hk] at p
  refine ⟨⟨by omega, by omega, by omega, by omega, by omega, by omega, by omega⟩, fun h => by omega, fun x x1 x2 => ⟨fun _ => ?_, fun h => by omega⟩⟩
  unfold Da.pz
  rw [if_pos hk]
theorem seg_leg {D : Da} (I : DI D) {j i : Nat} (hj : j < D.w) (g : D.go j = true) (hk : D.kd j ≠ 3) (hi : i < D.sz j) {R : Int} (hR : (D.per j : Int) ∣ R - D.st j) (r1 : -2 ^ 39 ≤ R) (r2 : R ≤ 2 ^ 39) : Seg D j (D.pp j i) (D.pp j (nx (D.sz j) i)) (D.sp j) (R + D.cm j i) (R + D.cm j i + D.pr j i) (R + D.cm j (i + 1)) := by
  have n16 := I.g.n16
  have s6 := I.sp j hj
  have w0 := Da.why0 ((Da.go_ok g).2.2.2 hk)
  have nl : nx (D.sz j) i < D.sz j := by unfold nx; split <;> omega
  have cs : D.cm j (i + 1) = D.cm j i + (D.pr j i + D.un j * D.ln j i) := rfl
  have cmm := D.cm_mono j (show i + 1 ≤ D.sz j by omega)
  have c46 := I.cm_46 hj (Nat.le_refl (D.sz j))
  have per := D.per_cm (j := j) hk
  have w1 := w0.2.1 _ hi
  have w2 := w0.2.1 _ nl
  have lp := I.lt_pos hj g hk hi
  refine ⟨⟨by omega, by omega, by omega, by omega, by omega, by omega, by omega⟩, fun h => ⟨I.pn j _ hj hi, by omega, ?_⟩, ?_⟩
  · have e : R + (D.cm j (i + 1) : Nat) - (R + (D.cm j i : Nat) + (D.pr j i : Nat)) = ((D.un j * D.ln j i : Nat) : Int) := by omega
    rw [e, ← Int.natCast_mul, show D.sp j * (D.un j * D.ln j i) = 60 * D.ln j i by rw [← Nat.mul_assoc, Nat.mul_comm (D.sp j), sp60 I hj hk], Int.natCast_mul]
    rfl
  · intro x x1 x2
    obtain ⟨k, hk2⟩ := hR
    obtain ⟨y, hy⟩ : ∃ y : Nat, (y : Int) = x - R * 27720 := ⟨(x - R * 27720).toNat, by omega⟩
    have e1 : x - (D.st j : Nat) * 27720 = (y : Int) + ((D.per j : Nat) * 27720) * k := by
      rw [Int.mul_right_comm, ← hk2]; omega
    have gp : D.gp j x = y := by
      unfold Da.gp
      rw [e1, Int.add_mul_emod_self_left, Int.emod_eq_of_lt (by omega) (by omega), Int.toNat_natCast]
    have lf : D.lf j (y / 27720) = i := Da.lf_one hi (by omega) (by omega)
    unfold Da.pz
    rw [if_neg hk, gp, lf]
    refine ⟨fun h => ?_, fun h => ?_⟩
    · rw [if_pos (by omega)]
    · rw [if_neg (by omega)]
      have e : x - (R + (D.cm j i : Nat) + (D.pr j i : Nat)) * 27720 = ((y - (D.cm j i + D.pr j i) * 27720 : Nat) : Int) := by omega
      rw [e, ← Int.natCast_mul, Int.toNat_natCast]
      rfl
theorem sI_o (μ : Mm) (c k : Nat) (v : Int32) {f : Nat} (h : f ≠ k) : (sI μ c k v).1 c f = μ.1 c f := by rw [sI_at, upd_ne _ _ h]
theorem sL_o (μ : Mm) (c k : Nat) (v : Int64) {f : Nat} (h : f ≠ k) : (sL μ c k v).2 c f = μ.2 c f := by rw [sL_at, updL_at, if_neg h]
theorem sL_e (μ : Mm) (c k : Nat) (v : Int64) : (sL μ c k v).2 c k = v := by rw [sL_at, updL_at, if_pos rfl]
theorem sI_e (μ : Mm) (c k : Nat) (v : Int32) : (sI μ c k v).1 c k = v := by rw [sI_at, upd_eq]
def StR (D : Da) (q j i : Nat) (R : Int) (μ : Mm) : Mm := sL (sL (sL (sI (sI μ q 3 (nI (D.pp j i))) q 4 (nI (D.pp j (nx (D.sz j) i)))) q 6 (zL (R + D.cm j i))) q 7 (zL (R + D.cm j i + D.pr j i))) q 8 (zL (R + D.cm j (i + 1)))
theorem St_read_eq (N : Nat) {D : Da} (I : DI D) {q j i : Nat} (hq : q = 72 ∨ q = 73) (hj : j < D.w) (g : D.go j = true) (hk : D.kd j ≠ 3) (hi : i < D.sz j) {R : Int} (μ : Mm) (X : DX D μ) (C : CrewOk D μ) (h0 : μ.1 q 0 = nI j) (h1 : μ.1 q 1 = nI i) (h2 : μ.2 q 2 = zL R) : f_St_read N q μ = some (StR D q j i R μ) := by
  have w8 := I.w8
  have h24 := I.sz24 hj
  have nl : nx (D.sz j) i < D.sz j := by unfold nx; split <;> omega
  have c46 := I.cm_46 hj (show i + 1 ≤ D.sz j by omega)
  have cs : D.cm j (i + 1) = D.cm j i + (D.pr j i + D.un j * D.ln j i) := rfl
  have fr3 : XFr μ (sI μ q 3 (nI (D.pp j i))) := XFr.fld (by omega) _ _
  have fr4 : XFr μ (sI (sI μ q 3 (nI (D.pp j i))) q 4 (nI (D.pp j (nx (D.sz j) i)))) := fr3.trans (XFr.fld (by omega) _ _)
  have X3 := fr3.dx w8 X
  have X4 := fr4.dx w8 X
  have C4 := (fr4.crew w8 C).2 j hj g
  obtain ⟨_, _, C5⟩ := C4
  obtain ⟨C6, C7⟩ := C5 hk
  have cl : (nI j).toNatClampNeg = j := nI_clamp (by omega)
  have j8 : j < 8 := by omega
  have ci : (nI i).toNatClampNeg = i := nI_clamp (by omega)
  unfold f_St_read StR
  simp only [h0, h1, cl, if_pos j8, ci, if_pos (ixb_t (show i < 24 by omega) (show 24 < 2 ^ 31 by decide)), X.pp j i hj hi, sI_o _ q 3 _ (show (0 : Nat) ≠ 3 by decide), sI_o _ q 3 _ (show (1 : Nat) ≠ 3 by decide)]
  rw [Wk_legBehind_eq N I hj hi _ X3, bnS]
  simp only [if_pos (ixb_t (show nx (D.sz j) i < 24 by omega) (show 24 < 2 ^ 31 by decide)), nI_clamp (show nx (D.sz j) i < 2 ^ 31 by omega), X3.pp j _ hj nl, sI_o _ q 4 _ (show (0 : Nat) ≠ 4 by decide), sI_o _ q 4 _ (show (1 : Nat) ≠ 4 by decide), sI_o _ q 3 _ (show (0 : Nat) ≠ 3 by decide), sI_o _ q 3 _ (show (1 : Nat) ≠ 3 by decide), h0, h1, cl, if_pos j8, ci, if_pos (ixb_t (show i < 25 by omega) (show 25 < 2 ^ 31 by decide)), if_pos (ixb_t (show i < 24 by omega) (show 24 < 2 ^ 31 by decide)), C6 i (by omega), sI2, h2, sL1, sL_o _ q 6 _ (show (2 : Nat) ≠ 6 by decide), sL_o _ q 7 _ (show (2 : Nat) ≠ 7 by decide), (C7 i hi).1, ← nI_succ, if_pos (ixb_t (show i + 1 < 25 by omega) (show 25 < 2 ^ 31 by decide)), nI_clamp (show i + 1 < 2 ^ 31 by omega), C6 (i + 1) (by omega)]
  rw [i2lN (show D.cm j i < 2 ^ 31 by omega), i2lN (show D.cm j i + D.pr j i < 2 ^ 31 by omega), i2lN (show D.cm j (i + 1) < 2 ^ 31 by omega), lN_z, lN_z, lN_z, zL_add, zL_add, zL_add, show R + ((D.cm j i + D.pr j i : Nat) : Int) = R + D.cm j i + D.pr j i by omega]
