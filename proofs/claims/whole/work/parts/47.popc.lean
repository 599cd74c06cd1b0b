/-! PURE 27: how many bits -/
theorem fld {k h l m m0 : Nat} (hl : l < 2 ^ k) (hm : m0 < 2 ^ k) : (2 ^ k * h + l) &&& (2 ^ k * m + m0) = 2 ^ k * (h &&& m) + (l &&& m0) := by
  refine Nat.eq_of_testBit_eq (fun i => ?_)
  have hlm : l &&& m0 < 2 ^ k := Nat.and_lt_two_pow _ hm
  rw [Nat.testBit_and, Nat.testBit_two_pow_mul_add _ hl, Nat.testBit_two_pow_mul_add _ hm, Nat.testBit_two_pow_mul_add _ hlm, Nat.testBit_and, Nat.testBit_and]
  split <;> rfl
theorem fld4 {h l m m0 : Nat} (hl : l < 4) (hm : m0 < 4) : (4 * h + l) &&& (4 * m + m0) = 4 * (h &&& m) + (l &&& m0) := fld (k := 2) hl hm
theorem fld16 {h l m m0 : Nat} (hl : l < 16) (hm : m0 < 16) : (16 * h + l) &&& (16 * m + m0) = 16 * (h &&& m) + (l &&& m0) := fld (k := 4) hl hm
theorem and1 (x : Nat) : x &&& 1 = x % 2 := Nat.and_one_is_mod x
theorem and3 (x : Nat) : x &&& 3 = x % 4 := Nat.and_two_pow_sub_one_eq_mod x 2
theorem and15 (x : Nat) : x &&& 15 = x % 16 := Nat.and_two_pow_sub_one_eq_mod x 4
theorem and63 (x : Nat) : x &&& 63 = x % 64 := Nat.and_two_pow_sub_one_eq_mod x 6
theorem st5 (x m : Nat) (hm : m % 4 = 1) : x &&& m = 4 * ((x / 4) &&& (m / 4)) + x % 2 := by
  have h := fld4 (h := x / 4) (l := x % 4) (m := m / 4) (m0 := m % 4) (by omega) (by omega)
  rw [Nat.div_add_mod, Nat.div_add_mod, hm, and1] at h
  rw [h]
  omega
theorem st3 (x m : Nat) (hm : m % 16 = 3) : x &&& m = 16 * ((x / 16) &&& (m / 16)) + x % 4 := by
  have h := fld16 (h := x / 16) (l := x % 16) (m := m / 16) (m0 := m % 16) (by omega) (by omega)
  rw [Nat.div_add_mod, Nat.div_add_mod, hm, and3] at h
  rw [h]
  omega
theorem stf (x m : Nat) (hm : m % 16 = 15) : x &&& m = 16 * ((x / 16) &&& (m / 16)) + x % 16 := by
  have h := fld16 (h := x / 16) (l := x % 16) (m := m / 16) (m0 := m % 16) (by omega) (by omega)
  rw [Nat.div_add_mod, Nat.div_add_mod, hm, and15] at h
  rw [h]
  omega
theorem st0 (x m : Nat) (hm : m % 16 = 0) : x &&& m = 16 * ((x / 16) &&& (m / 16)) := by
  have h := fld16 (h := x / 16) (l := x % 16) (m := m / 16) (m0 := m % 16) (by omega) (by omega)
  rw [Nat.div_add_mod, Nat.div_add_mod, hm, Nat.and_zero] at h
  rw [h]
  omega
theorem m5 {x : Nat} (h : x < 65536) : x &&& 1431655765 = x % 2 + 4 * (x / 4 % 2) + 16 * (x / 16 % 2) + 64 * (x / 64 % 2) + 256 * (x / 256 % 2) + 1024 * (x / 1024 % 2) + 4096 * (x / 4096 % 2) + 16384 * (x / 16384 % 2) := by
  rw [st5 x _ (by decide), st5 (x / 4) _ (by decide), st5 (x / 4 / 4) _ (by decide), st5 (x / 4 / 4 / 4) _ (by decide), st5 (x / 4 / 4 / 4 / 4) _ (by decide), st5 (x / 4 / 4 / 4 / 4 / 4) _ (by decide), st5 (x / 4 / 4 / 4 / 4 / 4 / 4) _ (by decide), st5 (x / 4 / 4 / 4 / 4 / 4 / 4 / 4) _ (by decide)]
  have e : x / 4 / 4 / 4 / 4 / 4 / 4 / 4 / 4 = 0 := by
    simp only [Nat.div_div_eq_div_mul, Nat.reduceMul]
    omega
  rw [e, Nat.zero_and]
  simp only [Nat.div_div_eq_div_mul, Nat.reduceMul]
  generalize x % 2 = a0
  generalize x / 4 % 2 = a1
  generalize x / 16 % 2 = a2
  generalize x / 64 % 2 = a3
  generalize x / 256 % 2 = a4
  generalize x / 1024 % 2 = a5
  generalize x / 4096 % 2 = a6
  generalize x / 16384 % 2 = a7
  omega
theorem m3 {x : Nat} (h : x < 65536) : x &&& 858993459 = x % 4 + 16 * (x / 16 % 4) + 256 * (x / 256 % 4) + 4096 * (x / 4096 % 4) := by
  rw [st3 x _ (by decide), st3 (x / 16) _ (by decide), st3 (x / 16 / 16) _ (by decide), st3 (x / 16 / 16 / 16) _ (by decide)]
  have e : x / 16 / 16 / 16 / 16 = 0 := by
    simp only [Nat.div_div_eq_div_mul, Nat.reduceMul]
    omega
  rw [e, Nat.zero_and]
  simp only [Nat.div_div_eq_div_mul, Nat.reduceMul]
  generalize x / 16 % 4 = a16
  generalize x / 256 % 4 = a256
  generalize x / 4096 % 4 = a4096
  generalize x % 4 = a0
  omega
theorem mf0 {x : Nat} (h : x < 65536) : x &&& 252645135 = x % 16 + 256 * (x / 256 % 16) := by
  rw [stf x _ (by decide), st0 (x / 16) _ (by decide), stf (x / 16 / 16) _ (by decide), st0 (x / 16 / 16 / 16) _ (by decide)]
  have e : x / 16 / 16 / 16 / 16 = 0 := by
    simp only [Nat.div_div_eq_div_mul, Nat.reduceMul]
    omega
  rw [e, Nat.zero_and]
  simp only [Nat.div_div_eq_div_mul, Nat.reduceMul]
  generalize x / 256 % 16 = a1
  generalize x % 16 = a0
  omega
def x1N (a : Nat) : Nat := a - ((a / 2) &&& 1431655765)
def x2N (a : Nat) : Nat := (x1N a &&& 858993459) + ((x1N a / 4) &&& 858993459)
def x3N (a : Nat) : Nat := (x2N a + x2N a / 16) &&& 252645135
def x4N (a : Nat) : Nat := x3N a + x3N a / 256
/-- a number's digits to the base 4 -/
theorem dig4 {a : Nat} (h : a < 65536) : ∃ d0 d1 d2 d3 d4 d5 d6 d7 : Nat, (d0 < 4 ∧ d1 < 4 ∧ d2 < 4 ∧ d3 < 4 ∧ d4 < 4 ∧ d5 < 4 ∧ d6 < 4 ∧ d7 < 4) ∧ a = d0 + 4 * d1 + 16 * d2 + 64 * d3 + 256 * d4 + 1024 * d5 + 4096 * d6 + 16384 * d7 := by
  have h1 := Nat.div_add_mod a 4
  have h2 := Nat.div_add_mod (a / 4) 4
  have h3 := Nat.div_add_mod (a / 4 / 4) 4
  have h4 := Nat.div_add_mod (a / 4 / 4 / 4) 4
  have h5 := Nat.div_add_mod (a / 4 / 4 / 4 / 4) 4
  have h6 := Nat.div_add_mod (a / 4 / 4 / 4 / 4 / 4) 4
  have h7 := Nat.div_add_mod (a / 4 / 4 / 4 / 4 / 4 / 4) 4
  have l0 := Nat.mod_lt a (show 0 < 4 by decide)
  have l1 := Nat.mod_lt (a / 4) (show 0 < 4 by decide)
  have l2 := Nat.mod_lt (a / 4 / 4) (show 0 < 4 by decide)
  have l3 := Nat.mod_lt (a / 4 / 4 / 4) (show 0 < 4 by decide)
  have l4 := Nat.mod_lt (a / 4 / 4 / 4 / 4) (show 0 < 4 by decide)
  have l5 := Nat.mod_lt (a / 4 / 4 / 4 / 4 / 4) (show 0 < 4 by decide)
  have l6 := Nat.mod_lt (a / 4 / 4 / 4 / 4 / 4 / 4) (show 0 < 4 by decide)
  have l7 : a / 4 / 4 / 4 / 4 / 4 / 4 / 4 < 4 := by
    rw [Nat.div_div_eq_div_mul, Nat.div_div_eq_div_mul, Nat.div_div_eq_div_mul, Nat.div_div_eq_div_mul, Nat.div_div_eq_div_mul, Nat.div_div_eq_div_mul]
    exact (Nat.div_lt_iff_lt_mul (by decide)).mpr h
  refine ⟨a % 4, a / 4 % 4, a / 4 / 4 % 4, a / 4 / 4 / 4 % 4, a / 4 / 4 / 4 / 4 % 4, a / 4 / 4 / 4 / 4 / 4 % 4, a / 4 / 4 / 4 / 4 / 4 / 4 % 4, a / 4 / 4 / 4 / 4 / 4 / 4 / 4, ⟨l0, l1, l2, l3, l4, l5, l6, l7⟩, ?_⟩
  generalize a / 4 / 4 / 4 / 4 / 4 / 4 / 4 = q7 at *
  generalize a / 4 / 4 / 4 / 4 / 4 / 4 % 4 = r6 at *
  generalize a / 4 / 4 / 4 / 4 / 4 / 4 = q6 at *
  generalize a / 4 / 4 / 4 / 4 / 4 % 4 = r5 at *
  generalize a / 4 / 4 / 4 / 4 / 4 = q5 at *
  generalize a / 4 / 4 / 4 / 4 % 4 = r4 at *
  generalize a / 4 / 4 / 4 / 4 = q4 at *
  generalize a / 4 / 4 / 4 % 4 = r3 at *
  generalize a / 4 / 4 / 4 = q3 at *
  generalize a / 4 / 4 % 4 = r2 at *
  generalize a / 4 / 4 = q2 at *
  generalize a / 4 % 4 = r1 at *
  generalize a / 4 = q1 at *
  generalize a % 4 = r0 at *
  omega
theorem dq0 {d0 d1 d2 d3 d4 d5 d6 d7 : Nat} (hd : d0 < 4 ∧ d1 < 4 ∧ d2 < 4 ∧ d3 < 4 ∧ d4 < 4 ∧ d5 < 4 ∧ d6 < 4 ∧ d7 < 4) : (d0 + 4 * d1 + 16 * d2 + 64 * d3 + 256 * d4 + 1024 * d5 + 4096 * d6 + 16384 * d7) / 2 % 2 = d0 / 2 := by omega
theorem dq1 {d0 d1 d2 d3 d4 d5 d6 d7 : Nat} (hd : d0 < 4 ∧ d1 < 4 ∧ d2 < 4 ∧ d3 < 4 ∧ d4 < 4 ∧ d5 < 4 ∧ d6 < 4 ∧ d7 < 4) : (d0 + 4 * d1 + 16 * d2 + 64 * d3 + 256 * d4 + 1024 * d5 + 4096 * d6 + 16384 * d7) / 2 / 4 % 2 = d1 / 2 := by omega
theorem dq2 {d0 d1 d2 d3 d4 d5 d6 d7 : Nat} (hd : d0 < 4 ∧ d1 < 4 ∧ d2 < 4 ∧ d3 < 4 ∧ d4 < 4 ∧ d5 < 4 ∧ d6 < 4 ∧ d7 < 4) : (d0 + 4 * d1 + 16 * d2 + 64 * d3 + 256 * d4 + 1024 * d5 + 4096 * d6 + 16384 * d7) / 2 / 16 % 2 = d2 / 2 := by omega
theorem dq3 {d0 d1 d2 d3 d4 d5 d6 d7 : Nat} (hd : d0 < 4 ∧ d1 < 4 ∧ d2 < 4 ∧ d3 < 4 ∧ d4 < 4 ∧ d5 < 4 ∧ d6 < 4 ∧ d7 < 4) : (d0 + 4 * d1 + 16 * d2 + 64 * d3 + 256 * d4 + 1024 * d5 + 4096 * d6 + 16384 * d7) / 2 / 64 % 2 = d3 / 2 := by omega
theorem dq4 {d0 d1 d2 d3 d4 d5 d6 d7 : Nat} (hd : d0 < 4 ∧ d1 < 4 ∧ d2 < 4 ∧ d3 < 4 ∧ d4 < 4 ∧ d5 < 4 ∧ d6 < 4 ∧ d7 < 4) : (d0 + 4 * d1 + 16 * d2 + 64 * d3 + 256 * d4 + 1024 * d5 + 4096 * d6 + 16384 * d7) / 2 / 256 % 2 = d4 / 2 := by omega
theorem dq5 {d0 d1 d2 d3 d4 d5 d6 d7 : Nat} (hd : d0 < 4 ∧ d1 < 4 ∧ d2 < 4 ∧ d3 < 4 ∧ d4 < 4 ∧ d5 < 4 ∧ d6 < 4 ∧ d7 < 4) : (d0 + 4 * d1 + 16 * d2 + 64 * d3 + 256 * d4 + 1024 * d5 + 4096 * d6 + 16384 * d7) / 2 / 1024 % 2 = d5 / 2 := by omega
theorem dq6 {d0 d1 d2 d3 d4 d5 d6 d7 : Nat} (hd : d0 < 4 ∧ d1 < 4 ∧ d2 < 4 ∧ d3 < 4 ∧ d4 < 4 ∧ d5 < 4 ∧ d6 < 4 ∧ d7 < 4) : (d0 + 4 * d1 + 16 * d2 + 64 * d3 + 256 * d4 + 1024 * d5 + 4096 * d6 + 16384 * d7) / 2 / 4096 % 2 = d6 / 2 := by omega
theorem dq7 {d0 d1 d2 d3 d4 d5 d6 d7 : Nat} (hd : d0 < 4 ∧ d1 < 4 ∧ d2 < 4 ∧ d3 < 4 ∧ d4 < 4 ∧ d5 < 4 ∧ d6 < 4 ∧ d7 < 4) : (d0 + 4 * d1 + 16 * d2 + 64 * d3 + 256 * d4 + 1024 * d5 + 4096 * d6 + 16384 * d7) / 2 / 16384 % 2 = d7 / 2 := by omega
theorem dr0 {d0 d1 d2 d3 d4 d5 d6 d7 : Nat} (hd : d0 < 4 ∧ d1 < 4 ∧ d2 < 4 ∧ d3 < 4 ∧ d4 < 4 ∧ d5 < 4 ∧ d6 < 4 ∧ d7 < 4) : (d0 + 4 * d1 + 16 * d2 + 64 * d3 + 256 * d4 + 1024 * d5 + 4096 * d6 + 16384 * d7) / 2 ^ 0 % 2 = d0 % 2 := by omega
theorem ds0 {d0 d1 d2 d3 d4 d5 d6 d7 : Nat} (hd : d0 < 4 ∧ d1 < 4 ∧ d2 < 4 ∧ d3 < 4 ∧ d4 < 4 ∧ d5 < 4 ∧ d6 < 4 ∧ d7 < 4) : (d0 + 4 * d1 + 16 * d2 + 64 * d3 + 256 * d4 + 1024 * d5 + 4096 * d6 + 16384 * d7) / 2 ^ 1 % 2 = d0 / 2 := by omega
theorem dr1 {d0 d1 d2 d3 d4 d5 d6 d7 : Nat} (hd : d0 < 4 ∧ d1 < 4 ∧ d2 < 4 ∧ d3 < 4 ∧ d4 < 4 ∧ d5 < 4 ∧ d6 < 4 ∧ d7 < 4) : (d0 + 4 * d1 + 16 * d2 + 64 * d3 + 256 * d4 + 1024 * d5 + 4096 * d6 + 16384 * d7) / 2 ^ 2 % 2 = d1 % 2 := by omega
theorem ds1 {d0 d1 d2 d3 d4 d5 d6 d7 : Nat} (hd : d0 < 4 ∧ d1 < 4 ∧ d2 < 4 ∧ d3 < 4 ∧ d4 < 4 ∧ d5 < 4 ∧ d6 < 4 ∧ d7 < 4) : (d0 + 4 * d1 + 16 * d2 + 64 * d3 + 256 * d4 + 1024 * d5 + 4096 * d6 + 16384 * d7) / 2 ^ 3 % 2 = d1 / 2 := by omega
theorem dr2 {d0 d1 d2 d3 d4 d5 d6 d7 : Nat} (hd : d0 < 4 ∧ d1 < 4 ∧ d2 < 4 ∧ d3 < 4 ∧ d4 < 4 ∧ d5 < 4 ∧ d6 < 4 ∧ d7 < 4) : (d0 + 4 * d1 + 16 * d2 + 64 * d3 + 256 * d4 + 1024 * d5 + 4096 * d6 + 16384 * d7) / 2 ^ 4 % 2 = d2 % 2 := by omega
theorem ds2 {d0 d1 d2 d3 d4 d5 d6 d7 : Nat} (hd : d0 < 4 ∧ d1 < 4 ∧ d2 < 4 ∧ d3 < 4 ∧ d4 < 4 ∧ d5 < 4 ∧ d6 < 4 ∧ d7 < 4) : (d0 + 4 * d1 + 16 * d2 + 64 * d3 + 256 * d4 + 1024 * d5 + 4096 * d6 + 16384 * d7) / 2 ^ 5 % 2 = d2 / 2 := by omega
theorem dr3 {d0 d1 d2 d3 d4 d5 d6 d7 : Nat} (hd : d0 < 4 ∧ d1 < 4 ∧ d2 < 4 ∧ d3 < 4 ∧ d4 < 4 ∧ d5 < 4 ∧ d6 < 4 ∧ d7 < 4) : (d0 + 4 * d1 + 16 * d2 + 64 * d3 + 256 * d4 + 1024 * d5 + 4096 * d6 + 16384 * d7) / 2 ^ 6 % 2 = d3 % 2 := by omega
theorem ds3 {d0 d1 d2 d3 d4 d5 d6 d7 : Nat} (hd : d0 < 4 ∧ d1 < 4 ∧ d2 < 4 ∧ d3 < 4 ∧ d4 < 4 ∧ d5 < 4 ∧ d6 < 4 ∧ d7 < 4) : (d0 + 4 * d1 + 16 * d2 + 64 * d3 + 256 * d4 + 1024 * d5 + 4096 * d6 + 16384 * d7) / 2 ^ 7 % 2 = d3 / 2 := by omega
theorem dr4 {d0 d1 d2 d3 d4 d5 d6 d7 : Nat} (hd : d0 < 4 ∧ d1 < 4 ∧ d2 < 4 ∧ d3 < 4 ∧ d4 < 4 ∧ d5 < 4 ∧ d6 < 4 ∧ d7 < 4) : (d0 + 4 * d1 + 16 * d2 + 64 * d3 + 256 * d4 + 1024 * d5 + 4096 * d6 + 16384 * d7) / 2 ^ 8 % 2 = d4 % 2 := by omega
theorem ds4 {d0 d1 d2 d3 d4 d5 d6 d7 : Nat} (hd : d0 < 4 ∧ d1 < 4 ∧ d2 < 4 ∧ d3 < 4 ∧ d4 < 4 ∧ d5 < 4 ∧ d6 < 4 ∧ d7 < 4) : (d0 + 4 * d1 + 16 * d2 + 64 * d3 + 256 * d4 + 1024 * d5 + 4096 * d6 + 16384 * d7) / 2 ^ 9 % 2 = d4 / 2 := by omega
theorem dr5 {d0 d1 d2 d3 d4 d5 d6 d7 : Nat} (hd : d0 < 4 ∧ d1 < 4 ∧ d2 < 4 ∧ d3 < 4 ∧ d4 < 4 ∧ d5 < 4 ∧ d6 < 4 ∧ d7 < 4) : (d0 + 4 * d1 + 16 * d2 + 64 * d3 + 256 * d4 + 1024 * d5 + 4096 * d6 + 16384 * d7) / 2 ^ 10 % 2 = d5 % 2 := by omega
theorem ds5 {d0 d1 d2 d3 d4 d5 d6 d7 : Nat} (hd : d0 < 4 ∧ d1 < 4 ∧ d2 < 4 ∧ d3 < 4 ∧ d4 < 4 ∧ d5 < 4 ∧ d6 < 4 ∧ d7 < 4) : (d0 + 4 * d1 + 16 * d2 + 64 * d3 + 256 * d4 + 1024 * d5 + 4096 * d6 + 16384 * d7) / 2 ^ 11 % 2 = d5 / 2 := by omega
theorem dr6 {d0 d1 d2 d3 d4 d5 d6 d7 : Nat} (hd : d0 < 4 ∧ d1 < 4 ∧ d2 < 4 ∧ d3 < 4 ∧ d4 < 4 ∧ d5 < 4 ∧ d6 < 4 ∧ d7 < 4) : (d0 + 4 * d1 + 16 * d2 + 64 * d3 + 256 * d4 + 1024 * d5 + 4096 * d6 + 16384 * d7) / 2 ^ 12 % 2 = d6 % 2 := by omega
theorem ds6 {d0 d1 d2 d3 d4 d5 d6 d7 : Nat} (hd : d0 < 4 ∧ d1 < 4 ∧ d2 < 4 ∧ d3 < 4 ∧ d4 < 4 ∧ d5 < 4 ∧ d6 < 4 ∧ d7 < 4) : (d0 + 4 * d1 + 16 * d2 + 64 * d3 + 256 * d4 + 1024 * d5 + 4096 * d6 + 16384 * d7) / 2 ^ 13 % 2 = d6 / 2 := by omega
theorem dr7 {d0 d1 d2 d3 d4 d5 d6 d7 : Nat} (hd : d0 < 4 ∧ d1 < 4 ∧ d2 < 4 ∧ d3 < 4 ∧ d4 < 4 ∧ d5 < 4 ∧ d6 < 4 ∧ d7 < 4) : (d0 + 4 * d1 + 16 * d2 + 64 * d3 + 256 * d4 + 1024 * d5 + 4096 * d6 + 16384 * d7) / 2 ^ 14 % 2 = d7 % 2 := by omega
theorem ds7 {d0 d1 d2 d3 d4 d5 d6 d7 : Nat} (hd : d0 < 4 ∧ d1 < 4 ∧ d2 < 4 ∧ d3 < 4 ∧ d4 < 4 ∧ d5 < 4 ∧ d6 < 4 ∧ d7 < 4) : (d0 + 4 * d1 + 16 * d2 + 64 * d3 + 256 * d4 + 1024 * d5 + 4096 * d6 + 16384 * d7) / 2 ^ 15 % 2 = d7 / 2 := by omega
theorem x1N_eq {d0 d1 d2 d3 d4 d5 d6 d7 : Nat} (hd : d0 < 4 ∧ d1 < 4 ∧ d2 < 4 ∧ d3 < 4 ∧ d4 < 4 ∧ d5 < 4 ∧ d6 < 4 ∧ d7 < 4) : x1N (d0 + 4 * d1 + 16 * d2 + 64 * d3 + 256 * d4 + 1024 * d5 + 4096 * d6 + 16384 * d7) = (d0 - d0 / 2) + 4 * (d1 - d1 / 2) + 16 * (d2 - d2 / 2) + 64 * (d3 - d3 / 2) + 256 * (d4 - d4 / 2) + 1024 * (d5 - d5 / 2) + 4096 * (d6 - d6 / 2) + 16384 * (d7 - d7 / 2) := by
  unfold x1N
  have lt : (d0 + 4 * d1 + 16 * d2 + 64 * d3 + 256 * d4 + 1024 * d5 + 4096 * d6 + 16384 * d7) / 2 < 65536 := by omega
  rw [m5 lt, dq0 hd, dq1 hd, dq2 hd, dq3 hd, dq4 hd, dq5 hd, dq6 hd, dq7 hd]
  clear lt hd
  have y0 : d0 / 2 ≤ d0 := Nat.div_le_self _ _
  have y1 : d1 / 2 ≤ d1 := Nat.div_le_self _ _
  have y2 : d2 / 2 ≤ d2 := Nat.div_le_self _ _
  have y3 : d3 / 2 ≤ d3 := Nat.div_le_self _ _
  have y4 : d4 / 2 ≤ d4 := Nat.div_le_self _ _
  have y5 : d5 / 2 ≤ d5 := Nat.div_le_self _ _
  have y6 : d6 / 2 ≤ d6 := Nat.div_le_self _ _
  have y7 : d7 / 2 ≤ d7 := Nat.div_le_self _ _
  generalize d0 / 2 = h0 at *
  generalize d1 / 2 = h1 at *
  generalize d2 / 2 = h2 at *
  generalize d3 / 2 = h3 at *
  generalize d4 / 2 = h4 at *
  generalize d5 / 2 = h5 at *
  generalize d6 / 2 = h6 at *
  generalize d7 / 2 = h7 at *
  omega
theorem ea0 {e0 e1 e2 e3 e4 e5 e6 e7 : Nat} (he : e0 < 3 ∧ e1 < 3 ∧ e2 < 3 ∧ e3 < 3 ∧ e4 < 3 ∧ e5 < 3 ∧ e6 < 3 ∧ e7 < 3) : (e0 + 4 * e1 + 16 * e2 + 64 * e3 + 256 * e4 + 1024 * e5 + 4096 * e6 + 16384 * e7) % 4 = e0 := by omega
theorem eb0 {e0 e1 e2 e3 e4 e5 e6 e7 : Nat} (he : e0 < 3 ∧ e1 < 3 ∧ e2 < 3 ∧ e3 < 3 ∧ e4 < 3 ∧ e5 < 3 ∧ e6 < 3 ∧ e7 < 3) : (e0 + 4 * e1 + 16 * e2 + 64 * e3 + 256 * e4 + 1024 * e5 + 4096 * e6 + 16384 * e7) / 4 % 4 = e1 := by omega
theorem ea1 {e0 e1 e2 e3 e4 e5 e6 e7 : Nat} (he : e0 < 3 ∧ e1 < 3 ∧ e2 < 3 ∧ e3 < 3 ∧ e4 < 3 ∧ e5 < 3 ∧ e6 < 3 ∧ e7 < 3) : (e0 + 4 * e1 + 16 * e2 + 64 * e3 + 256 * e4 + 1024 * e5 + 4096 * e6 + 16384 * e7) / 16 % 4 = e2 := by omega
theorem eb1 {e0 e1 e2 e3 e4 e5 e6 e7 : Nat} (he : e0 < 3 ∧ e1 < 3 ∧ e2 < 3 ∧ e3 < 3 ∧ e4 < 3 ∧ e5 < 3 ∧ e6 < 3 ∧ e7 < 3) : (e0 + 4 * e1 + 16 * e2 + 64 * e3 + 256 * e4 + 1024 * e5 + 4096 * e6 + 16384 * e7) / 4 / 16 % 4 = e3 := by omega
theorem ea2 {e0 e1 e2 e3 e4 e5 e6 e7 : Nat} (he : e0 < 3 ∧ e1 < 3 ∧ e2 < 3 ∧ e3 < 3 ∧ e4 < 3 ∧ e5 < 3 ∧ e6 < 3 ∧ e7 < 3) : (e0 + 4 * e1 + 16 * e2 + 64 * e3 + 256 * e4 + 1024 * e5 + 4096 * e6 + 16384 * e7) / 256 % 4 = e4 := by omega
theorem eb2 {e0 e1 e2 e3 e4 e5 e6 e7 : Nat} (he : e0 < 3 ∧ e1 < 3 ∧ e2 < 3 ∧ e3 < 3 ∧ e4 < 3 ∧ e5 < 3 ∧ e6 < 3 ∧ e7 < 3) : (e0 + 4 * e1 + 16 * e2 + 64 * e3 + 256 * e4 + 1024 * e5 + 4096 * e6 + 16384 * e7) / 4 / 256 % 4 = e5 := by omega
theorem ea3 {e0 e1 e2 e3 e4 e5 e6 e7 : Nat} (he : e0 < 3 ∧ e1 < 3 ∧ e2 < 3 ∧ e3 < 3 ∧ e4 < 3 ∧ e5 < 3 ∧ e6 < 3 ∧ e7 < 3) : (e0 + 4 * e1 + 16 * e2 + 64 * e3 + 256 * e4 + 1024 * e5 + 4096 * e6 + 16384 * e7) / 4096 % 4 = e6 := by omega
theorem eb3 {e0 e1 e2 e3 e4 e5 e6 e7 : Nat} (he : e0 < 3 ∧ e1 < 3 ∧ e2 < 3 ∧ e3 < 3 ∧ e4 < 3 ∧ e5 < 3 ∧ e6 < 3 ∧ e7 < 3) : (e0 + 4 * e1 + 16 * e2 + 64 * e3 + 256 * e4 + 1024 * e5 + 4096 * e6 + 16384 * e7) / 4 / 4096 % 4 = e7 := by omega
theorem x2N_eq {a e0 e1 e2 e3 e4 e5 e6 e7 : Nat} (he : e0 < 3 ∧ e1 < 3 ∧ e2 < 3 ∧ e3 < 3 ∧ e4 < 3 ∧ e5 < 3 ∧ e6 < 3 ∧ e7 < 3) (h : x1N a = e0 + 4 * e1 + 16 * e2 + 64 * e3 + 256 * e4 + 1024 * e5 + 4096 * e6 + 16384 * e7) : x2N a = (e0 + e1) + 16 * (e2 + e3) + 256 * (e4 + e5) + 4096 * (e6 + e7) := by
  unfold x2N
  have l1 : (e0 + 4 * e1 + 16 * e2 + 64 * e3 + 256 * e4 + 1024 * e5 + 4096 * e6 + 16384 * e7) < 65536 := by omega
  have l2 : (e0 + 4 * e1 + 16 * e2 + 64 * e3 + 256 * e4 + 1024 * e5 + 4096 * e6 + 16384 * e7) / 4 < 65536 := by omega
  rw [h, m3 l1, m3 l2, ea0 he, eb0 he, ea1 he, eb1 he, ea2 he, eb2 he, ea3 he, eb3 he]
  clear l1 l2 h he
  omega
theorem gq0 {g0 g1 g2 g3 : Nat} (hg : g0 < 5 ∧ g1 < 5 ∧ g2 < 5 ∧ g3 < 5) : (g0 + g1 + 16 * (g1 + g2) + 256 * (g2 + g3) + 4096 * g3) % 16 = g0 + g1 := by omega
theorem gq1 {g0 g1 g2 g3 : Nat} (hg : g0 < 5 ∧ g1 < 5 ∧ g2 < 5 ∧ g3 < 5) : (g0 + g1 + 16 * (g1 + g2) + 256 * (g2 + g3) + 4096 * g3) / 256 % 16 = g2 + g3 := by
  have e : (g0 + g1 + 16 * (g1 + g2) + 256 * (g2 + g3) + 4096 * g3) / 256 = (g2 + g3) + 16 * g3 := by omega
  rw [e]
  clear e
  omega
theorem gq2 {g0 g1 g2 g3 : Nat} (hg : g0 < 5 ∧ g1 < 5 ∧ g2 < 5 ∧ g3 < 5) : (g0 + 16 * g1 + 256 * g2 + 4096 * g3) + (g0 + 16 * g1 + 256 * g2 + 4096 * g3) / 16 = g0 + g1 + 16 * (g1 + g2) + 256 * (g2 + g3) + 4096 * g3 := by omega
theorem gq3 {g0 g1 g2 g3 : Nat} (hg : g0 < 5 ∧ g1 < 5 ∧ g2 < 5 ∧ g3 < 5) : (g0 + g1 + 256 * (g2 + g3)) + (g0 + g1 + 256 * (g2 + g3)) / 256 = (g0 + g1 + g2 + g3) + 256 * (g2 + g3) := by omega
theorem gq4 {g0 g1 g2 g3 : Nat} (hg : g0 < 5 ∧ g1 < 5 ∧ g2 < 5 ∧ g3 < 5) : (g0 + g1 + g2 + g3) + 256 * (g2 + g3) < 65536 ∧ ((g0 + g1 + g2 + g3) + 256 * (g2 + g3)) % 64 = g0 + g1 + g2 + g3 := by omega
theorem x4N_eq {a g0 g1 g2 g3 : Nat} (hg : g0 < 5 ∧ g1 < 5 ∧ g2 < 5 ∧ g3 < 5) (h : x2N a = g0 + 16 * g1 + 256 * g2 + 4096 * g3) : x4N a < 65536 ∧ x4N a % 64 = g0 + g1 + g2 + g3 := by
  have e3 : x3N a = g0 + g1 + 256 * (g2 + g3) := by
    unfold x3N
    rw [h, gq2 hg, mf0 (by omega), gq0 hg, gq1 hg]
  unfold x4N
  rw [e3, gq3 hg]
  exact gq4 hg
theorem dz {d : Nat} (h : d < 4) : d % 2 + d / 2 = d - d / 2 := by omega
theorem ushr {a k : Nat} (ha : a < 2 ^ 31) (hk : k < 32) : (((nI a).toUInt32 >>> (((nI k)).toUInt32 &&& Int32.toUInt32 31)).toInt32) = nI (a / 2 ^ k) := by
  have h2 : a / 2 ^ k < 2 ^ 31 := Nat.lt_of_le_of_lt (Nat.div_le_self _ _) ha
  have key : ∀ k : Fin 32, (((nI k.1).toUInt32 &&& Int32.toUInt32 31).toBitVec % 32).toNat = k.1 := by decide
  refine i32_ext ?_
  show ((nI a).toBitVec >>> (((nI k).toUInt32 &&& Int32.toUInt32 31).toBitVec % 32).toNat).toNat = _
  rw [key ⟨k, hk⟩, BitVec.toNat_ushiftRight, pk_tn (by omega), pk_tn (by omega), Nat.shiftRight_eq_div_pow]
theorem dz3 {d : Nat} (h : d < 4) : d - d / 2 < 3 := by omega
theorem tbN (B i : Nat) : (if B.testBit i = true then 1 else 0) = B / 2 ^ i % 2 := by
  rw [Nat.testBit_eq_decide_div_mod_eq]
  by_cases c : B / 2 ^ i % 2 = 1
  · rw [decide_eq_true c, c]; rfl
  · rw [decide_eq_false c]
    show 0 = _
    omega
theorem cnt16 {d0 d1 d2 d3 d4 d5 d6 d7 : Nat} (hd : d0 < 4 ∧ d1 < 4 ∧ d2 < 4 ∧ d3 < 4 ∧ d4 < 4 ∧ d5 < 4 ∧ d6 < 4 ∧ d7 < 4) : cnt (fun i => Nat.testBit (d0 + 4 * d1 + 16 * d2 + 64 * d3 + 256 * d4 + 1024 * d5 + 4096 * d6 + 16384 * d7) i) 16 = (d0 - d0 / 2) + (d1 - d1 / 2) + ((d2 - d2 / 2) + (d3 - d3 / 2)) + ((d4 - d4 / 2) + (d5 - d5 / 2)) + ((d6 - d6 / 2) + (d7 - d7 / 2)) := by
  have h : ∀ B, cnt (fun i => Nat.testBit B i) 16 = 0 + B / 2 ^ 0 % 2 + B / 2 ^ 1 % 2 + B / 2 ^ 2 % 2 + B / 2 ^ 3 % 2 + B / 2 ^ 4 % 2 + B / 2 ^ 5 % 2 + B / 2 ^ 6 % 2 + B / 2 ^ 7 % 2 + B / 2 ^ 8 % 2 + B / 2 ^ 9 % 2 + B / 2 ^ 10 % 2 + B / 2 ^ 11 % 2 + B / 2 ^ 12 % 2 + B / 2 ^ 13 % 2 + B / 2 ^ 14 % 2 + B / 2 ^ 15 % 2 := fun B => by
    simp only [cnt, tbN]
  rw [h, dr0 hd, ds0 hd, dr1 hd, ds1 hd, dr2 hd, ds2 hd, dr3 hd, ds3 hd, dr4 hd, ds4 hd, dr5 hd, ds5 hd, dr6 hd, ds6 hd, dr7 hd, ds7 hd]
  have z0 : d0 % 2 + d0 / 2 = d0 - d0 / 2 := dz (by clear h; omega)
  have z1 : d1 % 2 + d1 / 2 = d1 - d1 / 2 := dz (by clear h; omega)
  have z2 : d2 % 2 + d2 / 2 = d2 - d2 / 2 := dz (by clear h; omega)
  have z3 : d3 % 2 + d3 / 2 = d3 - d3 / 2 := dz (by clear h; omega)
  have z4 : d4 % 2 + d4 / 2 = d4 - d4 / 2 := dz (by clear h; omega)
  have z5 : d5 % 2 + d5 / 2 = d5 - d5 / 2 := dz (by clear h; omega)
  have z6 : d6 % 2 + d6 / 2 = d6 - d6 / 2 := dz (by clear h; omega)
  have z7 : d7 % 2 + d7 / 2 = d7 - d7 / 2 := dz (by clear h; omega)
  clear h hd
  generalize d0 % 2 = r0 at *
  generalize d0 / 2 = h0 at *
  generalize d0 - h0 = k0 at *
  generalize d1 % 2 = r1 at *
  generalize d1 / 2 = h1 at *
  generalize d1 - h1 = k1 at *
  generalize d2 % 2 = r2 at *
  generalize d2 / 2 = h2 at *
  generalize d2 - h2 = k2 at *
  generalize d3 % 2 = r3 at *
  generalize d3 / 2 = h3 at *
  generalize d3 - h3 = k3 at *
  generalize d4 % 2 = r4 at *
  generalize d4 / 2 = h4 at *
  generalize d4 - h4 = k4 at *
  generalize d5 % 2 = r5 at *
  generalize d5 / 2 = h5 at *
  generalize d5 - h5 = k5 at *
  generalize d6 % 2 = r6 at *
  generalize d6 / 2 = h6 at *
  generalize d6 - h6 = k6 at *
  generalize d7 % 2 = r7 at *
  generalize d7 / 2 = h7 at *
  generalize d7 - h7 = k7 at *
  omega
theorem x4_all {d0 d1 d2 d3 d4 d5 d6 d7 : Nat} (hd : d0 < 4 ∧ d1 < 4 ∧ d2 < 4 ∧ d3 < 4 ∧ d4 < 4 ∧ d5 < 4 ∧ d6 < 4 ∧ d7 < 4) : (x1N (d0 + 4 * d1 + 16 * d2 + 64 * d3 + 256 * d4 + 1024 * d5 + 4096 * d6 + 16384 * d7) < 65536 ∧ x2N (d0 + 4 * d1 + 16 * d2 + 64 * d3 + 256 * d4 + 1024 * d5 + 4096 * d6 + 16384 * d7) < 65536 ∧ x3N (d0 + 4 * d1 + 16 * d2 + 64 * d3 + 256 * d4 + 1024 * d5 + 4096 * d6 + 16384 * d7) < 65536 ∧ x4N (d0 + 4 * d1 + 16 * d2 + 64 * d3 + 256 * d4 + 1024 * d5 + 4096 * d6 + 16384 * d7) < 65536) ∧ x4N (d0 + 4 * d1 + 16 * d2 + 64 * d3 + 256 * d4 + 1024 * d5 + 4096 * d6 + 16384 * d7) % 64 = cnt (fun i => Nat.testBit (d0 + 4 * d1 + 16 * d2 + 64 * d3 + 256 * d4 + 1024 * d5 + 4096 * d6 + 16384 * d7) i) 16 := by
  have h1 := x1N_eq hd
  have w0 := dz3 (d := d0) (by clear h1; omega)
  have w1 := dz3 (d := d1) (by clear h1; omega)
  have w2 := dz3 (d := d2) (by clear h1; omega)
  have w3 := dz3 (d := d3) (by clear h1; omega)
  have w4 := dz3 (d := d4) (by clear h1; omega)
  have w5 := dz3 (d := d5) (by clear h1; omega)
  have w6 := dz3 (d := d6) (by clear h1; omega)
  have w7 := dz3 (d := d7) (by clear h1; omega)
  rw [cnt16 hd]
  generalize d0 - d0 / 2 = k0 at *
  generalize d1 - d1 / 2 = k1 at *
  generalize d2 - d2 / 2 = k2 at *
  generalize d3 - d3 / 2 = k3 at *
  generalize d4 - d4 / 2 = k4 at *
  generalize d5 - d5 / 2 = k5 at *
  generalize d6 - d6 / 2 = k6 at *
  generalize d7 - d7 / 2 = k7 at *
  generalize (d0 + 4 * d1 + 16 * d2 + 64 * d3 + 256 * d4 + 1024 * d5 + 4096 * d6 + 16384 * d7) = B at *
  clear hd
  have h2 := x2N_eq ⟨w0, w1, w2, w3, w4, w5, w6, w7⟩ h1
  obtain ⟨h4, h5⟩ := x4N_eq (a := B) (g0 := k0 + k1) (g1 := k2 + k3) (g2 := k4 + k5) (g3 := k6 + k7) (by clear h1 h2; omega) h2
  refine ⟨⟨by rw [h1]; clear h1 h2 h4 h5; omega, by rw [h2]; clear h1 h2 h4 h5; omega, ?_, h4⟩, h5⟩
  clear h1 h2 h5
  unfold x4N at h4
  generalize x3N B / 256 = z at *
  omega
theorem bc_c : ((1 : Int32) = nI 1 ∧ (2 : Int32) = nI 2 ∧ (4 : Int32) = nI 4 ∧ (8 : Int32) = nI 8 ∧ (16 : Int32) = nI 16) ∧ (1431655765 : Int32) = nI 1431655765 ∧ (858993459 : Int32) = nI 858993459 ∧ (252645135 : Int32) = nI 252645135 ∧ (63 : Int32) = nI 63 := by decide
theorem bitCount_eq (N : Nat) {B : Nat} (h : B < 65536) (μ : Mm) : f_Ji_bitCount_0f7a4 N (nI B) μ = some (nI (cnt (fun i => B.testBit i) 16), μ) := by
  obtain ⟨⟨l1, l2, l3, l4⟩, h5⟩ : (x1N B < 65536 ∧ x2N B < 65536 ∧ x3N B < 65536 ∧ x4N B < 65536) ∧ x4N B % 64 = cnt (fun i => Nat.testBit B i) 16 := by
    obtain ⟨d0, d1, d2, d3, d4, d5, d6, d7, hd, e⟩ := dig4 h
    rw [e]
    exact x4_all hd
  have hh : (B / 2) &&& 1431655765 ≤ B := Nat.le_trans Nat.and_le_left (Nat.div_le_self _ _)
  obtain ⟨⟨e1, e2, e4, e8, e16⟩, em, e3, ef, e6⟩ := bc_c
  unfold f_Ji_bitCount_0f7a4
  rw [em, e3, ef, e6, e1, e2, e4, e8, e16]
  have q1 : nI B - (((nI B).toUInt32 >>> ((nI 1).toUInt32 &&& Int32.toUInt32 31)).toInt32 &&& nI 1431655765) = nI (x1N B) := by
    rw [ushr (by omega) (by decide), andN (by omega) (by decide)]
    exact pk_sub hh
  have q2 : (nI (x1N B) &&& nI 858993459) + (((nI (x1N B)).toUInt32 >>> ((nI 2).toUInt32 &&& Int32.toUInt32 31)).toInt32 &&& nI 858993459) = nI (x2N B) := by
    rw [ushr (by omega) (by decide), andN (by omega) (by decide), andN (by omega) (by decide), nI_add]
    rfl
  have q3 : (nI (x2N B) + ((nI (x2N B)).toUInt32 >>> ((nI 4).toUInt32 &&& Int32.toUInt32 31)).toInt32) &&& nI 252645135 = nI (x3N B) := by
    rw [ushr (by omega) (by decide), nI_add, andN (by omega) (by decide)]
    rfl
  have q4 : nI (x3N B) + ((nI (x3N B)).toUInt32 >>> ((nI 8).toUInt32 &&& Int32.toUInt32 31)).toInt32 = nI (x4N B) := by
    rw [ushr (by omega) (by decide), nI_add]
    rfl
  have q5 : (nI (x4N B) + ((nI (x4N B)).toUInt32 >>> ((nI 16).toUInt32 &&& Int32.toUInt32 31)).toInt32) &&& nI 63 = nI (x4N B % 64) := by
    rw [ushr (by omega) (by decide), nI_add, andN (by omega) (by decide), and63]
    have z : x4N B / 2 ^ 16 = 0 := Nat.div_eq_of_lt l4
    rw [z, Nat.add_zero]
  simp only [q1, q2, q3, q4, q5]
  rw [h5]
