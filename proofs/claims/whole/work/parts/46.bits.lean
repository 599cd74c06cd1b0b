/-! PURE 26: sets of bits -/
theorem i32_ext {x y : Int32} (h : x.toBitVec.toNat = y.toBitVec.toNat) : x = y := Int32.toBitVec_inj.mp (BitVec.eq_of_toNat_eq h)
theorem orN {a b : Nat} (ha : a < 2 ^ 31) (hb : b < 2 ^ 31) : nI a ||| nI b = nI (a ||| b) := by
  have hab : a ||| b < 2 ^ 31 := Nat.or_lt_two_pow ha hb
  refine i32_ext ?_
  rw [Int32.toBitVec_or, BitVec.toNat_or, pk_tn (by omega), pk_tn (by omega), pk_tn (by omega)]
theorem andN {a b : Nat} (ha : a < 2 ^ 31) (hb : b < 2 ^ 31) : nI a &&& nI b = nI (a &&& b) := by
  have hab : a &&& b < 2 ^ 31 := Nat.and_lt_two_pow _ hb
  refine i32_ext ?_
  rw [Int32.toBitVec_and, BitVec.toNat_and, pk_tn (by omega), pk_tn (by omega), pk_tn (by omega)]
theorem and31 {q : Nat} (h : q < 32) : nI q &&& 31 = nI q := by
  rw [pk_andN (by omega) 5 (by decide), Nat.mod_eq_of_lt h]
theorem smod32 {q : Nat} (h : q < 32) : ((nI q).toBitVec.smod 32).toNat = q := by
  have : ∀ q : Fin 32, ((nI q.1).toBitVec.smod 32).toNat = q.1 := by decide
  exact this ⟨q, h⟩
theorem shl1 {q : Nat} (h : q < 31) : (1 : Int32) <<< (nI q &&& 31) = nI (2 ^ q) := by
  rw [and31 (by omega)]
  have h2 : 2 ^ q < 2 ^ 31 := Nat.pow_lt_pow_right (by decide) h
  have := pk_shlN (n := 1) (nI q) q (smod32 (by omega)) (by omega)
  rw [Nat.one_mul] at this
  exact this
theorem bitN {a p : Nat} (ha : a < 2 ^ 31) (hp : p < 32) : ((nI a) >>> (nI p &&& 31)) &&& 1 = b2 (a.testBit p) := by
  rw [and31 hp]
  have e : (nI a) >>> (nI p) = nI (a >>> p) := by
    refine nI_tI ?_ ?_
    · rw [pk_shr _ _ p (smod32 hp), tI ha]
      exact Int.natCast_nonneg _
    · rw [pk_shr _ _ p (smod32 hp), tI ha]
      rfl
  have hs : a >>> p < 2 ^ 31 := by
    rw [Nat.shiftRight_eq_div_pow]
    exact Nat.lt_of_le_of_lt (Nat.div_le_self _ _) ha
  rw [e, pk_andN (by omega) 1 (by decide)]
  unfold Nat.testBit b2
  rw [Nat.and_comm, Nat.and_one_is_mod]
  have h2 : (a >>> p) % 2 ^ 1 = 0 ∨ (a >>> p) % 2 ^ 1 = 1 := by omega
  have h3 : (a >>> p) % 2 ^ 1 = (a >>> p) % 2 := rfl
  rw [← h3]
  rcases h2 with q | q <;> rw [q] <;> rfl
/-- a set without another -/
def anN (a b : Nat) : Nat := a ^^^ (a &&& b)
theorem anN_tb (a b i : Nat) : (anN a b).testBit i = (a.testBit i && !b.testBit i) := by
  unfold anN
  rw [Nat.testBit_xor, Nat.testBit_and]
  cases a.testBit i <;> cases b.testBit i <;> rfl
theorem anN_lt {a b n : Nat} (h : a < 2 ^ n) : anN a b < 2 ^ n := Nat.xor_lt_two_pow h (Nat.lt_of_le_of_lt Nat.and_le_left h)
theorem notN {a b : Nat} (ha : a < 2 ^ 31) (hb : b < 2 ^ 31) : nI a &&& (nI b ^^^ -1) = nI (anN a b) := by
  have hn := anN_lt (b := b) ha
  refine i32_ext ?_
  rw [Int32.toBitVec_and, BitVec.toNat_and, Int32.toBitVec_xor, BitVec.toNat_xor, pk_tn (by omega), pk_tn (by omega), pk_tn (by omega), show (-1 : Int32).toBitVec.toNat = 2 ^ 32 - 1 by decide]
  refine Nat.eq_of_testBit_eq (fun i => ?_)
  rw [anN_tb, Nat.testBit_and, Nat.testBit_xor, Nat.testBit_two_pow_sub_one]
  by_cases c : i < 32
  · rw [decide_eq_true c]
    cases a.testBit i <;> cases b.testBit i <;> rfl
  · rw [decide_eq_false c, Nat.testBit_lt_two_pow (x := a) (Nat.lt_of_lt_of_le (show a < 2 ^ 32 by omega) (Nat.pow_le_pow_right (by decide) (by omega)))]
    rfl
/-- the set of those below n with p -/
def bsN (p : Nat → Bool) : Nat → Nat
  | 0 => 0
  | n + 1 => bsN p n + (if p n = true then 2 ^ n else 0)
theorem bsN_lt (p : Nat → Bool) : ∀ n, bsN p n < 2 ^ n
  | 0 => by rw [bsN]; decide
  | n + 1 => by
    have := bsN_lt p n
    rw [bsN, Nat.pow_succ]
    split <;> omega
theorem bsN_or (p : Nat → Bool) (n : Nat) : bsN p (n + 1) = bsN p n ||| (if p n = true then 2 ^ n else 0) := by
  rw [bsN]
  split
  · have := Nat.two_pow_add_eq_or_of_lt (bsN_lt p n) 1
    rw [Nat.mul_one] at this
    rw [Nat.add_comm, this, Nat.or_comm]
  · rw [Nat.add_zero, Nat.or_zero]
theorem bsN_tb (p : Nat → Bool) (i : Nat) : ∀ n, (bsN p n).testBit i = (decide (i < n) && p i)
  | 0 => by
    rw [bsN, Nat.zero_testBit]
    rfl
  | n + 1 => by
    rw [bsN_or, Nat.testBit_or, bsN_tb p i n]
    by_cases c : i = n
    · subst c
      rw [decide_eq_false (show ¬ i < i by omega), decide_eq_true (show i < i + 1 by omega), Bool.false_and, Bool.false_or, Bool.true_and]
      split
      · rename_i h
        rw [Nat.testBit_two_pow_self, h]
      · rename_i h
        rw [Nat.zero_testBit]
        simpa using h
    · have e : (if p n = true then 2 ^ n else 0).testBit i = false := by
        split
        · rw [Nat.testBit_two_pow]
          exact decide_eq_false (fun q => c q.symm)
        · exact Nat.zero_testBit i
      rw [e, Bool.or_false]
      congr 1
      exact decide_eq_decide.mpr (by omega)
theorem bsN_ext {p q : Nat → Bool} {n : Nat} (h : ∀ i, i < n → p i = q i) : bsN p n = bsN q n := by
  refine Nat.eq_of_testBit_eq (fun i => ?_)
  rw [bsN_tb, bsN_tb]
  by_cases c : i < n
  · rw [h i c]
  · rw [decide_eq_false c, Bool.false_and, Bool.false_and]
/-- any set below 2 ^ n is one -/
theorem bsN_self {B n : Nat} (h : B < 2 ^ n) : B = bsN (fun i => B.testBit i) n := by
  refine Nat.eq_of_testBit_eq (fun i => ?_)
  rw [bsN_tb]
  by_cases c : i < n
  · rw [decide_eq_true c, Bool.true_and]
  · rw [decide_eq_false c, Bool.false_and]
    exact Nat.testBit_lt_two_pow (Nat.lt_of_lt_of_le h (Nat.pow_le_pow_right (by decide) (by omega)))
theorem bs_zero {B n : Nat} (h : B < 2 ^ n) : B = 0 ↔ ∀ i, i < n → B.testBit i = false := by
  refine ⟨fun q i _ => by rw [q]; exact Nat.zero_testBit i, fun q => Nat.eq_of_testBit_eq (fun i => ?_)⟩
  rw [Nat.zero_testBit]
  by_cases c : i < n
  · exact q i c
  · exact Nat.testBit_lt_two_pow (Nat.lt_of_lt_of_le h (Nat.pow_le_pow_right (by decide) (by omega)))
theorem nI0 {a : Nat} (h : a < 2 ^ 31) : nI a = 0 ↔ a = 0 := nI_eq (b := 0) h (by decide)
theorem b2t {c : Prop} [Decidable c] : b2 (decide c) = if c then 1 else 0 := by
  by_cases h : c
  · rw [decide_eq_true h, if_pos h]; rfl
  · rw [decide_eq_false h, if_neg h]; rfl
