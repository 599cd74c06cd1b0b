/-! PURE 20: what both memories speak of, as numbers -/
def Da : Type := (Nat) × (Nat) × (Nat → Nat → Int) × (Nat → Nat) × (Nat → Bool) × (Nat) × (Nat → Nat) × (Nat → Nat) × (Nat → Nat) × (Nat → Nat) × (Nat → Nat) × (Nat → Bool) × (Nat → Bool) × (Nat → Nat) × (Nat → Nat) × (Nat → Nat → Nat) × (Nat → Nat → Nat)
def Da.kind (D : Da) : Nat := D.1
def Da.n (D : Da) : Nat := D.2.1
def Da.len (D : Da) : Nat → Nat → Int := D.2.2.1
def Da.wor (D : Da) : Nat → Nat := D.2.2.2.1
def Da.bas (D : Da) : Nat → Bool := D.2.2.2.2.1
def Da.w (D : Da) : Nat := D.2.2.2.2.2.1
def Da.kd (D : Da) : Nat → Nat := D.2.2.2.2.2.2.1
def Da.sp (D : Da) : Nat → Nat := D.2.2.2.2.2.2.2.1
def Da.fu (D : Da) : Nat → Nat := D.2.2.2.2.2.2.2.2.1
def Da.po (D : Da) : Nat → Nat := D.2.2.2.2.2.2.2.2.2.1
def Da.vw (D : Da) : Nat → Nat := D.2.2.2.2.2.2.2.2.2.2.1
def Da.lo (D : Da) : Nat → Bool := D.2.2.2.2.2.2.2.2.2.2.2.1
def Da.gn (D : Da) : Nat → Bool := D.2.2.2.2.2.2.2.2.2.2.2.2.1
def Da.sz (D : Da) : Nat → Nat := D.2.2.2.2.2.2.2.2.2.2.2.2.2.1
def Da.st (D : Da) : Nat → Nat := D.2.2.2.2.2.2.2.2.2.2.2.2.2.2.1
def Da.pp (D : Da) : Nat → Nat → Nat := D.2.2.2.2.2.2.2.2.2.2.2.2.2.2.2.1
def Da.pr (D : Da) : Nat → Nat → Nat := D.2.2.2.2.2.2.2.2.2.2.2.2.2.2.2.2
def b2 (b : Bool) : Int32 := if b = true then 1 else 0
theorem b2_0 (b : Bool) : b2 b = 0 ↔ b = false := by cases b <;> decide
theorem b2_1 (b : Bool) : b2 b = 1 ↔ b = true := by cases b <;> decide
theorem b2_z (b : Bool) : b2 b = 0 ∨ b2 b = 1 := by cases b <;> decide
/-- the ground alone -/
def GI (n : Nat) (len : Nat → Nat → Int) : Prop :=
  (1 ≤ n) ∧
  (n ≤ 16) ∧
  (∀ a b, a < 16 → b < 16 → -30 ≤ len a b ∧ len a b ≤ 30) ∧
  (∀ a b, a < 16 → b < 16 → len a b = len b a) ∧
  (∀ a, a < 16 → len a a = 0) ∧
  (∀ a b, a < 16 → b < 16 → n ≤ a ∨ n ≤ b → len a b = 0)
theorem GI.n1 {n : Nat} {len : Nat → Nat → Int} (h : GI n len) : 1 ≤ n := h.1
theorem GI.n16 {n : Nat} {len : Nat → Nat → Int} (h : GI n len) : n ≤ 16 := h.2.1
theorem GI.lb {n : Nat} {len : Nat → Nat → Int} (h : GI n len) : ∀ a b, a < 16 → b < 16 → -30 ≤ len a b ∧ len a b ≤ 30 := h.2.2.1
theorem GI.sym {n : Nat} {len : Nat → Nat → Int} (h : GI n len) : ∀ a b, a < 16 → b < 16 → len a b = len b a := h.2.2.2.1
theorem GI.diag {n : Nat} {len : Nat → Nat → Int} (h : GI n len) : ∀ a, a < 16 → len a a = 0 := h.2.2.2.2.1
theorem GI.out {n : Nat} {len : Nat → Nat → Int} (h : GI n len) : ∀ a b, a < 16 → b < 16 → n ≤ a ∨ n ≤ b → len a b = 0 := h.2.2.2.2.2
def DI (D : Da) : Prop :=
  (GI D.n D.len) ∧
  (D.kind ≤ 2) ∧
  (D.kind = 0 → 2 ≤ D.n ∧ ∀ i, i + 1 < D.n → D.len i (i + 1) ≠ 0) ∧
  (∀ p, p < D.n → D.wor p ≤ 9) ∧
  (D.w ≤ 8) ∧
  (∀ j, j < D.w → D.kd j ≤ 3) ∧
  (∀ j, j < D.w → 1 ≤ D.sp j ∧ D.sp j ≤ 6) ∧
  (∀ j, j < D.w → D.fu j ≤ 500) ∧
  (∀ j, j < D.w → D.vw j ≤ 40) ∧
  (∀ j, j < D.w → D.sz j = 0 ∨ (2 ≤ D.sz j ∧ D.sz j ≤ 24)) ∧
  (∀ j, j < D.w → D.sz j ≠ 0 → D.st j < 14400) ∧
  (∀ j, j < D.w → D.kd j = 3 → D.sz j = 0 ∧ D.po j ≤ 15) ∧
  (∀ j, j < D.w → D.kd j = 0 ∨ D.kd j = 3 → D.sp j = 1) ∧
  (∀ j i, j < D.w → i < D.sz j → D.pp j i ≤ 15) ∧
  (∀ j i, j < D.w → i < D.sz j → D.pr j i ≤ 127) ∧
  (∀ j i, j < D.w → i < D.sz j → D.pp j i ≠ D.pp j (nx (D.sz j) i))
theorem DI.g {D : Da} (h : DI D) : GI D.n D.len := h.1
theorem DI.kind {D : Da} (h : DI D) : D.kind ≤ 2 := h.2.1
theorem DI.fence {D : Da} (h : DI D) : D.kind = 0 → 2 ≤ D.n ∧ ∀ i, i + 1 < D.n → D.len i (i + 1) ≠ 0 := h.2.2.1
theorem DI.wor {D : Da} (h : DI D) : ∀ p, p < D.n → D.wor p ≤ 9 := h.2.2.2.1
theorem DI.w8 {D : Da} (h : DI D) : D.w ≤ 8 := h.2.2.2.2.1
theorem DI.kd {D : Da} (h : DI D) : ∀ j, j < D.w → D.kd j ≤ 3 := h.2.2.2.2.2.1
theorem DI.sp {D : Da} (h : DI D) : ∀ j, j < D.w → 1 ≤ D.sp j ∧ D.sp j ≤ 6 := h.2.2.2.2.2.2.1
theorem DI.fu {D : Da} (h : DI D) : ∀ j, j < D.w → D.fu j ≤ 500 := h.2.2.2.2.2.2.2.1
theorem DI.vw {D : Da} (h : DI D) : ∀ j, j < D.w → D.vw j ≤ 40 := h.2.2.2.2.2.2.2.2.1
theorem DI.sz {D : Da} (h : DI D) : ∀ j, j < D.w → D.sz j = 0 ∨ (2 ≤ D.sz j ∧ D.sz j ≤ 24) := h.2.2.2.2.2.2.2.2.2.1
theorem DI.st {D : Da} (h : DI D) : ∀ j, j < D.w → D.sz j ≠ 0 → D.st j < 14400 := h.2.2.2.2.2.2.2.2.2.2.1
theorem DI.gd {D : Da} (h : DI D) : ∀ j, j < D.w → D.kd j = 3 → D.sz j = 0 ∧ D.po j ≤ 15 := h.2.2.2.2.2.2.2.2.2.2.2.1
theorem DI.s1 {D : Da} (h : DI D) : ∀ j, j < D.w → D.kd j = 0 ∨ D.kd j = 3 → D.sp j = 1 := h.2.2.2.2.2.2.2.2.2.2.2.2.1
theorem DI.pp {D : Da} (h : DI D) : ∀ j i, j < D.w → i < D.sz j → D.pp j i ≤ 15 := h.2.2.2.2.2.2.2.2.2.2.2.2.2.1
theorem DI.pr {D : Da} (h : DI D) : ∀ j i, j < D.w → i < D.sz j → D.pr j i ≤ 127 := h.2.2.2.2.2.2.2.2.2.2.2.2.2.2.1
theorem DI.pn {D : Da} (h : DI D) : ∀ j i, j < D.w → i < D.sz j → D.pp j i ≠ D.pp j (nx (D.sz j) i) := h.2.2.2.2.2.2.2.2.2.2.2.2.2.2.2
def DM (D : Da) (μ : Mm) : Prop :=
  (μ.1 0 8 = nI D.kind) ∧
  (μ.1 0 9 = nI D.n) ∧
  (∀ a b, a < 16 → b < 16 → μ.1 5 (16 * a + b) = nI (D.len a b).natAbs) ∧
  (∀ a b, a < 16 → b < 16 → μ.1 6 (16 * a + b) = b2 (decide (D.len a b < 0))) ∧
  (∀ p, p < D.n → μ.1 7 p = nI (D.wor p)) ∧
  (∀ p, p < 16 → μ.1 8 p = b2 (D.bas p)) ∧
  (μ.1 0 15 = nI D.w) ∧
  (∀ j, j < D.w → μ.1 10 j = nI (D.kd j)) ∧
  (∀ j, j < D.w → μ.1 11 j = nI (D.sp j)) ∧
  (∀ j, j < D.w → μ.1 12 j = nI (D.fu j)) ∧
  (∀ j, j < D.w → D.kd j = 3 → μ.1 13 j = nI (D.po j)) ∧
  (∀ j, j < D.w → μ.1 14 j = nI (D.vw j)) ∧
  (∀ j, j < D.w → μ.1 15 j = b2 (D.lo j)) ∧
  (∀ j, j < D.w → μ.1 16 j = b2 (D.gn j)) ∧
  (∀ j, j < D.w → μ.1 17 j = nI (D.sz j)) ∧
  (∀ j, j < D.w → D.sz j ≠ 0 → μ.1 20 j = nI (D.st j)) ∧
  (∀ j, j < D.w → D.sz j = 0 → μ.1 20 j = -9) ∧
  (∀ j i, j < D.w → i < D.sz j → μ.1 18 (24 * j + i) = nI (D.pp j i)) ∧
  (∀ j i, j < D.w → i < D.sz j → μ.1 19 (24 * j + i) = nI (D.pr j i))
theorem DM.kind {D : Da} {μ : Mm} (h : DM D μ) : μ.1 0 8 = nI D.kind := h.1
theorem DM.n {D : Da} {μ : Mm} (h : DM D μ) : μ.1 0 9 = nI D.n := h.2.1
theorem DM.len {D : Da} {μ : Mm} (h : DM D μ) : ∀ a b, a < 16 → b < 16 → μ.1 5 (16 * a + b) = nI (D.len a b).natAbs := h.2.2.1
theorem DM.brk {D : Da} {μ : Mm} (h : DM D μ) : ∀ a b, a < 16 → b < 16 → μ.1 6 (16 * a + b) = b2 (decide (D.len a b < 0)) := h.2.2.2.1
theorem DM.wor {D : Da} {μ : Mm} (h : DM D μ) : ∀ p, p < D.n → μ.1 7 p = nI (D.wor p) := h.2.2.2.2.1
theorem DM.bas {D : Da} {μ : Mm} (h : DM D μ) : ∀ p, p < 16 → μ.1 8 p = b2 (D.bas p) := h.2.2.2.2.2.1
theorem DM.w {D : Da} {μ : Mm} (h : DM D μ) : μ.1 0 15 = nI D.w := h.2.2.2.2.2.2.1
theorem DM.kd {D : Da} {μ : Mm} (h : DM D μ) : ∀ j, j < D.w → μ.1 10 j = nI (D.kd j) := h.2.2.2.2.2.2.2.1
theorem DM.sp {D : Da} {μ : Mm} (h : DM D μ) : ∀ j, j < D.w → μ.1 11 j = nI (D.sp j) := h.2.2.2.2.2.2.2.2.1
theorem DM.fu {D : Da} {μ : Mm} (h : DM D μ) : ∀ j, j < D.w → μ.1 12 j = nI (D.fu j) := h.2.2.2.2.2.2.2.2.2.1
theorem DM.po {D : Da} {μ : Mm} (h : DM D μ) : ∀ j, j < D.w → D.kd j = 3 → μ.1 13 j = nI (D.po j) := h.2.2.2.2.2.2.2.2.2.2.1
theorem DM.vw {D : Da} {μ : Mm} (h : DM D μ) : ∀ j, j < D.w → μ.1 14 j = nI (D.vw j) := h.2.2.2.2.2.2.2.2.2.2.2.1
theorem DM.lo {D : Da} {μ : Mm} (h : DM D μ) : ∀ j, j < D.w → μ.1 15 j = b2 (D.lo j) := h.2.2.2.2.2.2.2.2.2.2.2.2.1
theorem DM.gn {D : Da} {μ : Mm} (h : DM D μ) : ∀ j, j < D.w → μ.1 16 j = b2 (D.gn j) := h.2.2.2.2.2.2.2.2.2.2.2.2.2.1
theorem DM.sz {D : Da} {μ : Mm} (h : DM D μ) : ∀ j, j < D.w → μ.1 17 j = nI (D.sz j) := h.2.2.2.2.2.2.2.2.2.2.2.2.2.2.1
theorem DM.st {D : Da} {μ : Mm} (h : DM D μ) : ∀ j, j < D.w → D.sz j ≠ 0 → μ.1 20 j = nI (D.st j) := h.2.2.2.2.2.2.2.2.2.2.2.2.2.2.2.1
theorem DM.s9 {D : Da} {μ : Mm} (h : DM D μ) : ∀ j, j < D.w → D.sz j = 0 → μ.1 20 j = -9 := h.2.2.2.2.2.2.2.2.2.2.2.2.2.2.2.2.1
theorem DM.pp {D : Da} {μ : Mm} (h : DM D μ) : ∀ j i, j < D.w → i < D.sz j → μ.1 18 (24 * j + i) = nI (D.pp j i) := h.2.2.2.2.2.2.2.2.2.2.2.2.2.2.2.2.2.1
theorem DM.pr {D : Da} {μ : Mm} (h : DM D μ) : ∀ j i, j < D.w → i < D.sz j → μ.1 19 (24 * j + i) = nI (D.pr j i) := h.2.2.2.2.2.2.2.2.2.2.2.2.2.2.2.2.2.2
def GX (n : Nat) (len : Nat → Nat → Int) (μ : Mm) : Prop :=
  (μ.1 6 1 = nI n) ∧
  (∀ a b, a < 16 → b < 16 → (μ.1 7 (16 * a + b)).toInt = len a b)
theorem GX.n {n : Nat} {len : Nat → Nat → Int} {μ : Mm} (h : GX n len μ) : μ.1 6 1 = nI n := h.1
theorem GX.len {n : Nat} {len : Nat → Nat → Int} {μ : Mm} (h : GX n len μ) : ∀ a b, a < 16 → b < 16 → (μ.1 7 (16 * a + b)).toInt = len a b := h.2
def DX (D : Da) (μ : Mm) : Prop :=
  (GX D.n D.len μ) ∧
  (μ.1 6 0 = nI D.kind) ∧
  (∀ p, p < D.n → μ.1 8 p = nI (D.wor p)) ∧
  (∀ p, p < 16 → μ.1 9 p = b2 (D.bas p)) ∧
  (μ.1 11 1 = nI D.w) ∧
  (∀ j, j < D.w → μ.1 (WK j) 0 = nI (D.kd j)) ∧
  (∀ j, j < D.w → μ.1 (WK j) 1 = nI (D.sp j)) ∧
  (∀ j, j < D.w → μ.1 (WK j) 2 = nI (D.fu j)) ∧
  (∀ j, j < D.w → D.kd j = 3 → μ.1 (WK j) 3 = nI (D.po j)) ∧
  (∀ j, j < D.w → μ.1 (WK j) 4 = nI (D.vw j)) ∧
  (∀ j, j < D.w → μ.1 (WK j) 5 = b2 (D.lo j)) ∧
  (∀ j, j < D.w → μ.1 (WK j) 6 = b2 (D.gn j)) ∧
  (∀ j, j < D.w → D.sz j ≠ 0 → μ.1 (WK j) 7 = nI (D.st j)) ∧
  (∀ j, j < D.w → μ.1 (WK j) 8 = nI (D.sz j)) ∧
  (∀ j i, j < D.w → i < D.sz j → μ.1 (WK j + 1) i = nI (D.pp j i)) ∧
  (∀ j i, j < D.w → i < D.sz j → μ.1 (WK j + 2) i = nI (D.pr j i))
theorem DX.g {D : Da} {μ : Mm} (h : DX D μ) : GX D.n D.len μ := h.1
theorem DX.kind {D : Da} {μ : Mm} (h : DX D μ) : μ.1 6 0 = nI D.kind := h.2.1
theorem DX.wor {D : Da} {μ : Mm} (h : DX D μ) : ∀ p, p < D.n → μ.1 8 p = nI (D.wor p) := h.2.2.1
theorem DX.bas {D : Da} {μ : Mm} (h : DX D μ) : ∀ p, p < 16 → μ.1 9 p = b2 (D.bas p) := h.2.2.2.1
theorem DX.w {D : Da} {μ : Mm} (h : DX D μ) : μ.1 11 1 = nI D.w := h.2.2.2.2.1
theorem DX.kd {D : Da} {μ : Mm} (h : DX D μ) : ∀ j, j < D.w → μ.1 (WK j) 0 = nI (D.kd j) := h.2.2.2.2.2.1
theorem DX.sp {D : Da} {μ : Mm} (h : DX D μ) : ∀ j, j < D.w → μ.1 (WK j) 1 = nI (D.sp j) := h.2.2.2.2.2.2.1
theorem DX.fu {D : Da} {μ : Mm} (h : DX D μ) : ∀ j, j < D.w → μ.1 (WK j) 2 = nI (D.fu j) := h.2.2.2.2.2.2.2.1
theorem DX.po {D : Da} {μ : Mm} (h : DX D μ) : ∀ j, j < D.w → D.kd j = 3 → μ.1 (WK j) 3 = nI (D.po j) := h.2.2.2.2.2.2.2.2.1
theorem DX.vw {D : Da} {μ : Mm} (h : DX D μ) : ∀ j, j < D.w → μ.1 (WK j) 4 = nI (D.vw j) := h.2.2.2.2.2.2.2.2.2.1
theorem DX.lo {D : Da} {μ : Mm} (h : DX D μ) : ∀ j, j < D.w → μ.1 (WK j) 5 = b2 (D.lo j) := h.2.2.2.2.2.2.2.2.2.2.1
theorem DX.gn {D : Da} {μ : Mm} (h : DX D μ) : ∀ j, j < D.w → μ.1 (WK j) 6 = b2 (D.gn j) := h.2.2.2.2.2.2.2.2.2.2.2.1
theorem DX.st {D : Da} {μ : Mm} (h : DX D μ) : ∀ j, j < D.w → D.sz j ≠ 0 → μ.1 (WK j) 7 = nI (D.st j) := h.2.2.2.2.2.2.2.2.2.2.2.2.1
theorem DX.sz {D : Da} {μ : Mm} (h : DX D μ) : ∀ j, j < D.w → μ.1 (WK j) 8 = nI (D.sz j) := h.2.2.2.2.2.2.2.2.2.2.2.2.2.1
theorem DX.pp {D : Da} {μ : Mm} (h : DX D μ) : ∀ j i, j < D.w → i < D.sz j → μ.1 (WK j + 1) i = nI (D.pp j i) := h.2.2.2.2.2.2.2.2.2.2.2.2.2.2.1
theorem DX.pr {D : Da} {μ : Mm} (h : DX D μ) : ∀ j i, j < D.w → i < D.sz j → μ.1 (WK j + 2) i = nI (D.pr j i) := h.2.2.2.2.2.2.2.2.2.2.2.2.2.2.2
theorem GX.congr {n : Nat} {len : Nat → Nat → Int} {μ μ' : Mm} (h : GX n len μ) (h1 : μ'.1 6 1 = μ.1 6 1) (h7 : μ'.1 7 = μ.1 7) : GX n len μ' := ⟨by rw [h1]; exact h.n, fun a b x y => by rw [h7]; exact h.len a b x y⟩
theorem DX.congr {D : Da} {μ μ' : Mm} (h : DX D μ) (hw : D.w ≤ 8) (h0 : μ'.1 6 0 = μ.1 6 0) (h1 : μ'.1 6 1 = μ.1 6 1) (h7 : μ'.1 7 = μ.1 7) (h8 : μ'.1 8 = μ.1 8) (h9 : μ'.1 9 = μ.1 9) (h11 : μ'.1 11 1 = μ.1 11 1) (hk : ∀ j, j < 8 → (∀ f, f ≤ 8 → μ'.1 (WK j) f = μ.1 (WK j) f) ∧ μ'.1 (WK j + 1) = μ.1 (WK j + 1) ∧ μ'.1 (WK j + 2) = μ.1 (WK j + 2)) : DX D μ' := ⟨h.g.congr h1 h7,
  by rw [h0]; exact h.kind,
  by rw [h8]; exact h.wor,
  by rw [h9]; exact h.bas,
  by rw [h11]; exact h.w,
  fun j hj => by rw [(hk j (by omega)).1 0 (by omega)]; exact h.kd j hj,
  fun j hj => by rw [(hk j (by omega)).1 1 (by omega)]; exact h.sp j hj,
  fun j hj => by rw [(hk j (by omega)).1 2 (by omega)]; exact h.fu j hj,
  fun j hj q => by rw [(hk j (by omega)).1 3 (by omega)]; exact h.po j hj q,
  fun j hj => by rw [(hk j (by omega)).1 4 (by omega)]; exact h.vw j hj,
  fun j hj => by rw [(hk j (by omega)).1 5 (by omega)]; exact h.lo j hj,
  fun j hj => by rw [(hk j (by omega)).1 6 (by omega)]; exact h.gn j hj,
  fun j hj q => by rw [(hk j (by omega)).1 7 (by omega)]; exact h.st j hj q,
  fun j hj => by rw [(hk j (by omega)).1 8 (by omega)]; exact h.sz j hj,
  fun j i hj hi => by rw [(hk j (by omega)).2.1]; exact h.pp j i hj hi,
  fun j i hj hi => by rw [(hk j (by omega)).2.2]; exact h.pr j i hj hi⟩
theorem DM.congr {D : Da} {μ μ' : Mm} (h : DM D μ) (h0 : μ'.1 0 8 = μ.1 0 8 ∧ μ'.1 0 9 = μ.1 0 9 ∧ μ'.1 0 15 = μ.1 0 15) (hc : ∀ c, (5 ≤ c ∧ c ≤ 8) ∨ (10 ≤ c ∧ c ≤ 20) → μ'.1 c = μ.1 c) : DM D μ' := ⟨by rw [h0.1]; exact h.kind,
  by rw [h0.2.1]; exact h.n,
  by rw [hc 5 (by decide)]; exact h.len,
  by rw [hc 6 (by decide)]; exact h.brk,
  by rw [hc 7 (by decide)]; exact h.wor,
  by rw [hc 8 (by decide)]; exact h.bas,
  by rw [h0.2.2]; exact h.w,
  by rw [hc 10 (by decide)]; exact h.kd,
  by rw [hc 11 (by decide)]; exact h.sp,
  by rw [hc 12 (by decide)]; exact h.fu,
  by rw [hc 13 (by decide)]; exact h.po,
  by rw [hc 14 (by decide)]; exact h.vw,
  by rw [hc 15 (by decide)]; exact h.lo,
  by rw [hc 16 (by decide)]; exact h.gn,
  by rw [hc 17 (by decide)]; exact h.sz,
  by rw [hc 20 (by decide)]; exact h.st,
  by rw [hc 20 (by decide)]; exact h.s9,
  by rw [hc 18 (by decide)]; exact h.pp,
  by rw [hc 19 (by decide)]; exact h.pr⟩
/-- an int as a number, where it is none below 0 -/
def iN (x : Int32) : Nat := x.toInt.toNat
theorem iN_nI {x : Int32} (h : 0 ≤ x.toInt) : x = nI (iN x) := nI_tI h (by unfold iN; omega)
theorem b2_of {x : Int32} (h : x = 0 ∨ x = 1) : x = b2 (decide (x = 1)) := by
  rcases h with rfl | rfl <;> decide
/-- the numbers of two memories -/
def dat (μx μm : Mm) : Da := (iN (μm.1 0 8), iN (μm.1 0 9), fun a b => (μx.1 7 (16 * a + b)).toInt, fun p => iN (μm.1 7 p), fun p => decide (μm.1 8 p = 1), iN (μm.1 0 15), fun j => iN (μm.1 10 j), fun j => iN (μm.1 11 j), fun j => iN (μm.1 12 j), fun j => iN (μm.1 13 j), fun j => iN (μm.1 14 j), fun j => decide (μm.1 15 j = 1), fun j => decide (μm.1 16 j = 1), fun j => iN (μm.1 17 j), fun j => iN (μm.1 20 j), fun j i => iN (μm.1 18 (24 * j + i)), fun j i => iN (μm.1 19 (24 * j + i)))
theorem Rel.data {RC : Nat → Mm → Prop} {k : Nat} {μx μm : Mm} (h : Rel RC k μx μm) : ∃ D, DI D ∧ DX D μx ∧ DM D μm := by
  obtain ⟨_, _, hG, hW, _, _, _⟩ := h
  obtain ⟨gk, gk3, gp, n, n1, n16, en, gl, gw, gb, _, _, _, gf⟩ := hG
  obtain ⟨hm, w, w8, ew, hall, _⟩ := hW
  have dn : (dat μx μm).n = n := by show iN (μm.1 0 9) = n; rw [en]; unfold iN; rw [tI (by omega)]; omega
  have dw : (dat μx μm).w = w := by show iN (μm.1 0 15) = w; rw [ew]; unfold iN; rw [tI (by omega)]; omega
  have hlen : ∀ a b, a < 16 → b < 16 → μm.1 5 (16 * a + b) = nI ((dat μx μm).len a b).natAbs ∧ μm.1 6 (16 * a + b) = b2 (decide ((dat μx μm).len a b < 0)) ∧ (-30 ≤ (dat μx μm).len a b ∧ (dat μx μm).len a b ≤ 30) ∧ ((dat μx μm).len a b = 0 ↔ μm.1 5 (16 * a + b) = 0) := by
    intro a b ha hb
    obtain ⟨l1, l2, _, _, l5, _, _, l8⟩ := gl a b ha hb
    show μm.1 5 (16 * a + b) = nI ((μx.1 7 (16 * a + b)).toInt).natAbs ∧ μm.1 6 (16 * a + b) = b2 (decide ((μx.1 7 (16 * a + b)).toInt < 0)) ∧ (-30 ≤ (μx.1 7 (16 * a + b)).toInt ∧ (μx.1 7 (16 * a + b)).toInt ≤ 30) ∧ ((μx.1 7 (16 * a + b)).toInt = 0 ↔ μm.1 5 (16 * a + b) = 0)
    rw [l8]
    rcases l2 with z | z
    · rw [if_pos z, z]
      refine ⟨nI_tI l1.1 (by omega), ?_, by omega, ?_⟩
      · rw [decide_eq_false (by omega)]; rfl
      · rw [eq_I, show (0 : Int32).toInt = 0 from rfl]
    · rw [if_neg (by rw [z]; decide)]
      have ne : (μm.1 5 (16 * a + b)).toInt ≠ 0 := fun q => by
        have := l5 (eq_I.mpr q)
        rw [z] at this
        exact absurd this (by decide)
      have neg : (-μm.1 5 (16 * a + b)).toInt = -(μm.1 5 (16 * a + b)).toInt := by
        rw [Int32.toInt_neg, Int.bmod_eq_of_le (by omega) (by omega)]
      rw [neg, z]
      refine ⟨nI_tI l1.1 (by omega), ?_, by omega, ?_⟩
      · rw [decide_eq_true (by omega)]; rfl
      · rw [eq_I, show (0 : Int32).toInt = 0 from rfl]
        omega
  have k0 : ∀ j, j < w → RW1 (μx.1 (WK j)) (μx.1 (WK j + 1)) (μx.1 (WK j + 2)) (μm.1 10) (μm.1 11) (μm.1 12) (μm.1 13) (μm.1 14) (μm.1 15) (μm.1 16) (μm.1 17) (μm.1 20) (μm.1 18) (μm.1 19) j := hall
  have esz : ∀ j, j < w → μm.1 17 j = nI ((dat μx μm).sz j) ∧ ((dat μx μm).sz j = 0 ∨ (2 ≤ (dat μx μm).sz j ∧ (dat μx μm).sz j ≤ 24)) := by
    intro j hj
    obtain ⟨_, _, _, _, _, _, _, _, _, _, _, _, _, _, _, _, b8, _⟩ := k0 j hj
    show μm.1 17 j = nI (iN (μm.1 17 j)) ∧ (iN (μm.1 17 j) = 0 ∨ _)
    rcases b8 with z | z
    · rw [z]; exact ⟨rfl, Or.inl rfl⟩
    · refine ⟨iN_nI (by omega), Or.inr ?_⟩
      show 2 ≤ iN (μm.1 17 j) ∧ iN (μm.1 17 j) ≤ 24
      unfold iN
      omega
  have ti : ∀ j, j < w → (μm.1 17 j).toInt = ((dat μx μm).sz j : Int) := fun j hj => by
    obtain ⟨a, b⟩ := esz j hj
    rw [a, tI (by omega)]
  have eix : ∀ j i, j < w → (if ((i + 1 : Nat) : Int) < (μm.1 17 j).toInt then i + 1 else 0) = nx ((dat μx μm).sz j) i := fun j i hj => by
    rw [ti j hj]
    unfold nx
    by_cases z : i + 1 < (dat μx μm).sz j
    · rw [if_pos z, if_pos (by omega)]
    · rw [if_neg z, if_neg (by omega)]
  have s0 : ∀ j, j < w → ((dat μx μm).sz j ≠ 0 ↔ μm.1 17 j ≠ 0) := fun j hj => by
    have := ti j hj
    rw [Ne, Ne, eq_I, this, show (0 : Int32).toInt = 0 from rfl]
    omega
  have k3 : ∀ j, j < w → μm.1 10 j = nI ((dat μx μm).kd j) ∧ (dat μx μm).kd j ≤ 3 := fun j hj => by
    obtain ⟨_, _, _, _, _, _, _, _, _, _, b2', _⟩ := k0 j hj
    show μm.1 10 j = nI (iN (μm.1 10 j)) ∧ iN (μm.1 10 j) ≤ 3
    rcases b2' with z | z | z | z <;> rw [z] <;> decide
  have kq : ∀ j, j < w → ∀ v : Nat, v < 4 → ((dat μx μm).kd j = v ↔ μm.1 10 j = nI v) := fun j hj v hv => by
    obtain ⟨a, b⟩ := k3 j hj
    rw [a]
    exact (nI_eq (by omega) (by omega)).symm
  refine ⟨dat μx μm, ?_, ?_, ?_⟩
  · refine ⟨⟨by rw [dn]; exact n1, by rw [dn]; exact n16, fun a b ha hb => (hlen a b ha hb).2.2.1, fun a b ha hb => ?_, fun a ha => ?_, fun a b ha hb q => ?_⟩, ?_, ?_, ?_, by rw [dw]; exact w8, ?_, ?_, ?_, ?_, ?_, ?_, ?_, ?_, ?_, ?_, ?_⟩
    · obtain ⟨_, _, l3, l4, _, _, _, l8⟩ := gl a b ha hb
      obtain ⟨_, _, _, _, _, _, _, l8'⟩ := gl b a hb ha
      show (μx.1 7 (16 * a + b)).toInt = (μx.1 7 (16 * b + a)).toInt
      rw [l8, l8', l3, l4]
    · exact (hlen a a ha ha).2.2.2.mpr ((gl a a ha ha).2.2.2.2.2.1 rfl)
    · rw [dn] at q
      exact (hlen a b ha hb).2.2.2.mpr ((gl a b ha hb).2.2.2.2.2.2.1 q)
    · show iN (μm.1 0 8) ≤ 2
      rcases gk3 with z | z | z <;> rw [z] <;> decide
    · intro z
      have z2 : μm.1 0 8 = 0 := by
        have z' : iN (μm.1 0 8) = 0 := z
        rcases gk3 with y | y | y
        · exact y
        · rw [y] at z'; exact absurd z' (by decide)
        · rw [y] at z'; exact absurd z' (by decide)
      obtain ⟨f1, f2⟩ := gf z2
      rw [dn]
      exact ⟨f1, fun i hi q => f2 i hi ((hlen i (i + 1) (by omega) (by omega)).2.2.2.mp q)⟩
    · intro p hp
      rw [dn] at hp
      obtain ⟨_, a, b⟩ := gw p hp
      show iN (μm.1 7 p) ≤ 9
      unfold iN
      omega
    · intro j hj
      rw [dw] at hj
      exact (k3 j hj).2
    · intro j hj
      rw [dw] at hj
      obtain ⟨_, _, _, _, _, _, _, _, _, _, _, b3, _⟩ := k0 j hj
      show 1 ≤ iN (μm.1 11 j) ∧ iN (μm.1 11 j) ≤ 6
      unfold iN
      omega
    · intro j hj
      rw [dw] at hj
      obtain ⟨_, _, _, _, _, _, _, _, _, _, _, _, b4, _⟩ := k0 j hj
      show iN (μm.1 12 j) ≤ 500
      unfold iN
      omega
    · intro j hj
      rw [dw] at hj
      obtain ⟨_, _, _, _, _, _, _, _, _, _, _, _, _, b5, _⟩ := k0 j hj
      show iN (μm.1 14 j) ≤ 40
      unfold iN
      omega
    · intro j hj
      rw [dw] at hj
      exact (esz j hj).2
    · intro j hj q
      rw [dw] at hj
      obtain ⟨_, _, _, _, _, _, _, _, _, _, _, _, _, _, _, _, _, _, d1, _⟩ := k0 j hj
      have := d1 ((s0 j hj).mp q)
      show iN (μm.1 20 j) < 14400
      unfold iN
      omega
    · intro j hj q
      rw [dw] at hj
      obtain ⟨_, _, _, _, _, _, _, _, _, _, _, _, _, _, _, _, _, _, _, d2, _⟩ := k0 j hj
      obtain ⟨y1, y2⟩ := d2 ((kq j hj 3 (by decide)).mp q)
      refine ⟨?_, ?_⟩
      · show iN (μm.1 17 j) = 0
        rw [y1]; rfl
      · show iN (μm.1 13 j) ≤ 15
        unfold iN
        omega
    · intro j hj q
      rw [dw] at hj
      obtain ⟨_, _, _, _, _, _, _, _, _, _, _, _, _, _, _, _, _, _, _, _, d3⟩ := k0 j hj
      have : μm.1 11 j = 1 := d3 (by
        rcases q with q | q
        · exact Or.inl ((kq j hj 0 (by decide)).mp q)
        · exact Or.inr ((kq j hj 3 (by decide)).mp q))
      show iN (μm.1 11 j) = 1
      rw [this]; rfl
    · intro j i hj hi
      rw [dw] at hj
      obtain ⟨_, _, _, _, _, _, _, _, _, b1, _⟩ := k0 j hj
      obtain ⟨_, _, p1, _, _⟩ := b1 i (by rw [ti j hj]; omega)
      show iN (μm.1 18 (24 * j + i)) ≤ 15
      unfold iN
      omega
    · intro j i hj hi
      rw [dw] at hj
      obtain ⟨_, _, _, _, _, _, _, _, _, b1, _⟩ := k0 j hj
      obtain ⟨_, _, _, p1, _⟩ := b1 i (by rw [ti j hj]; omega)
      show iN (μm.1 19 (24 * j + i)) ≤ 127
      unfold iN
      omega
    · intro j i hj hi
      rw [dw] at hj
      obtain ⟨_, _, _, _, _, _, _, _, _, b1, _⟩ := k0 j hj
      obtain ⟨_, _, p1, _, p2⟩ := b1 i (by rw [ti j hj]; omega)
      rw [eix j i hj] at p2
      have hnx := nx_lt (n := (dat μx μm).sz j) (i := i) (by omega)
      obtain ⟨_, _, p3, _, _⟩ := b1 (nx ((dat μx μm).sz j) i) (by rw [ti j hj]; omega)
      intro q
      have q' : iN (μm.1 18 (24 * j + i)) = iN (μm.1 18 (24 * j + nx ((dat μx μm).sz j) i)) := q
      apply p2
      rw [iN_nI p1.1, iN_nI p3.1, q']
  · refine ⟨⟨by rw [dn]; exact gp.trans en, fun a b _ _ => rfl⟩, ?_, ?_, ?_, by rw [dw]; exact hm.trans ew, ?_, ?_, ?_, ?_, ?_, ?_, ?_, ?_, ?_, ?_, ?_⟩
    · show μx.1 6 0 = nI (iN (μm.1 0 8))
      rw [gk]
      rcases gk3 with z | z | z <;> rw [z] <;> decide
    · intro p hp
      rw [dn] at hp
      obtain ⟨a, b, _⟩ := gw p hp
      rw [a]
      exact iN_nI b
    · intro p hp
      obtain ⟨a, b⟩ := gb p hp
      rw [a]
      exact b2_of b
    · intro j hj
      rw [dw] at hj
      obtain ⟨a1, _⟩ := k0 j hj
      rw [a1]
      exact (k3 j hj).1
    · intro j hj
      rw [dw] at hj
      obtain ⟨_, a2, _, _, _, _, _, _, _, _, _, b3, _⟩ := k0 j hj
      rw [a2]
      exact iN_nI (by omega)
    · intro j hj
      rw [dw] at hj
      obtain ⟨_, _, a3, _, _, _, _, _, _, _, _, _, b4, _⟩ := k0 j hj
      rw [a3]
      exact iN_nI (by omega)
    · intro j hj q
      rw [dw] at hj
      obtain ⟨_, _, _, a4, _, _, _, _, _, _, _, _, _, _, _, _, _, _, _, d2, _⟩ := k0 j hj
      have q' := (kq j hj 3 (by decide)).mp q
      rw [a4 q']
      exact iN_nI (d2 q').2.1
    · intro j hj
      rw [dw] at hj
      obtain ⟨_, _, _, _, a5, _, _, _, _, _, _, _, _, b5, _⟩ := k0 j hj
      rw [a5]
      exact iN_nI (by omega)
    · intro j hj
      rw [dw] at hj
      obtain ⟨_, _, _, _, _, a6, _, _, _, _, _, _, _, _, b6, _⟩ := k0 j hj
      rw [a6]
      exact b2_of b6
    · intro j hj
      rw [dw] at hj
      obtain ⟨_, _, _, _, _, _, a7, _, _, _, _, _, _, _, _, b7, _⟩ := k0 j hj
      rw [a7]
      exact b2_of b7
    · intro j hj q
      rw [dw] at hj
      obtain ⟨_, _, _, _, _, _, _, _, a9, _, _, _, _, _, _, _, _, _, d1, _⟩ := k0 j hj
      have q' := (s0 j hj).mp q
      rw [a9 q']
      exact iN_nI (d1 q').1
    · intro j hj
      rw [dw] at hj
      obtain ⟨_, _, _, _, _, _, _, a8, _⟩ := k0 j hj
      rw [a8]
      exact (esz j hj).1
    · intro j i hj hi
      rw [dw] at hj
      obtain ⟨_, _, _, _, _, _, _, _, _, b1, _⟩ := k0 j hj
      obtain ⟨p0, _, p1, _, _⟩ := b1 i (by rw [ti j hj]; omega)
      rw [p0]
      exact iN_nI p1.1
    · intro j i hj hi
      rw [dw] at hj
      obtain ⟨_, _, _, _, _, _, _, _, _, b1, _⟩ := k0 j hj
      obtain ⟨_, p0, _, p1, _⟩ := b1 i (by rw [ti j hj]; omega)
      rw [p0]
      exact iN_nI p1.1
  · refine ⟨?_, by rw [dn]; exact en, fun a b ha hb => (hlen a b ha hb).1, fun a b ha hb => (hlen a b ha hb).2.1, ?_, fun p hp => b2_of (gb p hp).2, by rw [dw]; exact ew, fun j hj => (k3 j (by rw [dw] at hj; exact hj)).1, ?_, ?_, ?_, ?_, ?_, ?_, fun j hj => (esz j (by rw [dw] at hj; exact hj)).1, ?_, ?_, ?_, ?_⟩
    · show μm.1 0 8 = nI (iN (μm.1 0 8))
      rcases gk3 with z | z | z <;> rw [z] <;> decide
    · intro p hp
      rw [dn] at hp
      exact iN_nI (gw p hp).2.1
    · intro j hj
      rw [dw] at hj
      obtain ⟨_, _, _, _, _, _, _, _, _, _, _, b3, _⟩ := k0 j hj
      exact iN_nI (by omega)
    · intro j hj
      rw [dw] at hj
      obtain ⟨_, _, _, _, _, _, _, _, _, _, _, _, b4, _⟩ := k0 j hj
      exact iN_nI (by omega)
    · intro j hj q
      rw [dw] at hj
      obtain ⟨_, _, _, _, _, _, _, _, _, _, _, _, _, _, _, _, _, _, _, d2, _⟩ := k0 j hj
      exact iN_nI (d2 ((kq j hj 3 (by decide)).mp q)).2.1
    · intro j hj
      rw [dw] at hj
      obtain ⟨_, _, _, _, _, _, _, _, _, _, _, _, _, b5, _⟩ := k0 j hj
      exact iN_nI (by omega)
    · intro j hj
      rw [dw] at hj
      obtain ⟨_, _, _, _, _, _, _, _, _, _, _, _, _, _, b6, _⟩ := k0 j hj
      exact b2_of b6
    · intro j hj
      rw [dw] at hj
      obtain ⟨_, _, _, _, _, _, _, _, _, _, _, _, _, _, _, b7, _⟩ := k0 j hj
      exact b2_of b7
    · intro j hj q
      rw [dw] at hj
      obtain ⟨_, _, _, _, _, _, _, _, _, _, _, _, _, _, _, _, _, _, d1, _⟩ := k0 j hj
      exact iN_nI (d1 ((s0 j hj).mp q)).1
    · intro j hj q
      rw [dw] at hj
      obtain ⟨_, _, _, _, _, _, _, _, _, _, _, _, _, _, _, _, _, b9, _⟩ := k0 j hj
      exact b9 (Classical.byContradiction (fun z => (s0 j hj).mpr z q))
    · intro j i hj hi
      rw [dw] at hj
      obtain ⟨_, _, _, _, _, _, _, _, _, b1, _⟩ := k0 j hj
      exact iN_nI (b1 i (by rw [ti j hj]; omega)).2.2.1.1
    · intro j i hj hi
      rw [dw] at hj
      obtain ⟨_, _, _, _, _, _, _, _, _, b1, _⟩ := k0 j hj
      exact iN_nI (b1 i (by rw [ti j hj]; omega)).2.2.2.1.1
