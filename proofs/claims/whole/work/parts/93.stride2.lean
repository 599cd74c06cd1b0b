/-! PURE 73: frames of strides -/
def QFr (q : Nat) (μ μ' : Mm) : Prop := ∀ c, c ≠ q → μ'.1 c = μ.1 c ∧ μ'.2 c = μ.2 c
