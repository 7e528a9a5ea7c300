/-! the invariant: still open -/
def ovInv (σ : ovSt) : Prop := σ = σ
theorem ov_pure0 : ovInv ovσ0 := rfl
theorem ov_pureB : law_B ovInv := sorry
