/-! ===== whole rows copied ===== -/
theorem p6_copyAll {k : ovSt → Prop} {a0 a1 : Nat} (h0 : a0 = 75 ∨ a0 = 76 ∨ a0 = 77) (h1 : a1 = 75 ∨ a1 = 76 ∨ a1 = 77) (hne : a0 ≠ a1) {σ : ovSt} (h : ∀ σ', pu_ag (fun i => i = a1) σ σ' → σ' a1 = pu_ov (σ a1) (σ a0) 1412 → k σ') : F_X6_copyAll a0 a1 σ k := by
  unfold F_X6_copyAll
  refine ⟨?_, ?_, 1412 + 1, ?_⟩
  · rcases h0 with e | e | e <;> (rw [e]; rfl)
  · rcases h1 with e | e | e <;> (rw [e]; rfl)
  · exact p6_copyAll_loop hne (f := σ a1) 1412 0 σ (by omega) (pu_ov0 _ _).symm h
/-- rows that agree beyond the copied stretch -/
theorem pu_ov_full {a b : Nat → Int32} (h : ∀ c, 1412 ≤ c → a c = b c) : pu_ov a b 1412 = b := by
  funext c
  unfold pu_ov
  by_cases z : c < 1412
  · rw [if_pos z]
  · rw [if_neg z]; exact h c (by omega)
