theorem v_text {σ : ovSt} (h : ovInv σ) : F_X5_text σ (fun r σ1 => F_X6_text σ1 (fun r' σ2 => r = r' ∧ ovInv σ2)) := sorry
