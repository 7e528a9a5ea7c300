/-! ===== the far part of the invariant ===== -/
def pu_worth (kd x : Int32) : Int32 := if kd = 1 then x + 9 else if kd = 2 then 40 - x else if kd = 3 then 2 * (x + 9) else if kd = 4 then 37 - x else if kd = 5 then 60 else x
/-- the image -/
def pu_IM (σ : ovSt) : Prop := (∀ c, 1412 ≤ c → σ 75 c = 0 ∧ σ 76 c = 0) ∧ σ 0 10 = σ 74 3 ∧ (¬ σ 0 10 = 0 → pu_WG (σ 76) ∧ pu_RS σ 27 (σ 76) ∧ pu_LS σ (σ 76) ∧ pu_in (σ 76 4) 0 9999 ∧ (σ 76 7).toNatClampNeg ≤ (σ 75 7).toNatClampNeg)
def pu_byte (b : Nat) : Int32 := if b < 128 then nI b else nI b - 256
/-- the tape -/
def pu_IT (σ : ovSt) : Prop := σ 45 2 = σ 74 8 ∧ ∃ n, n ≤ 96 ∧ σ 74 8 = nI n ∧ ∀ i, i < n → ∃ b, b < 256 ∧ σ 81 i = nI b ∧ σ 46 i = pu_byte b
/-- numbers that wait -/
def pu_IW (σ : ovSt) : Prop := σ 0 9 = σ 74 34 ∧ ∃ n, n ≤ 60 ∧ σ 74 34 = nI n ∧ ∀ i, i < n → σ 50 i = σ 97 i
def pu_cell (v : Int32) : Prop := v = -1000000005 ∨ pu_in v (-99999) 99999
/-- sheets -/
def pu_IS1 (σ : ovSt) (s : Nat) : Prop := σ (51 + 2 * s) 1 = σ 89 s ∧ σ (51 + 2 * s) 2 = σ 90 s ∧ pu_in (σ 89 s) (-1) 1 ∧ (∃ n, n ≤ 24 ∧ σ 90 s = nI n) ∧ ∀ i, i < 24 → σ (51 + 2 * s + 1) i = σ 91 (24 * s + i) ∧ pu_cell (σ 91 (24 * s + i))
def pu_IS (σ : ovSt) : Prop := ∀ s, s < 4 → pu_IS1 σ s
/-- slots -/
def pu_IH1 (σ : ovSt) (s : Nat) : Prop := σ (59 + 3 * s) 1 = σ 92 s ∧ pu_in (σ 92 s) 0 3 ∧
  (σ 92 s = 1 → pu_in (σ (59 + 3 * s) 2) 0 5 ∧ σ 93 s = σ (59 + 3 * s) 2 ∧ σ 94 s = pu_worth (σ (59 + 3 * s) 2) (σ (59 + 3 * s) 3)) ∧
  (σ 92 s = 2 → σ (59 + 3 * s + 1) 2 = σ 93 s ∧ (∃ n, n ≤ 24 ∧ σ 93 s = nI n) ∧ ∀ i, i < 24 → σ (59 + 3 * s + 1 + 1) i = σ 95 (24 * s + i)) ∧
  (σ 92 s = 3 → σ (59 + 3 * s) 4 = σ 93 s)
def pu_IH (σ : ovSt) : Prop := ∀ s, s < 5 → pu_IH1 σ s
/-- the model's keys -/
def pu_kw (i : Nat) : Int32 := if i = 0 then 102 else if i = 1 then 97 else if i = 2 then 100 else if i = 3 then 101 else if i = 4 then 98 else if i = 5 then 105 else if i = 6 then 108 else if i = 7 then 108 else if i = 8 then 108 else if i = 9 then 111 else 116
def pu_IK (σ : ovSt) : Prop := (σ 83 0 = 0 ∧ σ 83 1 = 4 ∧ σ 83 2 = 8 ∧ σ 83 3 = 11) ∧ ∀ i, i < 11 → σ 82 i = pu_kw i
def pu_I2 (σ : ovSt) : Prop := pu_IM σ ∧ pu_IT σ ∧ pu_IW σ ∧ pu_IS σ ∧ pu_IH σ ∧ pu_IK σ
theorem pu_IM.cg {σ σ' : ovSt} (h : pu_IM σ) (ha : ∀ i, ((3 ≤ i ∧ i ≤ 19) ∨ (27 ≤ i ∧ i ≤ 32) ∨ i = 76) → σ' i = σ i) (e0 : σ' 0 10 = σ 0 10) (e1 : σ' 74 3 = σ 74 3) (ht : pu_tx (σ 75) (σ' 75)) : pu_IM σ' := by
  obtain ⟨h1, h2, h3⟩ := h
  have e := ha 76 (by omega)
  refine ⟨fun c hc => ?_, by rw [e0, e1]; exact h2, fun hz => ?_⟩
  · rw [e, ht.2 c (by omega)]; exact h1 c hc
  · rw [e0] at hz
    obtain ⟨q1, q2, q3, q4, q5⟩ := h3 hz
    rw [e, ht.1]
    exact ⟨q1, q2.ag (fun i a b => ha i (by omega)), q3.ag q1 (fun i a b => ha i (by omega)), q4, q5⟩
theorem pu_IT.cg {σ σ' : ovSt} (h : pu_IT σ) (e46 : σ' 46 = σ 46) (e81 : σ' 81 = σ 81) (e0 : σ' 45 2 = σ 45 2) (e1 : σ' 74 8 = σ 74 8) : pu_IT σ' := by
  unfold pu_IT
  rw [e46, e81, e0, e1]
  exact h
theorem pu_IW.cg {σ σ' : ovSt} (h : pu_IW σ) (e50 : σ' 50 = σ 50) (e97 : σ' 97 = σ 97) (e0 : σ' 0 9 = σ 0 9) (e1 : σ' 74 34 = σ 74 34) : pu_IW σ' := by
  unfold pu_IW
  rw [e50, e97, e0, e1]
  exact h
theorem pu_IS.cg {σ σ' : ovSt} (h : pu_IS σ) (ha : ∀ i, ((51 ≤ i ∧ i ≤ 58) ∨ (89 ≤ i ∧ i ≤ 91)) → σ' i = σ i) : pu_IS σ' := by
  intro s hs
  unfold pu_IS1
  rw [ha (51 + 2 * s) (by omega), ha (51 + 2 * s + 1) (by omega), ha 89 (by omega), ha 90 (by omega), ha 91 (by omega)]
  exact h s hs
theorem pu_IH.cg {σ σ' : ovSt} (h : pu_IH σ) (ha : ∀ i, ((59 ≤ i ∧ i ≤ 73) ∨ (92 ≤ i ∧ i ≤ 95)) → σ' i = σ i) : pu_IH σ' := by
  intro s hs
  unfold pu_IH1
  rw [ha (59 + 3 * s) (by omega), ha (59 + 3 * s + 1) (by omega), ha (59 + 3 * s + 1 + 1) (by omega), ha 92 (by omega), ha 93 (by omega), ha 94 (by omega), ha 95 (by omega)]
  exact h s hs
theorem pu_IK.cg {σ σ' : ovSt} (h : pu_IK σ) (e82 : σ' 82 = σ 82) (e83 : σ' 83 = σ 83) : pu_IK σ' := by
  unfold pu_IK
  rw [e82, e83]
  exact h
