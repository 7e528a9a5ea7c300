/-! ===== the far part of the invariant ===== -/
/-- the image -/
def pu_IM (σ : ovSt) : Prop := (∀ c, 1412 ≤ c → σ 75 c = 0 ∧ σ 76 c = 0) ∧ σ 0 10 = σ 74 3 ∧ (¬ σ 0 10 = 0 → pu_WG (σ 76) ∧ pu_RS σ 27 (σ 76) ∧ pu_LS σ (σ 76) ∧ pu_in (σ 76 4) 0 9999 ∧ (σ 76 7).toNatClampNeg ≤ (σ 75 7).toNatClampNeg)
def pu_byte (b : Nat) : Int32 := if b < 128 then nI b else nI b - 256
/-- the tape -/
def pu_IT (σ : ovSt) : Prop := σ 45 2 = σ 74 8 ∧ ∃ n, n ≤ 96 ∧ σ 74 8 = nI n ∧ ∀ i, i < n → ∃ b, b < 256 ∧ σ 81 i = nI b ∧ σ 46 i = pu_byte b
/-- numbers that wait -/
def pu_IW (σ : ovSt) : Prop := σ 0 9 = σ 74 34 ∧ ∃ n, n ≤ 60 ∧ σ 74 34 = nI n ∧ ∀ i, i < n → σ 50 i = σ 97 i
def pu_cell (v : Int32) : Prop := v = -1000000005 ∨ pu_in v (-99999) 99999
/-- sheets -/
def pu_IS1 (σ : ovSt) (s : Nat) : Prop := σ (51 + 2 * s) 1 = σ 89 s ∧ σ (51 + 2 * s) 2 = σ 90 s ∧ pu_in (σ 89 s) (-1) 1 ∧ (∃ n, n ≤ 24 ∧ σ 90 s = nI n) ∧ ∀ i, i < 24 → σ (51 + 2 * s + 1) i = σ 91 (24 * s + i) ∧ pu_cell (σ 91 (24 * s + i))
def pu_IS (σ : ovSt) : Prop := ∀ s, s < 4 → pu_IS1 σ s
/-- slots -/
def pu_IH1 (σ : ovSt) (s : Nat) : Prop := σ (59 + 3 * s) 1 = σ 92 s ∧ pu_in (σ 92 s) 0 3 ∧
  (σ 92 s = 1 → pu_in (σ (59 + 3 * s) 2) 0 5 ∧ σ 93 s = σ (59 + 3 * s) 2 ∧ σ 94 s = pu_worth (σ (59 + 3 * s) 2) (σ (59 + 3 * s) 3)) ∧
  (σ 92 s = 2 → σ (59 + 3 * s + 1) 2 = σ 93 s ∧ (∃ n, n ≤ 24 ∧ σ 93 s = nI n) ∧ ∀ i, i < 24 → σ (59 + 3 * s + 1 + 1) i = σ 95 (24 * s + i)) ∧
  (σ 92 s = 3 → σ (59 + 3 * s) 4 = σ 93 s)
def pu_IH (σ : ovSt) : Prop := ∀ s, s < 5 → pu_IH1 σ s
/-- the model's keys -/
def pu_kw (i : Nat) : Int32 := if i = 0 then 102 else if i = 1 then 97 else if i = 2 then 100 else if i = 3 then 101 else if i = 4 then 98 else if i = 5 then 105 else if i = 6 then 108 else if i = 7 then 108 else if i = 8 then 108 else if i = 9 then 111 else 116
def pu_IK (σ : ovSt) : Prop := (σ 83 0 = 0 ∧ σ 83 1 = 4 ∧ σ 83 2 = 8 ∧ σ 83 3 = 11) ∧ ∀ i, i < 11 → σ 82 i = pu_kw i
def pu_I2 (σ : ovSt) : Prop := pu_IM σ ∧ pu_IT σ ∧ pu_IW σ ∧ pu_IS σ ∧ pu_IH σ ∧ pu_IK σ
def ovInv (σ : ovSt) : Prop := pu_I1 σ ∧ pu_I2 σ
theorem pu_I1.cg {σ σ' : ovSt} (h : pu_I1 σ) (ha : ∀ i, ((3 ≤ i ∧ i ≤ 19) ∨ (21 ≤ i ∧ i ≤ 26) ∨ i = 75) → σ' i = σ i) : pu_I1 σ' := by
  obtain ⟨h1, h2, h3, h4⟩ := h
  have e := ha 75 (by omega)
  unfold pu_I1
  rw [e]
  exact ⟨h1, h2.ag (fun i a b => ha i (by omega)), h3.ag h1 (fun i a b => ha i (by omega)), h4⟩
theorem pu_IM.cg {σ σ' : ovSt} (h : pu_IM σ) (ha : ∀ i, ((3 ≤ i ∧ i ≤ 19) ∨ (27 ≤ i ∧ i ≤ 32) ∨ i = 76) → σ' i = σ i) (e0 : σ' 0 10 = σ 0 10) (e1 : σ' 74 3 = σ 74 3) (ht : pu_tx (σ 75) (σ' 75)) : pu_IM σ' := by
  obtain ⟨h1, h2, h3⟩ := h
  have e := ha 76 (by omega)
  refine ⟨fun c hc => ?_, by rw [e0, e1]; exact h2, fun hz => ?_⟩
  · rw [e, ht.2 c (by omega)]; exact h1 c hc
  · rw [e0] at hz
    obtain ⟨q1, q2, q3, q4, q5⟩ := h3 hz
    rw [e, ht.1]
    exact ⟨q1, q2.ag (fun i a b => ha i (by omega)), q3.ag q1 (fun i a b => ha i (by omega)), q4, q5⟩
theorem pu_IT.cg {σ σ' : ovSt} (h : pu_IT σ) (e46 : σ' 46 = σ 46) (e81 : σ' 81 = σ 81) (e0 : σ' 45 2 = σ 45 2) (e1 : σ' 74 8 = σ 74 8) : pu_IT σ' := by
  unfold pu_IT
  rw [e46, e81, e0, e1]
  exact h
theorem pu_IW.cg {σ σ' : ovSt} (h : pu_IW σ) (e50 : σ' 50 = σ 50) (e97 : σ' 97 = σ 97) (e0 : σ' 0 9 = σ 0 9) (e1 : σ' 74 34 = σ 74 34) : pu_IW σ' := by
  unfold pu_IW
  rw [e50, e97, e0, e1]
  exact h
theorem pu_IS.cg {σ σ' : ovSt} (h : pu_IS σ) (ha : ∀ i, ((51 ≤ i ∧ i ≤ 58) ∨ (89 ≤ i ∧ i ≤ 91)) → σ' i = σ i) : pu_IS σ' := by
  intro s hs
  unfold pu_IS1
  rw [ha (51 + 2 * s) (by omega), ha (51 + 2 * s + 1) (by omega), ha 89 (by omega), ha 90 (by omega), ha 91 (by omega)]
  exact h s hs
theorem pu_IH.cg {σ σ' : ovSt} (h : pu_IH σ) (ha : ∀ i, ((59 ≤ i ∧ i ≤ 73) ∨ (92 ≤ i ∧ i ≤ 95)) → σ' i = σ i) : pu_IH σ' := by
  intro s hs
  unfold pu_IH1
  rw [ha (59 + 3 * s) (by omega), ha (59 + 3 * s + 1) (by omega), ha (59 + 3 * s + 1 + 1) (by omega), ha 92 (by omega), ha 93 (by omega), ha 94 (by omega), ha 95 (by omega)]
  exact h s hs
theorem pu_IK.cg {σ σ' : ovSt} (h : pu_IK σ) (e82 : σ' 82 = σ 82) (e83 : σ' 83 = σ 83) : pu_IK σ' := by
  unfold pu_IK
  rw [e82, e83]
  exact h
theorem pu_I2.good {σ σ2 : ovSt} (h : pu_I2 σ) (hg : pu_good σ σ2) : pu_I2 σ2 := by
  obtain ⟨h1, h2, h3, h4, h5, h6⟩ := h
  obtain ⟨-, ha, ht⟩ := hg
  have q : ∀ i, ¬ pu_XS i → σ2 i = σ i := ha
  refine ⟨h1.cg (fun i hi => q i (by unfold pu_XS; omega)) ?_ ?_ ht, h2.cg ?_ ?_ ?_ ?_, h3.cg ?_ ?_ ?_ ?_, h4.cg (fun i hi => q i (by unfold pu_XS; omega)), h5.cg (fun i hi => q i (by unfold pu_XS; omega)), h6.cg ?_ ?_⟩
  · rw [q 0 (by unfold pu_XS; omega)]
  · rw [q 74 (by unfold pu_XS; omega)]
  · exact q 46 (by unfold pu_XS; omega)
  · exact q 81 (by unfold pu_XS; omega)
  · rw [q 45 (by unfold pu_XS; omega)]
  · rw [q 74 (by unfold pu_XS; omega)]
  · exact q 50 (by unfold pu_XS; omega)
  · exact q 97 (by unfold pu_XS; omega)
  · rw [q 0 (by unfold pu_XS; omega)]
  · rw [q 74 (by unfold pu_XS; omega)]
  · exact q 82 (by unfold pu_XS; omega)
  · exact q 83 (by unfold pu_XS; omega)
theorem ovInv.good {σ σ2 : ovSt} (h : ovInv σ) (hg : pu_good σ σ2) : ovInv σ2 := ⟨hg.1, h.2.good hg⟩
theorem ovInv.rf {σ : ovSt} (h : ovInv σ) : pu_good σ σ := pu_good.rf h.1
/-! verbs that only look -/
theorem v_count {σ : ovSt} (h : ovInv σ) (a : Int32) : F_X5_count a σ (fun r σ1 => F_X6_count a σ1 (fun r' σ2 => r = r' ∧ ovInv σ2)) := by
  obtain ⟨⟨y0, y1, y2, y3, y4, y5, y6, y7⟩, -⟩ := h.1.2.1
  unfold F_X5_count
  by_cases z0 : a = 0
  · rw [if_pos z0]; show F_X6_count _ _ _; unfold F_X6_count; rw [if_pos z0]
    exact ⟨vp_in_nI (n := 1) (by decide) (by decide), y1, h⟩
  rw [if_neg z0]
  by_cases z1 : a = 1
  · rw [if_pos z1]; show F_X6_count _ _ _; unfold F_X6_count; rw [if_neg z0, if_pos z1]
    exact ⟨vp_in_nI (n := 4) (by decide) (by decide), y4, h⟩
  rw [if_neg z1]
  by_cases z2 : a = 2
  · rw [if_pos z2]; show F_X6_count _ _ _; unfold F_X6_count; rw [if_neg z0, if_neg z1, if_pos z2]
    exact ⟨vp_in_nI (n := 2) (by decide) (by decide), y2, h⟩
  rw [if_neg z2]
  by_cases z3 : a = 3
  · rw [if_pos z3]; show F_X6_count _ _ _; unfold F_X6_count; rw [if_neg z0, if_neg z1, if_neg z2, if_pos z3]
    exact ⟨vp_in_nI (n := 3) (by decide) (by decide), y3, h⟩
  rw [if_neg z3]
  by_cases z4 : a = 4
  · rw [if_pos z4]; show F_X6_count _ _ _; unfold F_X6_count; rw [if_neg z0, if_neg z1, if_neg z2, if_neg z3, if_pos z4]
    exact ⟨vp_in_nI (n := 7) (by decide) (by decide), y7, h⟩
  rw [if_neg z4]
  by_cases z5 : a = 5
  · rw [if_pos z5]; show F_X6_count _ _ _; unfold F_X6_count; rw [if_neg z0, if_neg z1, if_neg z2, if_neg z3, if_neg z4, if_pos z5]
    exact ⟨h.2.2.2.1.1, h⟩
  rw [if_neg z5]
  by_cases z6 : a = 6
  · rw [if_pos z6]; show F_X6_count _ _ _; unfold F_X6_count; rw [if_neg z0, if_neg z1, if_neg z2, if_neg z3, if_neg z4, if_neg z5, if_pos z6]
    exact ⟨h.2.2.1.1, h⟩
  rw [if_neg z6]
  by_cases z7 : a = 7
  · rw [if_pos z7]; show F_X6_count _ _ _; unfold F_X6_count; rw [if_neg z0, if_neg z1, if_neg z2, if_neg z3, if_neg z4, if_neg z5, if_neg z6, if_pos z7]
    exact ⟨vp_in_nI (n := 0) (by decide) (by decide), y0, h⟩
  rw [if_neg z7]
  show F_X6_count _ _ _
  unfold F_X6_count
  rw [if_neg z0, if_neg z1, if_neg z2, if_neg z3, if_neg z4, if_neg z5, if_neg z6, if_neg z7]
  exact ⟨rfl, h⟩
theorem v_why {σ : ovSt} (h : ovInv σ) (a : Int32) : F_X5_why a σ (fun r σ1 => F_X6_why a σ1 (fun r' σ2 => r = r' ∧ ovInv σ2)) := by
  unfold F_X5_why F_X5_why_38
  by_cases za : a < 0 ∨ 2 < a
  · rw [pu_no5 za, if_pos rfl]
    show F_X6_why _ _ _
    unfold F_X6_why
    rw [pu_no6 za, if_pos rfl]
    exact ⟨rfl, h⟩
  rw [pu_yes5 za, if_neg (by decide)]
  obtain ⟨x1, x2⟩ := pu_bt za
  have e0 : (0 : Int32).toInt = 0 := rfl
  have e2 : (2 : Int32).toInt = 2 := rfl
  obtain ⟨K, hK, eK⟩ := pu_ofInt (x := a) (b := 3) (by omega) (by omega) (by omega)
  subst eK
  refine ⟨vp_in_nI hK (by omega), ?_⟩
  rw [pu_cl (by omega), show σ 26 K = pu_law (σ 75) (nI K) from h.1.2.1.2.2 K hK]
  have hm : ∀ r, r = (if 0 ≤ pu_law (σ 75) (nI K) then pu_law (σ 75) (nI K) else -1000000005) → F_X6_why (nI K) σ (fun r' σ2 => r = r' ∧ ovInv σ2) := by
    intro r hr
    unfold F_X6_why F_X6_why_28
    rw [pu_yes6 za, if_neg (by decide)]
    obtain ⟨m, hm, h7, -⟩ := h.1.1.2.1
    refine p6_counts hm h7 ?_
    by_cases z : 0 ≤ pu_law (σ 75) (nI K)
    · rw [if_pos z] at hr ⊢
      exact ⟨hr, h⟩
    · rw [if_neg z] at hr ⊢
      exact ⟨hr, h⟩
  by_cases z : 0 ≤ pu_law (σ 75) (nI K)
  · rw [if_pos z]; exact hm _ (by rw [if_pos z])
  · rw [if_neg z]; exact hm _ (by rw [if_neg z])
theorem v_textTold {σ : ovSt} (h : ovInv σ) (a b : Int32) : F_X5_textTold a b σ (fun r σ1 => F_X6_textTold a b σ1 (fun r' σ2 => r = r' ∧ ovInv σ2)) := by
  have y7 : σ 21 13 = σ 75 7 := h.1.2.1.1.2.2.2.2.2.2.2
  unfold F_X5_textTold F_X5_textTold_26 F_X5_textTold_54
  rw [y7]
  by_cases za : a < 0 ∨ σ 75 7 - 1 < a
  · rw [pu_no5 za, if_pos rfl]
    show F_X6_textTold _ _ _ _
    unfold F_X6_textTold F_X6_textTold_26
    refine ⟨vp_in_nI (n := 7) (by decide) (by decide), ?_⟩
    rw [pu_no6 (show a < 0 ∨ σ 75 (Int32.toNatClampNeg 7) - 1 < a from za), if_pos rfl]
    exact ⟨rfl, h⟩
  rw [pu_yes5 za, if_neg (by decide)]
  by_cases zb : b < 0 ∨ 1 < b
  · rw [pu_no5 zb, if_pos rfl]
    show F_X6_textTold _ _ _ _
    unfold F_X6_textTold F_X6_textTold_26
    refine ⟨vp_in_nI (n := 7) (by decide) (by decide), ?_⟩
    rw [pu_yes6 (show ¬ (a < 0 ∨ σ 75 (Int32.toNatClampNeg 7) - 1 < a) from za), if_neg (by decide), pu_no6 zb, if_pos rfl]
    exact ⟨rfl, h⟩
  rw [pu_yes5 zb, if_neg (by decide)]
  obtain ⟨m, hm, h7, hT⟩ := h.1.1.2.1
  have hA : ∃ A, A < m ∧ a = nI A := by
    obtain ⟨x1, x2⟩ := pu_bt za
    have e0 : (0 : Int32).toInt = 0 := rfl
    have es := pk_sub_toInt (a := m) (b := 1) (by omega) (by decide)
    rw [h7, show (1 : Int32) = nI 1 from rfl, es] at x2
    obtain ⟨A, hA, eA⟩ := pu_ofInt (x := a) (b := m) (by omega) (by omega) (by omega)
    exact ⟨A, hA, eA⟩
  obtain ⟨A, hA, eA⟩ := hA
  subst eA
  obtain ⟨key, L, hTG⟩ := hT A hA
  obtain ⟨l1, l2, l3, -⟩ := h.1.2.2.1 A (by rw [h7, pu_cl (by omega)]; exact hA) key L hTG
  have ei : 40 + (2 * nI A) = nI (40 + 2 * A) := by rw [show (40 : Int32) = nI 40 from rfl, show (2 : Int32) = nI 2 from rfl, pk_mul, nI_add]
  by_cases z0 : b = 0
  · rw [if_pos z0]
    refine ⟨vp_in_nI (by omega) (by omega), ?_⟩
    rw [pu_cl (by omega)]
    show F_X6_textTold _ _ _ _
    unfold F_X6_textTold F_X6_textTold_64
    refine ⟨vp_in_nI (n := 7) (by decide) (by decide), ?_⟩
    rw [pu_yes6 (show ¬ (nI A < 0 ∨ σ 75 (Int32.toNatClampNeg 7) - 1 < nI A) from za), if_neg (by decide), pu_yes6 zb, if_neg (by decide), if_pos z0, ei, pu_cl (by omega)]
    refine ⟨vp_in_nI (by omega) (by omega), ?_, h⟩
    rw [l2, (pu_TG_len hTG).2]
  · rw [if_neg z0]
    refine ⟨vp_in_nI (by omega) (by omega), ?_⟩
    rw [pu_cl (by omega)]
    show F_X6_textTold _ _ _ _
    unfold F_X6_textTold F_X6_textTold_64
    refine ⟨vp_in_nI (n := 7) (by decide) (by decide), ?_⟩
    rw [pu_yes6 (show ¬ (nI A < 0 ∨ σ 75 (Int32.toNatClampNeg 7) - 1 < nI A) from za), if_neg (by decide), pu_yes6 zb, if_neg (by decide), if_neg z0, ei, nI_1, pu_cl (by omega)]
    exact ⟨vp_in_nI (by omega) (by omega), l3, h⟩
