/-! ===== the whole invariant ===== -/
def ovInv (σ : ovSt) : Prop := pu_I1 σ ∧ pu_I2 σ
theorem pu_I1.cg {σ σ' : ovSt} (h : pu_I1 σ) (ha : ∀ i, ((3 ≤ i ∧ i ≤ 19) ∨ (21 ≤ i ∧ i ≤ 26) ∨ i = 75) → σ' i = σ i) : pu_I1 σ' := by
  obtain ⟨h1, h2, h3, h4⟩ := h
  have e := ha 75 (by omega)
  unfold pu_I1
  rw [e]
  exact ⟨h1, h2.ag (fun i a b => ha i (by omega)), h3.ag h1 (fun i a b => ha i (by omega)), h4⟩
theorem ovInv.good {σ σ2 : ovSt} (h : ovInv σ) (hg : pu_good σ σ2) : ovInv σ2 := ⟨hg.1, hg.2 h.2⟩
theorem ovInv.eq {σ : ovSt} (h : ovInv σ) : pu_good σ = ovInv := funext (fun σ2 => propext ⟨fun q => h.good q, fun q => ⟨q.1, fun _ => q.2⟩⟩)
theorem ovInv.rf {σ : ovSt} (h : ovInv σ) : pu_good σ σ := pu_good.rf h.1
/-! verbs that only look -/
theorem v_count {σ : ovSt} (h : ovInv σ) (a : Int32) : F_X5_count a σ (fun r σ1 => F_X6_count a σ1 (fun r' σ2 => r = r' ∧ ovInv σ2)) := by
  obtain ⟨⟨y0, y1, y2, y3, y4, y5, y6, y7⟩, -⟩ := h.1.2.1
  unfold F_X5_count
  by_cases z0 : a = 0
  · rw [if_pos z0]; show F_X6_count _ _ _; unfold F_X6_count; rw [if_pos z0]
    exact ⟨vp_in_nI (n := 1) (by decide) (by decide), y1, h⟩
  rw [if_neg z0]
  by_cases z1 : a = 1
  · rw [if_pos z1]; show F_X6_count _ _ _; unfold F_X6_count; rw [if_neg z0, if_pos z1]
    exact ⟨vp_in_nI (n := 4) (by decide) (by decide), y4, h⟩
  rw [if_neg z1]
  by_cases z2 : a = 2
  · rw [if_pos z2]; show F_X6_count _ _ _; unfold F_X6_count; rw [if_neg z0, if_neg z1, if_pos z2]
    exact ⟨vp_in_nI (n := 2) (by decide) (by decide), y2, h⟩
  rw [if_neg z2]
  by_cases z3 : a = 3
  · rw [if_pos z3]; show F_X6_count _ _ _; unfold F_X6_count; rw [if_neg z0, if_neg z1, if_neg z2, if_pos z3]
    exact ⟨vp_in_nI (n := 3) (by decide) (by decide), y3, h⟩
  rw [if_neg z3]
  by_cases z4 : a = 4
  · rw [if_pos z4]; show F_X6_count _ _ _; unfold F_X6_count; rw [if_neg z0, if_neg z1, if_neg z2, if_neg z3, if_pos z4]
    exact ⟨vp_in_nI (n := 7) (by decide) (by decide), y7, h⟩
  rw [if_neg z4]
  by_cases z5 : a = 5
  · rw [if_pos z5]; show F_X6_count _ _ _; unfold F_X6_count; rw [if_neg z0, if_neg z1, if_neg z2, if_neg z3, if_neg z4, if_pos z5]
    exact ⟨h.2.2.2.1.1, h⟩
  rw [if_neg z5]
  by_cases z6 : a = 6
  · rw [if_pos z6]; show F_X6_count _ _ _; unfold F_X6_count; rw [if_neg z0, if_neg z1, if_neg z2, if_neg z3, if_neg z4, if_neg z5, if_pos z6]
    exact ⟨h.2.2.1.1, h⟩
  rw [if_neg z6]
  by_cases z7 : a = 7
  · rw [if_pos z7]; show F_X6_count _ _ _; unfold F_X6_count; rw [if_neg z0, if_neg z1, if_neg z2, if_neg z3, if_neg z4, if_neg z5, if_neg z6, if_pos z7]
    exact ⟨vp_in_nI (n := 0) (by decide) (by decide), y0, h⟩
  rw [if_neg z7]
  show F_X6_count _ _ _
  unfold F_X6_count
  rw [if_neg z0, if_neg z1, if_neg z2, if_neg z3, if_neg z4, if_neg z5, if_neg z6, if_neg z7]
  exact ⟨rfl, h⟩
theorem v_why {σ : ovSt} (h : ovInv σ) (a : Int32) : F_X5_why a σ (fun r σ1 => F_X6_why a σ1 (fun r' σ2 => r = r' ∧ ovInv σ2)) := by
  unfold F_X5_why F_X5_why_38
  by_cases za : a < 0 ∨ 2 < a
  · rw [pu_no5 za, if_pos rfl]
    show F_X6_why _ _ _
    unfold F_X6_why
    rw [pu_no6 za, if_pos rfl]
    exact ⟨rfl, h⟩
  rw [pu_yes5 za, if_neg (by decide)]
  obtain ⟨x1, x2⟩ := pu_bt za
  have e0 : (0 : Int32).toInt = 0 := rfl
  have e2 : (2 : Int32).toInt = 2 := rfl
  obtain ⟨K, hK, eK⟩ := pu_ofInt (x := a) (b := 3) (by omega) (by omega) (by omega)
  subst eK
  refine ⟨vp_in_nI hK (by omega), ?_⟩
  rw [pu_cl (by omega), show σ 26 K = pu_law (σ 75) (nI K) from h.1.2.1.2.2 K hK]
  have hm : ∀ r, r = (if 0 ≤ pu_law (σ 75) (nI K) then pu_law (σ 75) (nI K) else -1000000005) → F_X6_why (nI K) σ (fun r' σ2 => r = r' ∧ ovInv σ2) := by
    intro r hr
    unfold F_X6_why F_X6_why_28
    rw [pu_yes6 za, if_neg (by decide)]
    obtain ⟨m, hm, h7, -⟩ := h.1.1.2.1
    refine p6_counts hm h7 ?_
    by_cases z : 0 ≤ pu_law (σ 75) (nI K)
    · rw [if_pos z] at hr ⊢
      exact ⟨hr, h⟩
    · rw [if_neg z] at hr ⊢
      exact ⟨hr, h⟩
  by_cases z : 0 ≤ pu_law (σ 75) (nI K)
  · rw [if_pos z]; exact hm _ (by rw [if_pos z])
  · rw [if_neg z]; exact hm _ (by rw [if_neg z])
theorem v_textTold {σ : ovSt} (h : ovInv σ) (a b : Int32) : F_X5_textTold a b σ (fun r σ1 => F_X6_textTold a b σ1 (fun r' σ2 => r = r' ∧ ovInv σ2)) := by
  have y7 : σ 21 13 = σ 75 7 := h.1.2.1.1.2.2.2.2.2.2.2
  unfold F_X5_textTold F_X5_textTold_26 F_X5_textTold_54
  rw [y7]
  by_cases za : a < 0 ∨ σ 75 7 - 1 < a
  · rw [pu_no5 za, if_pos rfl]
    show F_X6_textTold _ _ _ _
    unfold F_X6_textTold F_X6_textTold_26
    refine ⟨vp_in_nI (n := 7) (by decide) (by decide), ?_⟩
    rw [pu_no6 (show a < 0 ∨ σ 75 (Int32.toNatClampNeg 7) - 1 < a from za), if_pos rfl]
    exact ⟨rfl, h⟩
  rw [pu_yes5 za, if_neg (by decide)]
  by_cases zb : b < 0 ∨ 1 < b
  · rw [pu_no5 zb, if_pos rfl]
    show F_X6_textTold _ _ _ _
    unfold F_X6_textTold F_X6_textTold_26
    refine ⟨vp_in_nI (n := 7) (by decide) (by decide), ?_⟩
    rw [pu_yes6 (show ¬ (a < 0 ∨ σ 75 (Int32.toNatClampNeg 7) - 1 < a) from za), if_neg (by decide), pu_no6 zb, if_pos rfl]
    exact ⟨rfl, h⟩
  rw [pu_yes5 zb, if_neg (by decide)]
  obtain ⟨m, hm, h7, hT⟩ := h.1.1.2.1
  have hA : ∃ A, A < m ∧ a = nI A := by
    obtain ⟨x1, x2⟩ := pu_bt za
    have e0 : (0 : Int32).toInt = 0 := rfl
    have es := pk_sub_toInt (a := m) (b := 1) (by omega) (by decide)
    rw [h7, show (1 : Int32) = nI 1 from rfl, es] at x2
    obtain ⟨A, hA, eA⟩ := pu_ofInt (x := a) (b := m) (by omega) (by omega) (by omega)
    exact ⟨A, hA, eA⟩
  obtain ⟨A, hA, eA⟩ := hA
  subst eA
  obtain ⟨key, L, hTG⟩ := hT A hA
  obtain ⟨l1, l2, l3, -⟩ := h.1.2.2.1 A (by rw [h7, pu_cl (by omega)]; exact hA) key L hTG
  have ei : 40 + (2 * nI A) = nI (40 + 2 * A) := by rw [show (40 : Int32) = nI 40 from rfl, show (2 : Int32) = nI 2 from rfl, pk_mul, nI_add]
  by_cases z0 : b = 0
  · rw [if_pos z0]
    refine ⟨vp_in_nI (by omega) (by omega), ?_⟩
    rw [pu_cl (by omega)]
    show F_X6_textTold _ _ _ _
    unfold F_X6_textTold F_X6_textTold_64
    refine ⟨vp_in_nI (n := 7) (by decide) (by decide), ?_⟩
    rw [pu_yes6 (show ¬ (nI A < 0 ∨ σ 75 (Int32.toNatClampNeg 7) - 1 < nI A) from za), if_neg (by decide), pu_yes6 zb, if_neg (by decide), if_pos z0, ei, pu_cl (by omega)]
    refine ⟨vp_in_nI (by omega) (by omega), ?_, h⟩
    rw [l2, (pu_TG_len hTG).2]
  · rw [if_neg z0]
    refine ⟨vp_in_nI (by omega) (by omega), ?_⟩
    rw [pu_cl (by omega)]
    show F_X6_textTold _ _ _ _
    unfold F_X6_textTold F_X6_textTold_64
    refine ⟨vp_in_nI (n := 7) (by decide) (by decide), ?_⟩
    rw [pu_yes6 (show ¬ (nI A < 0 ∨ σ 75 (Int32.toNatClampNeg 7) - 1 < nI A) from za), if_neg (by decide), pu_yes6 zb, if_neg (by decide), if_neg z0, ei, nI_1, pu_cl (by omega)]
    exact ⟨vp_in_nI (by omega) (by omega), l3, h⟩
