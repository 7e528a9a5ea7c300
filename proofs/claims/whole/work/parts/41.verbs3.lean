/-! ===== a stock becomes another; days, lot, behind ===== -/
theorem pu_ag.row {X : Nat → Prop} {a b : ovSt} {i : Nat} {f : Nat → Int32} (h : pu_ag X a b) (hi : X i) : pu_ag X a (ov_row b i f) := fun j hj => by
  rw [pu_row_ne (fun z => hj (by rw [z]; exact hi))]; exact h j hj
theorem pu_cpy {f g : Nat → Int32} {n t : Nat} (ht : t < n) : va_cpy f g 0 0 n t = f t := by
  unfold va_cpy
  rw [if_pos (by omega), show 0 + (t - 0) = t by omega]
theorem p3_become {s s1 : Nat} (hs : ov_stk s) (hs1 : ov_stk s1) (hne : s ≠ s1) {g : Nat → Int32} {σ : ovSt} (hR : pu_RS σ s1 g) {k : ovSt → Prop} (h : ∀ σ', pu_ag (pu_stX s) σ σ' → pu_RS σ' s g → k σ') : F_X3_become s s1 σ k := by
  have d : s + 6 ≤ s1 ∨ s1 + 6 ≤ s := by
    rcases hs with a | a | a | a <;> rcases hs1 with b | b | b | b <;> omega
  unfold F_X3_become
  refine ⟨hs, hs1, by decide, ?_⟩
  intro σ2 e2 σ3 e3 σ4 e4 σ5 e5
  refine ⟨by decide, ?_⟩
  intro σ7 e7 σ8 e8 σ9 e9 σ10 e10 σ11 e11 σ12 e12 σ13 e13 σ14 e14 σ15 e15
  have a2 : pu_ag (pu_stX s) σ σ2 := by rw [e2]; exact pu_ag.row (pu_ag.rf _ σ) (by unfold pu_stX; omega)
  have a3 : pu_ag (pu_stX s) σ σ3 := by rw [e3]; exact pu_ag.row a2 (by unfold pu_stX; omega)
  have a4 : pu_ag (pu_stX s) σ σ4 := by rw [e4]; exact pu_ag.row a3 (by unfold pu_stX; omega)
  have a5 : pu_ag (pu_stX s) σ σ5 := by rw [e5]; exact pu_ag.row a4 (by unfold pu_stX; omega)
  have a7 : pu_ag (pu_stX s) σ σ7 := by rw [e7]; exact pu_ag.row a5 (by unfold pu_stX; omega)
  have a8 : pu_ag (pu_stX s) σ σ8 := by rw [e8]; exact pu_ag.up a7 (by unfold pu_stX; omega)
  have a9 : pu_ag (pu_stX s) σ σ9 := by rw [e9]; exact pu_ag.up a8 (by unfold pu_stX; omega)
  have a10 : pu_ag (pu_stX s) σ σ10 := by rw [e10]; exact pu_ag.up a9 (by unfold pu_stX; omega)
  have a11 : pu_ag (pu_stX s) σ σ11 := by rw [e11]; exact pu_ag.up a10 (by unfold pu_stX; omega)
  have a12 : pu_ag (pu_stX s) σ σ12 := by rw [e12]; exact pu_ag.up a11 (by unfold pu_stX; omega)
  have a13 : pu_ag (pu_stX s) σ σ13 := by rw [e13]; exact pu_ag.up a12 (by unfold pu_stX; omega)
  have a14 : pu_ag (pu_stX s) σ σ14 := by rw [e14]; exact pu_ag.up a13 (by unfold pu_stX; omega)
  have a15 : pu_ag (pu_stX s) σ σ15 := by rw [e15]; exact pu_ag.up a14 (by unfold pu_stX; omega)
  have nx : ¬ pu_stX s s1 := by unfold pu_stX; omega
  have up : ∀ j, 1 ≤ j → σ15 (s + j) = σ7 (s + j) := by
    intro j hj
    rw [e15, pu_up_ne (by omega), e14, pu_up_ne (by omega), e13, pu_up_ne (by omega), e12, pu_up_ne (by omega), e11, pu_up_ne (by omega), e10, pu_up_ne (by omega), e9, pu_up_ne (by omega), e8, pu_up_ne (by omega)]
  refine h σ15 a15 ⟨?_, fun t ht => ?_, fun key hk => ?_⟩
  · obtain ⟨y0, y1, y2, y3, y4, y5, y6, y7⟩ := hR.1
    refine ⟨?_, ?_, ?_, ?_, ?_, ?_, ?_, ?_⟩
    · rw [e15, pu_up_same, pu_un (by omega), e14, pu_up_same, pu_ue, a13 s1 nx, y0]
    · rw [e15, pu_up_same, pu_un (by omega), e14, pu_up_same, pu_un (by omega), e13, pu_up_same, pu_un (by omega), e12, pu_up_same, pu_un (by omega), e11, pu_up_same, pu_un (by omega), e10, pu_up_same, pu_un (by omega), e9, pu_up_same, pu_un (by omega), e8, pu_up_same, pu_ue, a7 s1 nx, y1]
    · rw [e15, pu_up_same, pu_un (by omega), e14, pu_up_same, pu_un (by omega), e13, pu_up_same, pu_un (by omega), e12, pu_up_same, pu_un (by omega), e11, pu_up_same, pu_un (by omega), e10, pu_up_same, pu_un (by omega), e9, pu_up_same, pu_ue, a8 s1 nx, y2]
    · rw [e15, pu_up_same, pu_un (by omega), e14, pu_up_same, pu_un (by omega), e13, pu_up_same, pu_un (by omega), e12, pu_up_same, pu_un (by omega), e11, pu_up_same, pu_un (by omega), e10, pu_up_same, pu_ue, a9 s1 nx, y3]
    · rw [e15, pu_up_same, pu_un (by omega), e14, pu_up_same, pu_un (by omega), e13, pu_up_same, pu_un (by omega), e12, pu_up_same, pu_un (by omega), e11, pu_up_same, pu_ue, a10 s1 nx, y4]
    · rw [e15, pu_up_same, pu_un (by omega), e14, pu_up_same, pu_un (by omega), e13, pu_up_same, pu_un (by omega), e12, pu_up_same, pu_ue, a11 s1 nx, y5]
    · rw [e15, pu_up_same, pu_un (by omega), e14, pu_up_same, pu_un (by omega), e13, pu_up_same, pu_ue, a12 s1 nx, y6]
    · rw [e15, pu_up_same, pu_ue, a14 s1 nx, y7]
  · obtain ⟨z0, z1, z2, z3⟩ := hR.2.1 t ht
    refine ⟨?_, ?_, ?_, ?_⟩
    · rw [up 1 (by omega), e7, pu_row_ne (by omega), e5, pu_row_ne (by omega), e4, pu_row_ne (by omega), e3, pu_row_ne (by omega), e2, pu_row_same]
      exact (pu_cpy ht).trans z0
    · rw [up 2 (by omega), e7, pu_row_ne (by omega), e5, pu_row_ne (by omega), e4, pu_row_ne (by omega), e3, pu_row_same, a2 (s1 + 2) (by unfold pu_stX; omega)]
      exact (pu_cpy ht).trans z1
    · rw [up 3 (by omega), e7, pu_row_ne (by omega), e5, pu_row_ne (by omega), e4, pu_row_same, a3 (s1 + 3) (by unfold pu_stX; omega)]
      exact (pu_cpy ht).trans z2
    · rw [up 4 (by omega), e7, pu_row_ne (by omega), e5, pu_row_same, a4 (s1 + 4) (by unfold pu_stX; omega)]
      exact (pu_cpy ht).trans z3
  · rw [up 5 (by omega), e7, pu_row_same, a5 (s1 + 5) (by unfold pu_stX; omega)]
    exact (pu_cpy hk).trans (hR.2.2 key hk)
theorem pu_dn_4 {g : Nat → Int32} (d : Nat) (hd : g 4 = nI d) : ∀ (n : Nat), pu_dn g n 4 = nI (d + n)
  | 0 => hd
  | n + 1 => by
    have hD : ∀ (r : Nat → Int32) (m : Nat), pu_itD r m 4 = r 4 := by
      intro r m
      induction m with
      | zero => rfl
      | succ m ih =>
        show pu_W1 (pu_E1 (pu_itD r m) m) m 4 = r 4
        rw [pu_W1_at (by omega) (by omega) (by omega), pu_E1_at (by omega) (by omega), ih]
    show pu_day (pu_dn g n) 4 = nI (d + (n + 1))
    unfold pu_day
    rw [pu_ue, hD, pu_dn_4 d hd n, ← nI_succ]
    rfl
theorem pu_min_nI {a b : Nat} (ha : a < 2 ^ 31) (hb : b < 2 ^ 31) : ov_min (nI a) (nI b) = nI (min a b) := by
  unfold ov_min
  by_cases z : b < a
  · rw [if_pos (nI_lt z ha)]; congr 1; omega
  · rw [if_neg (by rw [nI_ltI hb ha]; exact z)]; congr 1; omega
theorem v_days {σ : ovSt} (h : pu_I1 σ) (a : Int32) : F_X5_days a σ (fun r σ1 => F_X6_days a σ1 (fun r' σ2 => r = r' ∧ pu_good σ σ2)) := by
  unfold F_X5_days
  by_cases za : a < 1 ∨ 300 < a
  · rw [pu_no5 za, if_pos rfl]
    show F_X6_days _ _ _
    unfold F_X6_days
    rw [pu_no6 za, if_pos rfl]
    exact ⟨rfl, pu_good.rf h⟩
  · rw [pu_yes5 za, if_neg (by decide), h.2.1.1.2.2.2.2.1]
    obtain ⟨x1, x2⟩ := pu_bt za
    obtain ⟨d1, d2⟩ := h.2.2.2
    have e1 : (1 : Int32).toInt = 1 := rfl
    have e300 : (300 : Int32).toInt = 300 := rfl
    have e9 : (9999 : Int32).toInt = 9999 := rfl
    have es := fb_subI (x := 9999) (y := σ 75 4) (by omega) (by omega)
    obtain ⟨A, hA, eA⟩ := pu_ofInt (x := a) (b := 301) (by omega) (by omega) (by omega)
    obtain ⟨D, hD, eD⟩ := pu_ofInt (x := σ 75 4) (b := 10000) (by omega) (by omega) (by omega)
    have e4 : 9999 - σ 75 4 = nI (9999 - D) := by rw [eD]; exact pk_sub (a := 9999) (by omega)
    have N : ∃ N, N ≤ 300 ∧ D + N ≤ 9999 ∧ ov_min a (9999 - σ 75 4) = nI N ∧ pu_within (9999 - σ 75 4) 0 a = nI N := by
      rw [e4, eA]
      have hw : pu_within (nI (9999 - D)) 0 (nI A) = ov_min (nI (9999 - D)) (nI A) := (pu_min_within (by rw [nI_toInt (by omega)]; omega)).symm
      rw [hw]
      rw [pu_min_nI (by omega) (by omega), pu_min_nI (by omega) (by omega)]
      exact ⟨min A (9999 - D), by omega, by omega, rfl, by rw [Nat.min_comm]⟩
    obtain ⟨N, hN, hDN, n5, n6⟩ := N
    rw [n5]
    refine p3_passDays pu_s21 h.1 (by omega) h.2.1 (fun σ1 ha hR1 => ?_)
    have hW := pu_WG_dn h.1 N
    have hT := pu_tx_dn h.1 N
    have hL1 : pu_LS σ1 (pu_dn (σ 75) N) := pu_tx_LS hT (h.2.2.1.ag h.1 (fun i b c => ha i (by unfold pu_stX; omega)))
    refine p3_tasteOfAll pu_s21 hW hR1 hL1 (fun σ2 hb => ?_)
    have s2 : σ2 75 = σ 75 := (hb 75 (by decide)).trans (ha 75 (by unfold pu_stX; omega))
    show F_X6_days _ _ _
    unfold F_X6_days
    rw [pu_yes6 za, if_neg (by decide)]
    refine ⟨vp_in_nI (n := 4) (by decide) (by decide), ?_⟩
    rw [show σ2 75 (Int32.toNatClampNeg 4) = σ 75 4 from by rw [s2]; rfl, e6_within, n6]
    refine p6_goesOn (by rw [s2]; exact h.1) (by omega) (fun σ3 hc e3 => ?_)
    rw [s2] at e3
    refine p6_tasteAll (by rw [e3]; exact hW) (fun σ4 hd => ?_)
    have s4 : σ4 75 = pu_dn (σ 75) N := (hd 75 (by decide)).trans e3
    refine ⟨by rw [e3], pu_good.mk h _ s4 ?_ hW ?_ hT ?_⟩
    · exact (((ha.mono (fun i hi => by unfold pu_stX at hi; unfold pu_XS; omega)).tr (hb.mono (fun i hi => by unfold pu_XS; omega))).tr (hc.mono (fun i hi => by unfold pu_XS; omega))).tr (hd.mono (fun i hi => by unfold pu_XS; omega))
    · refine hR1.ag (fun i b c => ?_)
      rw [hd i (by omega), hc i (by omega), hb i (by omega)]
    · rw [pu_dn_4 D eD N]
      unfold pu_in
      rw [nI_toInt (by omega)]
      omega
