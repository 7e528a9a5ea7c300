/-! ===== lot, behind, toss, set, as ===== -/
def pu_XU (i : Nat) : Prop := pu_XT i ∨ i = 75
theorem pu_good.back {σ σ2 : ovSt} (h : pu_I1 σ) (ha : pu_ag pu_XU σ σ2) (e : σ2 75 = σ 75) : pu_good σ σ2 :=
  pu_good.sc h (fun i hi => by
    by_cases z : i = 75
    · rw [z]; exact e
    · exact ha i (fun q => q.elim hi z))
theorem pu_ag.u20 {σ σ' : ovSt} (h : pu_ag (fun i => i = 20) σ σ') : pu_ag pu_XU σ σ' := h.mono (fun i hi => by unfold pu_XU pu_XT; omega)
theorem pu_ag.u78 {σ σ' : ovSt} (h : pu_ag (fun i => i = 78) σ σ') : pu_ag pu_XU σ σ' := h.mono (fun i hi => by unfold pu_XU pu_XT; omega)
theorem pu_ag.u75 {σ σ' : ovSt} (h : pu_ag (fun i => i = 75) σ σ') : pu_ag pu_XU σ σ' := h.mono (fun i hi => by unfold pu_XU pu_XT; omega)
theorem pu_ag.u87 {σ σ' : ovSt} (h : pu_ag (fun i => i = 87 ∨ i = 88) σ σ') : pu_ag pu_XU σ σ' := h.mono (fun i hi => by unfold pu_XU pu_XT; omega)
theorem pu_ag.u33 {σ σ' : ovSt} (h : pu_ag (pu_stX 33) σ σ') : pu_ag pu_XU σ σ' := h.mono (fun i hi => by unfold pu_stX at hi; unfold pu_XU pu_XT; omega)
theorem pu_ag.u39 {σ σ' : ovSt} (h : pu_ag (pu_stX 39) σ σ') : pu_ag pu_XU σ σ' := h.mono (fun i hi => by unfold pu_stX at hi; unfold pu_XU pu_XT; omega)
def pu_lot (g : Nat → Int32) : Int32 := if 0 ≤ pu_law g 2 then pu_text g (pu_law g 2).toNatClampNeg (g 4) (pu_tall g) 0 else 0
theorem v_lot {σ : ovSt} (h : pu_I1 σ) : F_X5_lot σ (fun r σ1 => F_X6_lot σ1 (fun r' σ2 => r = r' ∧ pu_good σ σ2)) := by
  have hm : ∀ σ1, pu_ag (fun i => i = 20) σ σ1 → F_X6_lot σ1 (fun r' σ2 => pu_lot (σ 75) = r' ∧ pu_good σ σ2) := by
    intro σ1 ha
    have e1 : σ1 75 = σ 75 := ha 75 (by decide)
    unfold F_X6_lot
    obtain ⟨m, hm, h7, hT⟩ := h.1.2.1
    refine p6_counts hm (by rw [e1]; exact h7) ?_
    rw [e1]
    refine p6_tasteAll (by rw [e1]; exact h.1) (fun σ2 hb => ?_)
    have e2 : σ2 75 = σ 75 := (hb 75 (by decide)).trans e1
    refine ⟨vp_in_nI (n := 4) (by decide) (by decide), vp_in_nI (n := 0) (by decide) (by decide), ?_⟩
    intro σ3 e3
    refine ⟨vp_in_nI (n := 1) (by decide) (by decide), ?_⟩
    intro σ4 e4
    have a3 : pu_ag (fun i => i = 87 ∨ i = 88) σ1 σ3 := by rw [e3]; exact pu_ag.up hb (Or.inr rfl)
    have a4 : pu_ag (fun i => i = 87 ∨ i = 88) σ1 σ4 := by rw [e4]; exact pu_ag.up a3 (Or.inr rfl)
    have g4 : σ4 75 = σ 75 := (a4 75 (by decide)).trans e1
    unfold F_X6_lot_43 pu_lot
    rcases pu_law_in h.1 2 (by decide) with q | ⟨x, L, hx, hxm, q, hTG⟩
    · have q : pu_law (σ 75) 2 = -1 := q
      rw [q, if_neg pu_m1]
      exact ⟨rfl, pu_scr h ha a4⟩
    · have q : pu_law (σ 75) 2 = nI x := q
      rw [q, if_pos (nI_pos' (by omega))]
      refine p6_worksOut (t := x) (key := 2) (L := L) hx (by rw [g4]; exact hTG) (a := σ 75 4) (b := pu_tall (σ 75)) (c := 0) ?_ ?_ (fun z => absurd z (by decide)) (fun σ' hc => ?_)
      · rw [e4, pu_up_same, e3, pu_up_same, e2]; rfl
      · rw [e4, pu_up_same, e1]; rfl
      · rw [if_pos (nI_pos' (by omega)), pu_cl (by omega), g4]
        exact ⟨rfl, pu_scr h ha (a4.tr (hc.mono (fun i hi => Or.inl hi)))⟩
  unfold F_X5_lot F_X5_lot_41
  refine ⟨vp_in_nI (n := 2) (by decide) (by decide), ?_⟩
  intro v hv
  rw [show σ 26 (Int32.toNatClampNeg 2) = pu_law (σ 75) 2 from h.2.1.2.2 2 (by decide)] at hv
  subst hv
  unfold pu_lot at hm
  rcases pu_law_in h.1 2 (by decide) with q | ⟨x, L, hx, hxm, q, hTG⟩
  · have q : pu_law (σ 75) 2 = -1 := q
    rw [q] at hm ⊢
    rw [if_neg pu_m1] at hm ⊢
    exact hm σ (pu_ag.rf _ σ)
  · have q : pu_law (σ 75) 2 = nI x := q
    rw [q] at hm ⊢
    rw [if_pos (nI_pos' (by omega))] at hm ⊢
    rw [pu_cl (by omega)] at hm
    refine p3_tasteOfAll pu_s21 h.1 h.2.1 h.2.2.1 (fun σ1 ha => ?_)
    rw [h.2.1.1.2.2.2.2.1]
    exact p0_workOut hx hxm hTG (h.2.2.1.ag h.1 (fun i b c => ha i (by omega))) (fun σ2 hb => hm σ2 (ha.tr hb))
theorem v_behind {σ : ovSt} (h : pu_I1 σ) (a b c : Int32) : F_X5_behind a b c σ (fun r σ1 => F_X6_behind a b c σ1 (fun r' σ2 => r = r' ∧ pu_good σ σ2)) := by
  unfold F_X5_behind F_X5_behind_31
  rcases pu_hasx h.1 a with ha | ⟨t, ht, ht8, ea⟩
  · rw [e3_has_no pu_s21 h.2.1 ha, if_pos rfl]
    show F_X6_behind _ _ _ _ _
    unfold F_X6_behind F_X6_behind_28
    rw [e6_isThing_no h.1 ha, if_pos rfl]
    exact ⟨rfl, pu_good.rf h⟩
  · subst ea
    rw [e3_has_yes pu_s21 h.1 h.2.1 ht, if_neg (by decide)]
    by_cases zb : b < 0 ∨ 300 < b
    · rw [pu_no5 zb, if_pos rfl]
      show F_X6_behind _ _ _ _ _
      unfold F_X6_behind F_X6_behind_28
      rw [e6_isThing_yes h.1 ht, if_neg (by decide), pu_no6 zb, if_pos rfl]
      exact ⟨rfl, pu_good.rf h⟩
    rw [pu_yes5 zb, if_neg (by decide)]
    by_cases zc : c < 0 ∨ 3 < c
    · rw [pu_no5 zc, if_pos rfl]
      show F_X6_behind _ _ _ _ _
      unfold F_X6_behind F_X6_behind_28
      rw [e6_isThing_yes h.1 ht, if_neg (by decide), pu_yes6 zb, if_neg (by decide), pu_no6 zc, if_pos rfl]
      exact ⟨rfl, pu_good.rf h⟩
    rw [pu_yes5 zc, if_neg (by decide)]
    have hbt := pu_bt zb
    have e300 : (300 : Int32).toInt = 300 := rfl
    have e00 : (0 : Int32).toInt = 0 := rfl
    obtain ⟨N, hN, eN⟩ := pu_ofInt (x := b) (b := 301) (by have := hbt.1; omega) (by have := hbt.2; omega) (by omega)
    subst eN
    have hW := pu_WG_dn h.1 N
    have hT := pu_tx_dn h.1 N
    refine p3_become pu_s33 pu_s21 (by decide) h.2.1 (fun σ1 h1 hR1 => ?_)
    refine p3_passDays pu_s33 h.1 (by omega) hR1 (fun σ2 h2 hR2 => ?_)
    have hL2 : pu_LS σ2 (pu_dn (σ 75) N) := pu_tx_LS hT (h.2.2.1.ag h.1 (fun i x y => by rw [h2 i (by unfold pu_stX; omega), h1 i (by unfold pu_stX; omega)]))
    have hm : ∀ σ3 r, pu_ag pu_XU σ σ3 → σ3 75 = σ 75 → (∀ σ4, σ4 75 = pu_dn (σ 75) N → (∀ σ5, pu_ag (fun i => i = 87 ∨ i = 88) σ4 σ5 → F_X6_behind_84 (fun r' σ2 => r = r' ∧ pu_good σ σ2) r σ5) → (if c = 0 then F_X6_of (nI t) 2 σ4 (fun v18 σ19 => (F_X6_behind_84 (fun r' σ2 => r = r' ∧ pu_good σ σ2) v18 σ19)) else (if c = (1 : Int32) then (F_X6_tasteOf (nI t) σ4 (fun v16 σ17 => (F_X6_behind_84 (fun r' σ2 => r = r' ∧ pu_good σ σ2) v16 σ17))) else (if c = (2 : Int32) then (F_X6_tasteAll σ4 (fun v14 σ15 => (F_X6_behind_84 (fun r' σ2 => r = r' ∧ pu_good σ σ2) v14 σ15))) else (vp_in 5 1412 ∧ (F_X6_behind_84 (fun r' σ2 => r = r' ∧ pu_good σ σ2) (σ4 75 (Int32.toNatClampNeg 5)) σ4)))))) → F_X6_behind (nI t) (nI N) c σ3 (fun r' σ2 => r = r' ∧ pu_good σ σ2) := by
      intro σ3 r h3 e3 hx
      unfold F_X6_behind
      rw [e6_isThing_yes (by rw [e3]; exact h.1) (by rw [e3]; exact ht), if_neg (by decide), pu_yes6 zb, if_neg (by decide), pu_yes6 zc, if_neg (by decide)]
      refine p6_thinks (fun σ4 h4 e4 => ?_)
      have f4 : σ4 75 = σ 75 := (h4 75 (by decide)).trans e3
      refine p6_goesOn (by rw [f4]; exact h.1) (by omega) (fun σ5 h5 e5 => ?_)
      rw [f4] at e5
      refine hx σ5 e5 (fun σ6 h6 => ?_)
      unfold F_X6_behind_84
      refine p6_putsBack (fun σ7 h7 e7 => ?_)
      refine ⟨rfl, pu_good.back h ((((h3.tr h4.u78).tr h5.u75).tr h6.u87).tr h7.u75) ?_⟩
      rw [e7, h6 75 (by decide), e5, h6 78 (by decide), h5 78 (by decide), e4, e3]
      exact pu_ov_back hT
    have u2 : pu_ag pu_XU σ σ2 := h1.u33.tr h2.u33
    have f2 : σ2 75 = σ 75 := (h2 75 (by unfold pu_stX; omega)).trans (h1 75 (by unfold pu_stX; omega))
    by_cases c0 : c = 0
    · rw [if_pos c0]
      refine ⟨vp_in_nI ht8 (by omega), ?_⟩
      rw [pu_cl (by omega)]
      refine hm σ2 _ u2 f2 (fun σ4 e4 hk => ?_)
      rw [if_pos c0, e6_of2 ht8, e4, ← (hR2.2.1 t ht8).2.2.1]
      exact hk σ4 (pu_ag.rf _ _)
    rw [if_neg c0]
    by_cases c1 : c = 1
    · rw [if_pos c1]
      refine p3_tasteOf pu_s33 ht8 hW hR2 hL2 (fun σ3 h3 => ?_)
      refine hm σ3 _ (u2.tr h3.u20) ((h3 75 (by decide)).trans f2) (fun σ4 e4 hk => ?_)
      rw [if_neg c0, if_pos c1]
      refine p6_tasteOf (by rw [e4]; exact hW) ht8 (fun σ5 h5 => ?_)
      rw [e4]
      exact hk σ5 h5
    rw [if_neg c1]
    by_cases c2 : c = 2
    · rw [if_pos c2]
      refine p3_tasteOfAll pu_s33 hW hR2 hL2 (fun σ3 h3 => ?_)
      refine hm σ3 _ (u2.tr h3.u20) ((h3 75 (by decide)).trans f2) (fun σ4 e4 hk => ?_)
      rw [if_neg c0, if_neg c1, if_pos c2]
      refine p6_tasteAll (by rw [e4]; exact hW) (fun σ5 h5 => ?_)
      rw [e4]
      exact hk σ5 h5
    rw [if_neg c2]
    refine hm σ2 _ u2 f2 (fun σ4 e4 hk => ?_)
    rw [if_neg c0, if_neg c1, if_neg c2]
    refine ⟨vp_in_nI (n := 5) (by decide) (by decide), ?_⟩
    rw [show σ4 75 (Int32.toNatClampNeg 5) = σ2 33 10 from by rw [e4]; exact hR2.1.2.2.2.2.2.1.symm]
    exact hk σ4 (pu_ag.rf _ _)
