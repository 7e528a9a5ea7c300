def pu_dl (g : Nat → Int32) : Nat → Nat → Int32
  | 0 => g
  | j + 1 => pu_dr (pu_dl g j)
theorem pu_dl_ok {g : Nat → Int32} (hg : pu_WG g) : ∀ (j : Nat), pu_n g + j ≤ 8 → pu_WG (pu_dl g j) ∧ pu_n (pu_dl g j) = pu_n g + j ∧ pu_tx g (pu_dl g j) ∧ pu_dl g j 4 = g 4
  | 0, _ => ⟨hg, rfl, pu_tx.rf g, rfl⟩
  | j + 1, h => by
    obtain ⟨h1, h2, h3, h4⟩ := pu_dl_ok hg j (by omega)
    have hn : pu_n (pu_dl g j) < 8 := by omega
    refine ⟨pu_WG_dr h1 hn, ?_, h3.tr (pu_tx_dr hn), ?_⟩
    · show pu_n (pu_dr (pu_dl g j)) = _
      rw [pu_n_dr hn, h2]; omega
    · show pu_dr (pu_dl g j) 4 = g 4
      unfold pu_dr pu_addr
      rw [pu_un (by omega), pu_un (by omega), pu_un (by omega), pu_un (by omega), pu_un (by omega), pu_un (by omega)]
      exact h4
theorem p5_deal_loop {k : Int32 → ovSt → Prop} {g : Nat → Int32} (hg : pu_WG g) {M : Nat} (hM : pu_n g + M ≤ 8) : ∀ (m j : Nat) (σ : ovSt), j + m = M → pu_RS σ 21 (pu_dl g j) → (∀ σ', pu_ag (pu_stX 21) σ σ' → pu_RS σ' 21 (pu_dl g M) → k (nI M) σ') → F_X5_deal_30 k (m + 1) (nI M) (nI j) σ
  | 0, j, σ, hj, hR, h => by
    have ej : j = M := by omega
    subst ej
    unfold F_X5_deal_30
    rw [if_pos (Int32.le_refl _)]
    exact h σ (pu_ag.rf _ σ) hR
  | m + 1, j, σ, hj, hR, h => by
    unfold F_X5_deal_30
    rw [if_neg (by rw [nI_leI (by omega) (by omega)]; omega)]
    obtain ⟨h1, h2, h3, h4⟩ := pu_dl_ok hg j (by omega)
    refine p3_drawThing h1 (by omega) hR (fun σ1 a1 R1 => ?_)
    rw [← nI_succ]
    exact p5_deal_loop hg hM m (j + 1) σ1 (by omega) R1 (fun σ2 a2 => h σ2 (a1.tr a2))
theorem p6_deal_loop {k : Int32 → ovSt → Prop} {g : Nat → Int32} (hg : pu_WG g) {A M : Nat} (hA : A ≤ 8) (hM : M = min A (8 - pu_n g)) : ∀ (m j : Nat) (σ : ovSt), j + m = M → σ 75 = pu_dl g j → (∀ σ', pu_ag (fun i => i = 75) σ σ' → σ' 75 = pu_dl g M → k (nI M) σ') → F_X6_deal_15 k (m + 1) (nI A) (nI j) σ
  | 0, j, σ, hj, e, h => by
    have hb := (pu_WG_n hg).1
    have ej : j = M := by omega
    subst ej
    unfold F_X6_deal_15 F_X6_deal_73
    by_cases z : A ≤ j
    · rw [if_pos (nI_le z (by omega))]
      exact h σ (pu_ag.rf _ σ) e
    · obtain ⟨h1, h2, h3, h4⟩ := pu_dl_ok hg j (by omega)
      rw [if_neg (by rw [nI_leI (by omega) (by omega)]; exact z)]
      refine ⟨vp_in_nI (n := 1) (by decide) (by decide), ?_⟩
      rw [show σ 75 (Int32.toNatClampNeg 1) = nI (pu_n g + j) from by rw [e, ← h2]; exact (pu_WG_n h1).2, if_pos (by rw [show (8 : Int32) = nI 8 from rfl, nI_leI (by omega) (by omega)]; omega)]
      exact h σ (pu_ag.rf _ σ) e
  | m + 1, j, σ, hj, e, h => by
    have hb := (pu_WG_n hg).1
    obtain ⟨h1, h2, h3, h4⟩ := pu_dl_ok hg j (by omega)
    have hn : pu_n (pu_dl g j) < 8 := by omega
    have n3 : ∀ z, pu_n (upd (pu_dl g j) 0 z) = pu_n (pu_dl g j) := fun z => by unfold pu_n; rw [pu_un (by omega)]
    unfold F_X6_deal_15
    rw [if_neg (by rw [nI_leI (by omega) (by omega)]; omega)]
    refine ⟨vp_in_nI (n := 1) (by decide) (by decide), ?_⟩
    rw [show σ 75 (Int32.toNatClampNeg 1) = nI (pu_n g + j) from by rw [e, ← h2]; exact (pu_WG_n h1).2, if_neg (by rw [show (8 : Int32) = nI 8 from rfl, nI_leI (by omega) (by omega)]; omega)]
    refine p6_draw (fun σ1 a1 e1 => ?_)
    rw [e] at e1 ⊢
    intro v hv
    refine p6_draw (fun σ2 a2 e2 => ?_)
    rw [e1, pu_ue, pu_uu] at e2
    rw [e1, pu_ue]
    intro v2 hv2
    refine p6_draw (fun σ3 a3 e3 => ?_)
    rw [e2, pu_ue, pu_uu] at e3
    rw [e2, pu_ue]
    refine p6_comes (by rw [e3]; exact h1.up0 _) (by rw [e3, n3]; exact hn) _ _ _ (fun σ4 a4 e4 => ?_)
    rw [e3, hv, hv2] at e4
    rw [← nI_succ]
    exact p6_deal_loop hg hA hM m (j + 1) σ4 (by omega) e4 (fun σ5 a5 => h σ5 ((((a1.tr a2).tr a3).tr a4).tr a5))
theorem v_deal {σ : ovSt} (h : pu_I1 σ) (a : Int32) : F_X5_deal a σ (fun r σ1 => F_X6_deal a σ1 (fun r' σ2 => r = r' ∧ pu_good σ σ2)) := by
  have hb := pu_WG_n h.1
  unfold F_X5_deal
  by_cases za : a < 1 ∨ 8 < a
  · rw [pu_no5 za, if_pos rfl]
    show F_X6_deal _ _ _
    unfold F_X6_deal
    rw [pu_no6 za, if_pos rfl]
    exact ⟨rfl, pu_good.rf h⟩
  rw [pu_yes5 za, if_neg (by decide), h.2.1.1.2.1, hb.2]
  have e1 : (1 : Int32).toInt = 1 := rfl
  have e8 : (8 : Int32).toInt = 8 := rfl
  obtain ⟨A, hA, eA⟩ := pu_ofInt (x := a) (b := 9) (by have := (pu_bt za).1; omega) (by have := (pu_bt za).2; omega) (by omega)
  subst eA
  rw [show (8 : Int32) - nI (pu_n (σ 75)) = nI (8 - pu_n (σ 75)) from pk_sub (a := 8) hb.1, pu_min_nI (by omega) (by omega)]
  intro v hv
  subst hv
  refine ⟨min A (8 - pu_n (σ 75)) + 1, ?_⟩
  show F_X5_deal_30 _ (min A (8 - pu_n (σ 75)) + 1) (nI (min A (8 - pu_n (σ 75)))) (nI 0) σ
  obtain ⟨M, eM⟩ : ∃ M, M = min A (8 - pu_n (σ 75)) := ⟨_, rfl⟩
  rw [← eM]
  have hM : pu_n (σ 75) + M ≤ 8 := by omega
  obtain ⟨h1, h2, h3, h4⟩ := pu_dl_ok h.1 M hM
  refine p5_deal_loop h.1 hM M 0 σ (by omega) h.2.1 (fun σ1 a1 R1 => ?_)
  have f1 : σ1 75 = σ 75 := a1 75 (by unfold pu_stX; omega)
  show F_X6_deal _ _ _
  unfold F_X6_deal
  rw [pu_yes6 za, if_neg (by decide)]
  refine ⟨M + 1, ?_⟩
  show F_X6_deal_15 _ (M + 1) (nI A) (nI 0) σ1
  refine p6_deal_loop h.1 (by omega) eM M 0 σ1 (by omega) f1 (fun σ2 a2 f2 => ?_)
  exact ⟨rfl, pu_good.mk h _ f2 ((a1.mono (fun i hi => by unfold pu_stX at hi; unfold pu_XS; omega)).tr (a2.mono (fun i hi => by unfold pu_XS; omega))) h1 (R1.ag (fun i x y => a2 i (by omega))) h3 (by rw [h4]; exact h.2.2.2)⟩
