/-! ===== text ===== -/
/-- nothing but the reading has happened -/
theorem rt_end {σ σ1 σ2 σ3 σ4 : ovSt} (h : ovInv σ) (f1 : tk_fr σ σ1) (e2 : σ2 = ov_up σ1 45 2 0) (a3 : pu_ag (fun i => i = 74 ∨ (84 ≤ i ∧ i ≤ 86)) σ2 σ3) (q3 : ∀ q, ¬ (mr_Z q ∨ q = 14) → σ3 74 q = σ2 74 q) (e4 : σ4 = ov_up σ3 74 8 0) : ovInv σ4 := by
  have a2 : pu_ag (fun i => i = 45 ∨ i = 47) σ σ2 := by rw [e2]; exact pu_ag.up f1 (Or.inl rfl)
  have ag : pu_ag (fun i => i = 45 ∨ i = 47 ∨ i = 74 ∨ (84 ≤ i ∧ i ≤ 86)) σ σ4 := by
    rw [e4]; exact pu_ag.up ((a2.mono (fun i hi => by omega)).tr (a3.mono (fun i hi => by omega))) (by omega)
  have q74 : ∀ q, ¬ (mr_Z q ∨ q = 14 ∨ q = 8) → σ4 74 q = σ 74 q := by
    intro q hq
    rw [e4, pu_up_same, pu_un (fun z => hq (Or.inr (Or.inr z))), q3 q (fun z => hq (z.elim Or.inl (fun y => Or.inr (Or.inl y)))), a2 74 (by omega)]
  have z8 : σ4 74 8 = 0 := by rw [e4, pu_up_same, pu_ue]
  have z45 : σ4 45 2 = 0 := by rw [e4, pu_up_ne (by omega), a3 45 (by omega), e2, pu_up_same, pu_ue]
  refine h.fr (fun i hi => ag i (fun q => hi (by unfold pu_XF pu_XT; omega))) (by rw [ag 0 (by omega)]) (q74 3 (by unfold mr_Z; omega)) ⟨by rw [z8, z45], 0, by omega, z8, fun i hi => absurd hi (by omega)⟩ (h.2.2.2.1.cg (ag 50 (by omega)) (ag 97 (by omega)) (by rw [ag 0 (by omega)]) (q74 34 (by unfold mr_Z; omega))) (h.2.2.2.2.1.cg (fun i hi => ag i (by omega))) (h.2.2.2.2.2.1.cg (fun i hi => ag i (by omega)))
theorem v_text {σ : ovSt} (h : ovInv σ) : F_X5_text σ (fun r σ1 => F_X6_text σ1 (fun r' σ2 => r = r' ∧ ovInv σ2)) := by
  obtain ⟨T, n, hBC, hBM⟩ := h.2.2.1.T
  obtain ⟨t, ht14, h7, hTT⟩ := h.1.1.2.1
  have y7 : σ 21 13 = σ 75 7 := h.1.2.1.1.2.2.2.2.2.2.2
  have hK := h.2.2.2.2.2.2
  unfold F_X5_text
  refine p4_readText hBC (fun σ1 s f1 h4 hfail => ?_) (fun σ1 key C f1 h6 h7' h8 hc hL hgood => ?_)
  · intro v3 hv3 σ2 e2
    rw [if_pos rfl]
    have a2 : pu_ag (fun i => i = 45 ∨ i = 47) σ σ2 := by rw [e2]; exact pu_ag.up f1 (Or.inl rfl)
    have B2 : tk_BM σ2 T n := ⟨hBM.1, by rw [a2 74 (by omega)]; exact hBM.2.1, fun i hi => by rw [a2 81 (by omega)]; exact hBM.2.2 i hi⟩
    refine (p6_reads_text B2 (hK.cg (a2 82 (by omega)) (a2 83 (by omega)))).1 s hfail (fun σ3 a3 q3 h10 => ?_)
    unfold F_X6_text_33
    intro σ4 e4
    rw [if_pos rfl]
    refine ⟨?_, rt_end h f1 e2 a3 q3 e4⟩
    rw [hv3, h4, e4, pu_up_same, pu_un (by omega), h10]
  · intro v3 hv3 σ2 e2
    rw [if_neg (by decide)]
    have a2 : pu_ag (fun i => i = 45 ∨ i = 47) σ σ2 := by rw [e2]; exact pu_ag.up f1 (Or.inl rfl)
    have hk := hgood.1
    rw [a2 21 (by omega), y7, h7]
    have B2 : ∀ σ', σ' 74 = σ 74 → σ' 81 = σ 81 → tk_BM σ' T n := fun σ' x y => ⟨hBM.1, by rw [x]; exact hBM.2.1, fun i hi => by rw [y]; exact hBM.2.2 i hi⟩
    by_cases zf : t = 14
    · rw [if_neg (by rw [zf]; decide)]
      refine (p6_reads_text (B2 σ2 (a2 74 (by omega)) (a2 81 (by omega))) (hK.cg (a2 82 (by omega)) (a2 83 (by omega)))).2 key C hgood (fun σ3 a3 q3 g14 g18 g19 g84 hoc => ?_)
      unfold F_X6_text_33
      intro σ4 e4
      rw [if_neg (by decide)]
      refine ⟨vp_in_nI (n := 7) (by decide) (by decide), ?_⟩
      rw [show σ4 75 (Int32.toNatClampNeg 7) = 14 from by rw [e4, pu_up_ne (by omega), a3 75 (by omega), a2 75 (by omega)]; show σ 75 7 = 14; rw [h7, zf]; rfl, if_pos rfl]
      exact ⟨rfl, rt_end h f1 e2 a3 q3 e4⟩
    have ht : t < 14 := by omega
    rw [if_pos (show nI t < (14 : Int32) from nI_lt (b := 14) ht (by omega))]
    intro v5 hv5
    subst hv5
    have s6 : σ2 45 6 = nI key := by rw [e2, pu_up_same, pu_un (by omega), h6]
    have s7 : σ2 45 7 = nI C.length := by rw [e2, pu_up_same, pu_un (by omega), h7']
    have s8 : σ2 45 8 = nI (tk_lv C) := by rw [e2, pu_up_same, pu_un (by omega), h8]
    unfold F_X0_write
    rw [s7, pu_cl (t := t) (by omega), pu_cl (t := C.length) (by omega)]
    refine ⟨vp_in_nI ht (by omega), ⟨⟨by decide, by decide, nI_pos (by omega)⟩, ?_, ?_⟩, ?_⟩
    · rw [pu_cl (by omega)]; show 0 + C.length ≤ 96; omega
    · rw [pu_cl (by omega)]; show 0 + C.length ≤ 96; omega
    intro σ3 e3 σ4 e4 σ5 e5 σ6 e6
    rw [show σ3 45 7 = nI C.length from by rw [e3, pu_row_ne (by omega), s7]] at e4
    rw [show σ4 45 6 = nI key from by rw [e4, pu_up_ne (by omega), e3, pu_row_ne (by omega), s6]] at e5
    rw [show σ5 45 8 = nI (tk_lv C) from by rw [e5, pu_up_ne (by omega), e4, pu_up_ne (by omega), e3, pu_row_ne (by omega), s8]] at e6
    have k6 : σ6 45 6 = nI key := by rw [e6, pu_up_ne (by omega), e5, pu_up_ne (by omega), e4, pu_up_ne (by omega), e3, pu_row_ne (by omega), s6]
    rw [k6, pu_cl (by omega)]
    refine ⟨vp_in_nI hk (by omega), ?_⟩
    intro σ7 e7 σ8 e8
    rw [show σ7 21 13 = nI t from by rw [e7, pu_up_ne (by omega), e6, pu_up_ne (by omega), e5, pu_up_ne (by omega), e4, pu_up_ne (by omega), e3, pu_row_ne (by omega), a2 21 (by omega), y7, h7], ← nI_succ] at e8
    have a8 : pu_ag (fun i => i = 45 ∨ i = 47 ∨ i = 3 + t ∨ (17 ≤ i ∧ i ≤ 19) ∨ i = 26 ∨ i = 21) σ σ8 := by
      rw [e8]; refine pu_ag.up ?_ (by omega)
      rw [e7]; refine pu_ag.up ?_ (by omega)
      rw [e6]; refine pu_ag.up ?_ (by omega)
      rw [e5]; refine pu_ag.up ?_ (by omega)
      rw [e4]; refine pu_ag.up ?_ (by omega)
      rw [e3]; exact pu_ag.row (a2.mono (fun i hi => by omega)) (by omega)
    refine (p6_reads_text (B2 σ8 (a8 74 (by omega)) (a8 81 (by omega))) (hK.cg (a8 82 (by omega)) (a8 83 (by omega)))).2 key C hgood (fun σ9 a9 q9 g14 g18 g19 g84 hoc => ?_)
    refine p6_text_ok (g := σ 75) ht hk hL (by rw [a9 75 (by omega), a8 75 (by omega)]) h7 g14 g18 g19 g84 (fun σA aA qA zA eA => ⟨rfl, ?_⟩)
    have ag : pu_ag (fun i => i = 45 ∨ i = 47 ∨ i = 3 + t ∨ (17 ≤ i ∧ i ≤ 19) ∨ i = 26 ∨ i = 21 ∨ i = 74 ∨ i = 75 ∨ (84 ≤ i ∧ i ≤ 86)) σ σA := ((a8.mono (fun i hi => by omega)).tr (a9.mono (fun i hi => by omega))).tr (aA.mono (fun i hi => by omega))
    have up : ∀ i, i ≠ 74 → i ≠ 75 → (i < 84 ∨ 86 < i) → σA i = σ8 i := fun i x y z => by rw [aA i (by omega), a9 i (by omega)]
    have q74 : ∀ q, ¬ (mr_Z q ∨ q = 14 ∨ q = 8) → σA 74 q = σ 74 q := by
      intro q hq
      rw [qA q (fun z => hq (Or.inr (Or.inr z))), q9 q (fun z => hq (z.elim Or.inl (fun y => Or.inr (Or.inl y)))), a8 74 (by omega)]
    have c17 : σA 17 = upd (σ 17) t (nI C.length) := by
      rw [up 17 (by omega) (by omega) (by omega), e8, pu_up_ne (by omega), e7, pu_up_ne (by omega), e6, pu_up_ne (by omega), e5, pu_up_ne (by omega), e4, pu_up_same, e3, pu_row_ne (by omega), a2 17 (by omega)]
    have c18 : σA 18 = upd (σ 18) t (nI key) := by
      rw [up 18 (by omega) (by omega) (by omega), e8, pu_up_ne (by omega), e7, pu_up_ne (by omega), e6, pu_up_ne (by omega), e5, pu_up_same, e4, pu_up_ne (by omega), e3, pu_row_ne (by omega), a2 18 (by omega)]
    have c19 : σA 19 = upd (σ 19) t (nI (tk_lv C)) := by
      rw [up 19 (by omega) (by omega) (by omega), e8, pu_up_ne (by omega), e7, pu_up_ne (by omega), e6, pu_up_same, e5, pu_up_ne (by omega), e4, pu_up_ne (by omega), e3, pu_row_ne (by omega), a2 19 (by omega)]
    have c26 : σA 26 = upd (σ 26) key (nI t) := by
      rw [up 26 (by omega) (by omega) (by omega), e8, pu_up_ne (by omega), e7, pu_up_same, e6, pu_up_ne (by omega), e5, pu_up_ne (by omega), e4, pu_up_ne (by omega), e3, pu_row_ne (by omega), a2 26 (by omega)]
    have c21 : σA 21 = upd (σ 21) 13 (nI (t + 1)) := by
      rw [up 21 (by omega) (by omega) (by omega), e8, pu_up_same, e7, pu_up_ne (by omega), e6, pu_up_ne (by omega), e5, pu_up_ne (by omega), e4, pu_up_ne (by omega), e3, pu_row_ne (by omega), a2 21 (by omega)]
    have c3t : ∀ q, q < C.length → pu_crel (σA (3 + t) q) (C.getD q 0) := by
      intro q hq
      rw [up (3 + t) (by omega) (by omega) (by omega), e8, pu_up_ne (by omega), e7, pu_up_ne (by omega), e6, pu_up_ne (by omega), e5, pu_up_ne (by omega), e4, pu_up_ne (by omega), e3, pu_row_same]
      have w : va_cpy (σ2 47) (σ2 (3 + t)) (Int32.toNatClampNeg 0) (Int32.toNatClampNeg 0) C.length q = σ2 47 q := pu_cpy hq
      rw [w, e2, pu_up_ne (by omega)]
      exact hc q hq
    have z45 : σA 45 2 = 0 := by
      rw [up 45 (by omega) (by omega) (by omega), e8, pu_up_ne (by omega), e7, pu_up_ne (by omega), e6, pu_up_ne (by omega), e5, pu_up_ne (by omega), e4, pu_up_ne (by omega), e3, pu_row_ne (by omega), e2, pu_up_same, pu_ue]
    have hrow : ∀ i, 3 ≤ i → i ≤ 16 → i ≠ 3 + t → σA i = σ i := fun i x y z => ag i (by omega)
    have W := wt_WG h.1.1 ht h7 hk hL hoc
    have LSn : pu_LS σA (wt_g (σ 75) t key C) := wt_LS h.1.1 h.1.2.2.1 ht h7 hk hL hrow c17 c18 c19 c3t
    obtain ⟨⟨y0, y1, y2, y3, y4, y5, y6, y7'⟩, r2, r3⟩ := h.1.2.1
    have RSn : pu_RS σA 21 (wt_g (σ 75) t key C) := by
      refine ⟨⟨?_, ?_, ?_, ?_, ?_, ?_, ?_, ?_⟩, fun i hi => ?_, fun k2 hk2 => ?_⟩
      · rw [c21, pu_un (by omega), wt_at (by omega) (by omega) (by omega) (by omega)]; exact y0
      · rw [c21, pu_un (by omega), wt_at (by omega) (by omega) (by omega) (by omega)]; exact y1
      · rw [c21, pu_un (by omega), wt_at (by omega) (by omega) (by omega) (by omega)]; exact y2
      · rw [c21, pu_un (by omega), wt_at (by omega) (by omega) (by omega) (by omega)]; exact y3
      · rw [c21, pu_un (by omega), wt_at (by omega) (by omega) (by omega) (by omega)]; exact y4
      · rw [c21, pu_un (by omega), wt_at (by omega) (by omega) (by omega) (by omega)]; exact y5
      · rw [c21, pu_un (by omega), wt_at (by omega) (by omega) (by omega) (by omega)]; exact y6
      · rw [c21, pu_ue, wt_7]
      · rw [ag (21 + 1) (by omega), ag (21 + 2) (by omega), ag (21 + 3) (by omega), ag (21 + 4) (by omega), wt_at (by omega) (by omega) (by omega) (by omega), wt_at (by omega) (by omega) (by omega) (by omega), wt_at (by omega) (by omega) (by omega) (by omega), wt_at (by omega) (by omega) (by omega) (by omega)]
        exact r2 i hi
      · rw [wt_law ht h7 hk hL hk2]
        show σA 26 k2 = _
        rw [c26]
        by_cases z : k2 = key
        · rw [if_pos z, z, pu_ue]
        · rw [if_neg z, pu_un z]; exact r3 k2 hk2
    obtain ⟨m1, m2, m3⟩ := h.2.1
    refine ⟨⟨by rw [eA]; exact W, by rw [eA]; exact RSn, by rw [eA]; exact LSn, ?_⟩, ⟨fun c hc => ?_, ?_, fun hz => ?_⟩, ⟨by rw [zA, z45], 0, by omega, zA, fun i hi => absurd hi (by omega)⟩, h.2.2.2.1.cg (ag 50 (by omega)) (ag 97 (by omega)) (by rw [ag 0 (by omega)]) (q74 34 (by unfold mr_Z; omega)), h.2.2.2.2.1.cg (fun i hi => ag i (by omega)), h.2.2.2.2.2.1.cg (fun i hi => ag i (by omega)), h.2.2.2.2.2.2.cg (ag 82 (by omega)) (ag 83 (by omega))⟩
    · rw [eA, wt_at (by omega) (by omega) (by omega) (by omega)]; exact h.1.2.2.2
    · rw [eA, wt_at (by omega) (by omega) (by omega) (by omega), ag 76 (by omega)]; exact m1 c hc
    · rw [ag 0 (by omega), q74 3 (by unfold mr_Z; omega)]; exact m2
    · rw [ag 0 (by omega)] at hz
      obtain ⟨i1, i2, i3, i4, i5⟩ := m3 hz
      rw [h7, pu_cl (by omega)] at i5
      rw [ag 76 (by omega), eA, wt_7, pu_cl (by omega)]
      refine ⟨i1, i2.ag (fun i x y => ag i (by omega)), i3.wr i1 i5 hrow (fun j hj => by rw [c17, pu_un hj]) (fun j hj => by rw [c18, pu_un hj]) (fun j hj => by rw [c19, pu_un hj]), i4, by omega⟩
