/-! ===== rows that wait, the tape, the image ===== -/
def pu_XF (i : Nat) : Prop := pu_XT i ∨ i = 0 ∨ i = 74 ∨ (45 ≤ i ∧ i ≤ 47) ∨ i = 50 ∨ i = 97 ∨ i = 81 ∨ (51 ≤ i ∧ i ≤ 73) ∨ (89 ≤ i ∧ i ≤ 95)
theorem ovInv.fr {σ σ' : ovSt} (h : ovInv σ) (ha : ∀ i, ¬ pu_XF i → σ' i = σ i) (e0 : σ' 0 10 = σ 0 10) (e1 : σ' 74 3 = σ 74 3) (hT : pu_IT σ') (hW : pu_IW σ') (hS : pu_IS σ') (hH : pu_IH σ') : ovInv σ' := by
  have q : ∀ i, ¬ pu_XF i → σ' i = σ i := ha
  have e75 : σ' 75 = σ 75 := q 75 (by unfold pu_XF pu_XT; omega)
  refine ⟨h.1.cg (fun i hi => q i (by unfold pu_XF pu_XT; omega)), h.2.1.cg (fun i hi => q i (by unfold pu_XF pu_XT; omega)) e0 e1 (by rw [e75]; exact pu_tx.rf _), hT, hW, hS, hH, h.2.2.2.2.2.2.cg (q 82 (by unfold pu_XF pu_XT; omega)) (q 83 (by unfold pu_XF pu_XT; omega))⟩
theorem v_tell {σ : ovSt} (h : ovInv σ) (a : Int32) : F_X5_tell a σ (fun r σ1 => F_X6_tell a σ1 (fun r' σ2 => r = r' ∧ ovInv σ2)) := by
  obtain ⟨w1, n, hn, w2, w3⟩ := h.2.2.2.1
  have w9 : σ 0 9 = nI n := w1.trans w2
  unfold F_X5_tell
  rw [w9]
  by_cases z : n = 60
  · rw [if_neg (by rw [z]; decide)]
    show F_X6_tell _ _ _
    unfold F_X6_tell
    rw [w2, if_pos (by rw [z]; rfl)]
    exact ⟨rfl, h⟩
  · rw [if_pos (show nI n < (60 : Int32) from nI_lt (b := 60) (by omega) (by omega))]
    refine ⟨vp_in_nI (by omega) (by omega), ?_⟩
    rw [pu_cl (by omega)]
    intro σ2 e2 σ3 e3
    have f2 : σ2 0 9 = nI n := by rw [e2, pu_up_ne (by omega), w9]
    rw [f2, ← nI_succ] at e3
    have g3 : σ3 0 9 = nI (n + 1) := by rw [e3, pu_up_same, pu_ue]
    rw [g3]
    show F_X6_tell _ _ _
    unfold F_X6_tell
    have m34 : σ3 74 34 = nI n := by rw [e3, pu_up_ne (by omega), e2, pu_up_ne (by omega), w2]
    rw [m34, if_neg (by rw [show (60 : Int32) = nI 60 from rfl, nI_eq (by omega) (by omega)]; exact z)]
    refine ⟨vp_in_nI (by omega) (by omega), ?_⟩
    rw [pu_cl (by omega)]
    intro σ4 e4 σ5 e5
    have f4 : σ4 74 34 = nI n := by rw [e4, pu_up_ne (by omega), m34]
    rw [f4, ← nI_succ] at e5
    have g5 : σ5 74 34 = nI (n + 1) := by rw [e5, pu_up_same, pu_ue]
    have ag : pu_ag (fun i => i = 0 ∨ i = 50 ∨ i = 74 ∨ i = 97) σ σ5 := by
      rw [e5]; refine pu_ag.up ?_ (by omega)
      rw [e4]; refine pu_ag.up ?_ (by omega)
      rw [e3]; refine pu_ag.up ?_ (by omega)
      rw [e2]; exact pu_ag.up1 (by omega)
    have q0 : ∀ c, c ≠ 9 → σ5 0 c = σ 0 c := by
      intro c hc
      rw [e5, pu_up_ne (by omega), e4, pu_up_ne (by omega), e3, pu_up_same, pu_un hc, e2, pu_up_ne (by omega)]
    have q74 : ∀ c, c ≠ 34 → σ5 74 c = σ 74 c := by
      intro c hc
      rw [e5, pu_up_same, pu_un hc, e4, pu_up_ne (by omega), e3, pu_up_ne (by omega), e2, pu_up_ne (by omega)]
    refine ⟨g5.symm, h.fr (fun i hi => ag i (fun q => hi (by unfold pu_XF; omega))) (q0 10 (by omega)) (q74 3 (by omega)) (h.2.2.1.cg (ag 46 (by omega)) (ag 81 (by omega)) (by rw [ag 45 (by omega)]) (q74 8 (by omega))) ?_ (h.2.2.2.2.1.cg (fun i hi => ag i (by omega))) (h.2.2.2.2.2.1.cg (fun i hi => ag i (by omega)))⟩
    refine ⟨?_, n + 1, by omega, g5, fun i hi => ?_⟩
    · rw [g5, e5, pu_up_ne (by omega), e4, pu_up_ne (by omega), g3]
    · have c50 : σ5 50 i = (upd (σ 50) n a) i := by
        rw [e5, pu_up_ne (by omega), e4, pu_up_ne (by omega), e3, pu_up_ne (by omega), e2, pu_up_same]
      have c97 : σ5 97 i = (upd (σ 97) n a) i := by
        rw [e5, pu_up_ne (by omega), e4, pu_up_same, e3, pu_up_ne (by omega), e2, pu_up_ne (by omega)]
      rw [c50, c97]
      by_cases zi : i = n
      · rw [zi, pu_ue, pu_ue]
      · rw [pu_un zi, pu_un zi]; exact w3 i (by omega)
theorem v_trim {σ : ovSt} (h : ovInv σ) (a : Int32) : F_X5_trim a σ (fun r σ1 => F_X6_trim a σ1 (fun r' σ2 => r = r' ∧ ovInv σ2)) := by
  obtain ⟨w1, n, hn, w2, w3⟩ := h.2.2.1
  have w9 : σ 45 2 = nI n := w1.trans w2
  unfold F_X5_trim
  rw [w9]
  by_cases za : a < 0 ∨ nI n < a
  · rw [pu_no5 za, if_pos rfl]
    show F_X6_trim _ _ _
    unfold F_X6_trim
    rw [w2, pu_no6 za, if_pos rfl]
    exact ⟨rfl, h⟩
  rw [pu_yes5 za, if_neg (by decide)]
  intro σ1 e1
  show F_X6_trim _ _ _
  unfold F_X6_trim
  rw [show σ1 74 8 = nI n from by rw [e1, pu_up_ne (by omega), w2], pu_yes6 za, if_neg (by decide)]
  intro σ2 e2
  obtain ⟨x1, x2⟩ := pu_bt za
  rw [nI_toInt (by omega)] at x2
  have e0 : (0 : Int32).toInt = 0 := rfl
  obtain ⟨A, hA, eA⟩ := pu_ofInt (x := a) (b := n + 1) (by omega) (by omega) (by omega)
  have ag : pu_ag (fun i => i = 45 ∨ i = 74) σ σ2 := by
    rw [e2]; refine pu_ag.up ?_ (by omega)
    rw [e1]; exact pu_ag.up1 (by omega)
  have q74 : ∀ c, c ≠ 8 → σ2 74 c = σ 74 c := by
    intro c hc
    rw [e2, pu_up_same, pu_un hc, e1, pu_up_ne (by omega)]
  refine ⟨rfl, h.fr (fun i hi => ag i (fun q => hi (by unfold pu_XF; omega))) (by rw [ag 0 (by omega)]) (q74 3 (by omega)) ?_ (h.2.2.2.1.cg (ag 50 (by omega)) (ag 97 (by omega)) (by rw [ag 0 (by omega)]) (q74 34 (by omega))) (h.2.2.2.2.1.cg (fun i hi => ag i (by omega))) (h.2.2.2.2.2.1.cg (fun i hi => ag i (by omega)))⟩
  have g8 : σ2 74 8 = nI A := by rw [e2, pu_up_same, pu_ue, eA]
  refine ⟨?_, A, by omega, g8, fun i hi => ?_⟩
  · rw [g8, e2, pu_up_ne (by omega), e1, pu_up_same, pu_ue, eA]
  · rw [ag 81 (by omega), ag 46 (by omega)]
    exact w3 i (by omega)
/-! the image -/
theorem v_keep {σ : ovSt} (h : ovInv σ) : F_X5_keep σ (fun r σ1 => F_X6_keep σ1 (fun r' σ2 => r = r' ∧ ovInv σ2)) := by
  obtain ⟨m1, m2, m3⟩ := h.2.1
  unfold F_X5_keep
  refine p3_become pu_s27 pu_s21 (by decide) h.1.2.1 (fun σ1 h1 R1 => ?_)
  intro σ2 e2
  have a2 : pu_ag (fun i => i = 0 ∨ (27 ≤ i ∧ i ≤ 32)) σ σ2 := by
    rw [e2]
    exact pu_ag.up (h1.mono (fun i hi => by unfold pu_stX at hi; omega)) (by omega)
  show F_X6_keep _ _
  unfold F_X6_keep
  refine p6_copyAll (by omega) (by omega) (by omega) (fun σ3 h3 e3 => ?_)
  intro σ4 e4
  refine ⟨vp_in_nI (n := 1) (by decide) (by decide), ?_⟩
  have ag : pu_ag (fun i => i = 0 ∨ i = 74 ∨ i = 76 ∨ (27 ≤ i ∧ i ≤ 32)) σ σ4 := by
    rw [e4]
    exact pu_ag.up ((a2.mono (fun i hi => by omega)).tr (h3.mono (fun i hi => by omega))) (by omega)
  have f76 : σ4 76 = σ 75 := by
    rw [e4, pu_up_ne (by omega), e3, a2 76 (by omega), a2 75 (by omega)]
    exact pu_ov_full (fun c hc => by rw [(m1 c hc).1, (m1 c hc).2])
  have f75 : σ4 75 = σ 75 := ag 75 (by omega)
  have q0 : ∀ c, c ≠ 10 → σ4 0 c = σ 0 c := by
    intro c hc
    rw [e4, pu_up_ne (by omega), h3 0 (by omega), e2, pu_up_same, pu_un hc, h1 0 (by unfold pu_stX; omega)]
  have q74 : ∀ c, c ≠ 3 → σ4 74 c = σ 74 c := by
    intro c hc
    rw [e4, pu_up_same, pu_un hc, h3 74 (by omega), a2 74 (by omega)]
  have g0 : σ4 0 10 = 1 := by rw [e4, pu_up_ne (by omega), h3 0 (by omega), e2, pu_up_same, pu_ue]
  have g74 : σ4 74 3 = 1 := by rw [e4, pu_up_same, pu_ue]
  refine ⟨?_, h.1.cg (fun i hi => ag i (by omega)), ⟨fun c hc => ?_, by rw [g0, g74], fun _ => ?_⟩, h.2.2.1.cg (ag 46 (by omega)) (ag 81 (by omega)) (by rw [ag 45 (by omega)]) (q74 8 (by omega)), h.2.2.2.1.cg (ag 50 (by omega)) (ag 97 (by omega)) (q0 9 (by omega)) (q74 34 (by omega)), h.2.2.2.2.1.cg (fun i hi => ag i (by omega)), h.2.2.2.2.2.1.cg (fun i hi => ag i (by omega)), h.2.2.2.2.2.2.cg (ag 82 (by omega)) (ag 83 (by omega))⟩
  · rw [f75]
    show σ2 21 6 = σ 75 1
    rw [a2 21 (by omega)]
    exact h.1.2.1.1.2.1
  · rw [f75, f76]; exact ⟨(m1 c hc).1, (m1 c hc).1⟩
  · rw [f75, f76]
    refine ⟨h.1.1, R1.ag (fun i x y => ?_), h.1.2.2.1.ag h.1.1 (fun i x y => ag i (by omega)), h.1.2.2.2, Nat.le_refl _⟩
    rw [e4, pu_up_ne (by omega), h3 i (by omega), e2, pu_up_ne (by omega)]
theorem v_back {σ : ovSt} (h : ovInv σ) : F_X5_back σ (fun r σ1 => F_X6_back σ1 (fun r' σ2 => r = r' ∧ ovInv σ2)) := by
  obtain ⟨m1, m2, m3⟩ := h.2.1
  unfold F_X5_back
  by_cases z : σ 0 10 = 0
  · rw [if_pos z]
    show F_X6_back _ _
    unfold F_X6_back
    rw [if_pos (by rw [← m2]; exact z)]
    exact ⟨rfl, h⟩
  rw [if_neg z]
  obtain ⟨i1, i2, i3, i4, i5⟩ := m3 z
  refine p3_become pu_s21 pu_s27 (by decide) i2 (fun σ1 h1 R1 => ?_)
  show F_X6_back _ _
  unfold F_X6_back
  rw [if_neg (by rw [h1 74 (by unfold pu_stX; omega), ← m2]; exact z)]
  refine p6_copyAll (by omega) (by omega) (by omega) (fun σ2 h2 e2 => ?_)
  refine ⟨vp_in_nI (n := 1) (by decide) (by decide), ?_⟩
  have ag : pu_ag (fun i => i = 75 ∨ (21 ≤ i ∧ i ≤ 26)) σ σ2 := (h1.mono (fun i hi => by unfold pu_stX at hi; omega)).tr (h2.mono (fun i hi => by omega))
  have f75 : σ2 75 = σ 76 := by
    rw [e2, h1 75 (by unfold pu_stX; omega), h1 76 (by unfold pu_stX; omega)]
    exact pu_ov_full (fun c hc => by rw [(m1 c hc).1, (m1 c hc).2])
  have f76 : σ2 76 = σ 76 := ag 76 (by omega)
  have R2 : pu_RS σ2 21 (σ 76) := R1.ag (fun i x y => h2 i (by omega))
  have L2 : pu_LS σ2 (σ 76) := i3.ag i1 (fun i x y => ag i (by omega))
  refine ⟨?_, ⟨by rw [f75]; exact i1, by rw [f75]; exact R2, by rw [f75]; exact L2, by rw [f75]; exact i4⟩, ⟨fun c hc => ?_, by rw [ag 0 (by omega), ag 74 (by omega)]; exact m2, fun _ => ?_⟩, h.2.2.1.cg (ag 46 (by omega)) (ag 81 (by omega)) (by rw [ag 45 (by omega)]) (by rw [ag 74 (by omega)]), h.2.2.2.1.cg (ag 50 (by omega)) (ag 97 (by omega)) (by rw [ag 0 (by omega)]) (by rw [ag 74 (by omega)]), h.2.2.2.2.1.cg (fun i hi => ag i (by omega)), h.2.2.2.2.2.1.cg (fun i hi => ag i (by omega)), h.2.2.2.2.2.2.cg (ag 82 (by omega)) (ag 83 (by omega))⟩
  · rw [f75]; exact R1.1.2.1
  · rw [f75, f76]; exact ⟨(m1 c hc).2, (m1 c hc).2⟩
  · rw [f75, f76]
    exact ⟨i1, i2.ag (fun i x y => ag i (by omega)), L2, i4, Nat.le_refl _⟩
theorem pu_back1412 {g g' g0 f : Nat → Int32} (ht : pu_tx g g') (hz : ∀ c, 1412 ≤ c → g0 c = 0 ∧ g c = 0) : pu_ov g' (pu_ov f g0 1412) 1412 = g0 := by
  funext c
  unfold pu_ov
  by_cases z : c < 1412
  · rw [if_pos z, if_pos z]
  · rw [if_neg z, ht.2 c (by omega), (hz c (by omega)).1, (hz c (by omega)).2]
theorem pu_ag.u77 {σ σ' : ovSt} (h : pu_ag (fun i => i = 77) σ σ') : pu_ag pu_XU σ σ' := h.mono (fun i hi => by unfold pu_XU pu_XT; omega)
theorem v_differs {σ : ovSt} (h : ovInv σ) : F_X5_differs σ (fun r σ1 => F_X6_differs σ1 (fun r' σ2 => r = r' ∧ ovInv σ2)) := by
  obtain ⟨m1, m2, m3⟩ := h.2.1
  unfold F_X5_differs F_X5_differs_27
  by_cases z : σ 0 10 = 0
  · rw [if_pos z]
    show F_X6_differs _ _
    unfold F_X6_differs
    rw [if_pos (by rw [← m2]; exact z)]
    exact ⟨rfl, h⟩
  rw [if_neg z]
  obtain ⟨i1, i2, i3, i4, i5⟩ := m3 z
  refine p3_tasteOfAll pu_s21 h.1.1 h.1.2.1 h.1.2.2.1 (fun σ1 h1 => ?_)
  refine p3_tasteOfAll pu_s27 i1 (i2.ag (fun i x y => h1 i (by omega))) (i3.ag i1 (fun i x y => h1 i (by omega))) (fun σ2 h2 => ?_)
  have a2 : pu_ag (fun i => i = 20) σ σ2 := h1.tr h2
  show F_X6_differs _ _
  unfold F_X6_differs
  rw [if_neg (by rw [a2 74 (by omega), ← m2]; exact z)]
  have f75 : σ2 75 = σ 75 := a2 75 (by omega)
  refine p6_tasteAll (by rw [f75]; exact h.1.1) (fun σ3 h3 => ?_)
  rw [f75]
  refine p6_copyAll (by omega) (by omega) (by omega) (fun σ4 h4 e4 => ?_)
  rw [h3 75 (by omega), f75] at e4
  refine p6_copyAll (by omega) (by omega) (by omega) (fun σ5 h5 e5 => ?_)
  have g75 : σ5 75 = σ 76 := by
    rw [e5, h4 75 (by omega), h3 75 (by omega), f75, h4 76 (by omega), h3 76 (by omega), a2 76 (by omega)]
    exact pu_ov_full (fun c hc => by rw [(m1 c hc).1, (m1 c hc).2])
  refine p6_tasteAll (by rw [g75]; exact i1) (fun σ6 h6 => ?_)
  rw [g75]
  refine p6_copyAll (by omega) (by omega) (by omega) (fun σ7 h7 e7 => ?_)
  refine ⟨rfl, h.good (pu_good.back h.1 ((((((a2.u20).tr h3.u87).tr h4.u77).tr h5.u75).tr h6.u87).tr h7.u75) ?_)⟩
  rw [e7, h6 75 (by omega), g75, h6 77 (by omega), h5 77 (by omega), e4]
  exact pu_back1412 (pu_tx.rf _) m1
