/-! ===== slots ===== -/
theorem pu_IH.set {σ σ' : ovSt} (h : pu_IH σ) {s : Nat} (e : ∀ i, ((59 ≤ i ∧ i ≤ 73) ∧ ¬ i = 59 + 3 * s ∧ ¬ i = 59 + 3 * s + 1 ∧ ¬ i = 59 + 3 * s + 1 + 1) → σ' i = σ i) (h92 : ∀ c, c ≠ s → σ' 92 c = σ 92 c) (h93 : ∀ c, c ≠ s → σ' 93 c = σ 93 c) (h94 : ∀ c, c ≠ s → σ' 94 c = σ 94 c) (h95 : ∀ c, (c < 24 * s ∨ 24 * s + 24 ≤ c) → σ' 95 c = σ 95 c) (hn : pu_IH1 σ' s) : pu_IH σ' := by
  intro q hq
  by_cases z : q = s
  · rw [z]; exact hn
  · unfold pu_IH1
    rw [e (59 + 3 * q) (by omega), e (59 + 3 * q + 1) (by omega), e (59 + 3 * q + 1 + 1) (by omega), h92 q z, h93 q z, h94 q z]
    obtain ⟨r1, r2, r3, r4, r5⟩ := h q hq
    refine ⟨r1, r2, r3, fun w => ?_, r5⟩
    obtain ⟨u1, u2, u3⟩ := r4 w
    refine ⟨u1, u2, fun i hi => ?_⟩
    rw [h95 (24 * q + i) (by omega)]
    exact u3 i hi
theorem pu_lay_end {σ σ1 σ2 : ovSt} (h : ovInv σ) {s : Nat} (hs : s < 5) (a1 : pu_ag (fun i => i = 59 + 3 * s ∨ i = 59 + 3 * s + 1 ∨ i = 59 + 3 * s + 1 + 1) σ σ1) (a2 : pu_ag (fun i => 92 ≤ i ∧ i ≤ 95) σ1 σ2) (h92 : ∀ c, c ≠ s → σ2 92 c = σ1 92 c) (h93 : ∀ c, c ≠ s → σ2 93 c = σ1 93 c) (h94 : ∀ c, c ≠ s → σ2 94 c = σ1 94 c) (h95 : ∀ c, (c < 24 * s ∨ 24 * s + 24 ≤ c) → σ2 95 c = σ1 95 c) (hn : pu_IH1 σ2 s) : ovInv σ2 := by
  have ag : pu_ag (fun i => i = 59 + 3 * s ∨ i = 59 + 3 * s + 1 ∨ i = 59 + 3 * s + 1 + 1 ∨ (92 ≤ i ∧ i ≤ 95)) σ σ2 := (a1.mono (fun i hi => by omega)).tr (a2.mono (fun i hi => by omega))
  refine h.fr (fun i hi => ag i (fun q => hi (by unfold pu_XF; omega))) (by rw [ag 0 (by omega)]) (by rw [ag 74 (by omega)]) (h.2.2.1.cg (ag 46 (by omega)) (ag 81 (by omega)) (by rw [ag 45 (by omega)]) (by rw [ag 74 (by omega)])) (h.2.2.2.1.cg (ag 50 (by omega)) (ag 97 (by omega)) (by rw [ag 0 (by omega)]) (by rw [ag 74 (by omega)])) (h.2.2.2.2.1.cg (fun i hi => ag i (by omega))) ?_
  refine h.2.2.2.2.2.1.set (s := s) (fun i hi => ag i (by omega)) (fun c hc => ?_) (fun c hc => ?_) (fun c hc => ?_) (fun c hc => ?_) hn
  · rw [h92 c hc, a1 92 (by omega)]
  · rw [h93 c hc, a1 93 (by omega)]
  · rw [h94 c hc, a1 94 (by omega)]
  · rw [h95 c hc, a1 95 (by omega)]
theorem p6_lay_cp {K : Int32 → ovSt → Prop} {s q : Nat} (hs : s < 5) (hq : q < 4) {x4 : Int32} {B f : Nat → Int32} : ∀ (m j : Nat) (σ : ovSt), j + m = 24 → (∀ i, i < j → σ 95 (24 * s + i) = B i) → (∀ i, i < 24 → σ 91 (24 * q + i) = B i) → (∀ c, (c < 24 * s ∨ 24 * s + 24 ≤ c) → σ 95 c = f c) → (∀ σ', pu_ag (fun i => i = 95) σ σ' → (∀ i, i < 24 → σ' 95 (24 * s + i) = B i) → (∀ c, (c < 24 * s ∨ 24 * s + 24 ≤ c) → σ' 95 c = f c) → K x4 σ') → F_X6_lay_134 K (m + 1) (nI s) 2 (nI q) x4 (nI j) σ
  | 0, j, σ, hj, h0, hB, hf, h => by
    have ej : j = 24 := by omega
    subst ej
    unfold F_X6_lay_134 F_X6_lay_176
    rw [if_pos (by decide)]
    exact h σ (pu_ag.rf _ σ) h0 hf
  | m + 1, j, σ, hj, h0, hB, hf, h => by
    unfold F_X6_lay_134
    rw [if_neg (by rw [show (24 : Int32) = nI 24 from rfl, nI_leI (by omega) (by omega)]; omega), if_pos rfl, pu_ix24, pu_ix24, pu_cl (by omega), pu_cl (by omega), ← nI_succ]
    refine ⟨vp_in_nI (by omega) (by omega), vp_in_nI (by omega) (by omega), ?_⟩
    intro σ3 e3
    have a3 : pu_ag (fun i => i = 95) σ σ3 := by rw [e3]; exact pu_ag.up1 rfl
    refine p6_lay_cp hs hq (B := B) (f := f) m (j + 1) σ3 (by omega) (fun i hi => ?_) (fun i hi => by rw [a3 91 (by omega)]; exact hB i hi) (fun c hc => ?_) (fun σ4 h4 => h σ4 (a3.tr h4))
    · rw [e3, pu_up_same]
      by_cases z : i = j
      · rw [z, pu_ue]; exact hB j (by omega)
      · rw [pu_un (by omega)]; exact h0 i (by omega)
    · rw [e3, pu_up_same, pu_un (by omega)]; exact hf c hc
theorem p6_lay_no {K : Int32 → ovSt → Prop} {x1 x2 x3 x4 : Int32} (h2 : ¬ x2 = 2) {σ : ovSt} (h : K x4 σ) : ∃ n, F_X6_lay_134 K n x1 x2 x3 x4 0 σ := by
  refine ⟨1, ?_⟩
  unfold F_X6_lay_134 F_X6_lay_176
  rw [if_neg (by decide), if_neg h2]
  exact h
/-- what the model does, but for the cells -/
theorem p6_lay61 {K : Int32 → ovSt → Prop} {s : Nat} (hs : s < 5) {x2 x3 A Bv : Int32} {σ : ovSt} (hA : ∀ σ', pu_ag (fun i => 92 ≤ i ∧ i ≤ 95) σ σ' → (x2 = 1 → ∃ t, t < 8 ∧ x3 = nI t ∧ A = σ 75 (8 + 4 * t) ∧ Bv = pu_worth (σ 75 (8 + 4 * t)) (σ 75 (8 + 4 * t + 1))) ∧ (x2 = 2 → ∃ q, q < 4 ∧ x3 = nI q ∧ A = σ 90 q ∧ Bv = 0) ∧ (¬ x2 = 1 → ¬ x2 = 2 → A = x3 ∧ Bv = 0)) (h : ∀ σ', pu_ag (fun i => 92 ≤ i ∧ i ≤ 94) σ σ' → σ' 92 = upd (σ 92) s x2 → σ' 93 = upd (σ 93) s A → σ' 94 = upd (σ 94) s Bv → ∃ n, F_X6_lay_134 K n (nI s) x2 x3 (σ 92 s) 0 σ') : F_X6_lay_61 K (nI s) x2 x3 σ := by
  obtain ⟨c1, c2, c3⟩ := hA σ (pu_ag.rf _ _)
  unfold F_X6_lay_61
  refine ⟨vp_in_nI hs (by omega), ?_⟩
  rw [pu_cl (by omega)]
  intro v hv σ1 e1
  subst hv
  have g75 : σ1 75 = σ 75 := by rw [e1, pu_up_ne (by omega)]
  have k2 : ∀ σ2, σ2 = ov_up σ1 93 s A → F_X6_lay_130 K (nI s) x2 x3 (σ 92 s) Bv (nI s) σ2 := by
    intro σ2 e2
    unfold F_X6_lay_130
    refine ⟨vp_in_nI hs (by omega), ?_⟩
    rw [pu_cl (by omega)]
    intro σ3 e3
    refine h σ3 ?_ ?_ ?_ ?_
    · rw [e3]; refine pu_ag.up ?_ (by omega)
      rw [e2]; refine pu_ag.up ?_ (by omega)
      rw [e1]; exact pu_ag.up1 (by omega)
    · rw [e3, pu_up_ne (by omega), e2, pu_up_ne (by omega), e1, pu_up_same]
    · rw [e3, pu_up_ne (by omega), e2, pu_up_same, e1, pu_up_ne (by omega)]
    · rw [e3, pu_up_same, e2, pu_up_ne (by omega), e1, pu_up_ne (by omega)]
  have k1 : F_X6_lay_110 K (nI s) x2 x3 (σ 92 s) A (nI s) σ1 := by
    unfold F_X6_lay_110
    refine ⟨vp_in_nI hs (by omega), ?_⟩
    rw [pu_cl (by omega)]
    intro σ2 e2
    have q := k2 σ2 e2
    by_cases z1 : x2 = 1
    · rw [if_pos z1]
      obtain ⟨t, ht, et, -, eB⟩ := c1 z1
      subst et
      rw [e6_worthOf ht, e2, pu_up_ne (by omega), g75, ← eB]
      rw [e2] at q
      exact q
    · rw [if_neg z1]
      have : Bv = 0 := by
        by_cases z2 : x2 = 2
        · obtain ⟨_, _, _, _, w⟩ := c2 z2; exact w
        · exact (c3 z1 z2).2
      rw [this] at q
      exact q
  by_cases z1 : x2 = 1
  · rw [if_pos z1]
    obtain ⟨t, ht, et, eA, -⟩ := c1 z1
    subst et
    rw [e6_of0 ht, g75, ← eA]
    exact k1
  · rw [if_neg z1]
    by_cases z2 : x2 = 2
    · rw [if_pos z2]
      obtain ⟨q, hq, eq', eA, -⟩ := c2 z2
      subst eq'
      refine ⟨vp_in_nI hq (by omega), ?_⟩
      rw [pu_cl (by omega), e1, pu_up_ne (by omega), ← eA, ← e1]
      exact k1
    · rw [if_neg z2, ← (c3 z1 z2).1]
      rw [(c3 z1 z2).1] at k1 ⊢
      exact k1
theorem pu_four {x : Int32} (h : pu_in x 0 3) : x = 0 ∨ x = 1 ∨ x = 2 ∨ x = 3 := by
  obtain ⟨n, hn, en⟩ := pu_ofInt (x := x) (b := 4) h.1 (by have := h.2; omega) (by omega)
  subst en
  rcases (show n = 0 ∨ n = 1 ∨ n = 2 ∨ n = 3 by omega) with q | q | q | q
  · subst q; exact Or.inl rfl
  · subst q; exact Or.inr (Or.inl rfl)
  · subst q; exact Or.inr (Or.inr (Or.inl rfl))
  · subst q; exact Or.inr (Or.inr (Or.inr rfl))
theorem v_lay {σ : ovSt} (h : ovInv σ) (a b c : Int32) : F_X5_lay a b c σ (fun r σ1 => F_X6_lay a b c σ1 (fun r' σ2 => r = r' ∧ ovInv σ2)) := by
  unfold F_X5_lay F_X5_lay_16
  rcases pu_slx a with ha | ⟨s, hs, es⟩
  · rw [e5_sl_no ha, if_pos rfl]
    show F_X6_lay _ _ _ _ _
    unfold F_X6_lay F_X6_lay_41
    rw [e6_sl_no ha, if_pos rfl]
    exact ⟨rfl, h⟩
  subst es
  rw [e5_sl_yes hs, if_neg (by decide)]
  by_cases zb : b < 0 ∨ 3 < b
  · rw [pu_no5 zb, if_pos rfl]
    show F_X6_lay _ _ _ _ _
    unfold F_X6_lay F_X6_lay_41
    rw [e6_sl_yes hs, if_neg (by decide), pu_no6 zb, if_pos rfl]
    exact ⟨rfl, h⟩
  rw [pu_yes5 zb, if_neg (by decide)]
  obtain ⟨r1, r2, -⟩ := h.2.2.2.2.2.1 s hs
  rcases pu_four (pu_bt zb) with eb | eb | eb | eb
  · -- nothing
    subst eb
    rw [if_neg (by decide)]
    unfold F_X5_lay_35 F_X5_lay_50 F_X5_lay_70 F_X5_lay_160
    rw [if_neg (by decide), if_neg (by decide)]
    refine ⟨vp_in_nI hs (by omega), ?_⟩
    rw [pu_cl (by omega), r1]
    intro v hv σ1 e1
    subst hv
    rw [if_neg (by decide), if_neg (by decide), if_neg (by decide)]
    have a1 : pu_ag (fun i => i = 59 + 3 * s ∨ i = 59 + 3 * s + 1 ∨ i = 59 + 3 * s + 1 + 1) σ σ1 := by rw [e1]; exact pu_ag.up1 (by omega)
    show F_X6_lay _ _ _ _ _
    unfold F_X6_lay F_X6_lay_29 F_X6_lay_44
    rw [e6_sl_yes hs, if_neg (by decide), pu_yes6 zb, if_neg (by decide), if_neg (by decide), if_neg (by decide), if_neg (by decide)]
    refine p6_lay61 hs (A := c) (Bv := 0) (fun σ' _ => ⟨fun z => absurd z (by decide), fun z => absurd z (by decide), fun _ _ => ⟨rfl, rfl⟩⟩) (fun σ2 a2 f92 f93 f94 => p6_lay_no (by decide) ?_)
    rw [a1 92 (by omega)]
    refine ⟨rfl, pu_lay_end h hs a1 (a2.mono (fun i hi => by omega)) (fun q hq => by rw [f92, pu_un hq]) (fun q hq => by rw [f93, pu_un hq]) (fun q hq => by rw [f94, pu_un hq]) (fun q hq => by rw [a2 95 (by omega)]) ?_⟩
    have g92 : σ2 92 s = 0 := by rw [f92, pu_ue]
    refine ⟨?_, by rw [g92]; exact ⟨by decide, by decide⟩, fun z => absurd (g92.symm.trans z) (by decide), fun z => absurd (g92.symm.trans z) (by decide), fun z => absurd (g92.symm.trans z) (by decide)⟩
    rw [g92, a2 (59 + 3 * s) (by omega), e1, pu_up_same, pu_ue]
  · -- a thing
    subst eb
    rw [if_pos rfl]
    rcases pu_hasx h.1.1 c with hc | ⟨t, ht, ht8, ec⟩
    · rw [e3_has_no pu_s21 h.1.2.1 hc, if_pos rfl]
      unfold F_X5_lay_47
      show F_X6_lay _ _ _ _ _
      unfold F_X6_lay F_X6_lay_41
      rw [e6_sl_yes hs, if_neg (by decide), pu_yes6 zb, if_neg (by decide), if_pos rfl, e6_isThing_no h.1.1 hc, if_pos rfl]
      exact ⟨rfl, h⟩
    subst ec
    rw [e3_has_yes pu_s21 h.1.1 h.1.2.1 ht, if_neg (by decide)]
    unfold F_X5_lay_35 F_X5_lay_50 F_X5_lay_70 F_X5_lay_160
    rw [if_neg (by decide), if_neg (by decide)]
    refine ⟨vp_in_nI hs (by omega), ?_⟩
    rw [pu_cl (t := s) (by omega), r1]
    intro v hv σ1 e1
    subst hv
    rw [if_pos rfl]
    refine ⟨vp_in_nI ht8 (by omega), ?_⟩
    rw [pu_cl (by omega)]
    intro σ2 e2 σ3 e3
    have a3 : pu_ag (fun i => i = 59 + 3 * s ∨ i = 59 + 3 * s + 1 ∨ i = 59 + 3 * s + 1 + 1) σ σ3 := by
      rw [e3]; refine pu_ag.up ?_ (by omega)
      rw [e2]; refine pu_ag.up ?_ (by omega)
      rw [e1]; exact pu_ag.up1 (by omega)
    have f75 : σ3 75 = σ 75 := a3 75 (by omega)
    have k1 : σ3 (59 + 3 * s) 1 = 1 := by rw [e3, pu_up_same, pu_un (by omega), e2, pu_up_same, pu_un (by omega), e1, pu_up_same, pu_ue]
    have k2 : σ3 (59 + 3 * s) 2 = σ 75 (8 + 4 * t) := by
      rw [e3, pu_up_same, pu_un (by omega), e2, pu_up_same, pu_ue, e1, pu_up_ne (by omega)]
      exact (h.1.2.1.2.1 t ht8).1
    have k3 : σ3 (59 + 3 * s) 3 = σ 75 (8 + 4 * t + 1) := by
      rw [e3, pu_up_same, pu_ue, e2, pu_up_ne (by omega), e1, pu_up_ne (by omega)]
      exact (h.1.2.1.2.1 t ht8).2.1
    show F_X6_lay _ _ _ _ _
    unfold F_X6_lay F_X6_lay_29 F_X6_lay_44
    rw [e6_sl_yes hs, if_neg (by decide), pu_yes6 zb, if_neg (by decide), if_pos rfl, e6_isThing_yes (by rw [f75]; exact h.1.1) (by rw [f75]; exact ht), if_neg (by decide), if_neg (by decide), if_neg (by decide)]
    refine p6_lay61 hs (A := σ 75 (8 + 4 * t)) (Bv := pu_worth (σ 75 (8 + 4 * t)) (σ 75 (8 + 4 * t + 1))) (fun σ' _ => ⟨fun _ => ⟨t, ht8, rfl, by rw [f75], by rw [f75]⟩, fun z => absurd z (by decide), fun z => absurd rfl z⟩) (fun σ4 a4 f92 f93 f94 => p6_lay_no (by decide) ?_)
    rw [a3 92 (by omega)]
    refine ⟨rfl, pu_lay_end h hs a3 (a4.mono (fun i hi => by omega)) (fun q hq => by rw [f92, pu_un hq]) (fun q hq => by rw [f93, pu_un hq]) (fun q hq => by rw [f94, pu_un hq]) (fun q hq => by rw [a4 95 (by omega)]) ?_⟩
    have g92 : σ4 92 s = 1 := by rw [f92, pu_ue]
    have g59 : σ4 (59 + 3 * s) = σ3 (59 + 3 * s) := a4 _ (by omega)
    refine ⟨by rw [g92, g59, k1], by rw [g92]; exact ⟨by decide, by decide⟩, fun _ => ?_, fun z => absurd (g92.symm.trans z) (by decide), fun z => absurd (g92.symm.trans z) (by decide)⟩
    rw [g59, k2, k3, f93, f94, pu_ue, pu_ue]
    exact ⟨(h.1.1.2.2.2.2 t ht8).1, rfl, rfl⟩
  · -- a sheet
    subst eb
    rw [if_neg (by decide)]
    unfold F_X5_lay_35
    rw [if_pos rfl]
    rcases pu_shx c with hc | ⟨q, hq, ec⟩
    · rw [e5_sh_no hc, if_pos rfl]
      unfold F_X5_lay_47
      show F_X6_lay _ _ _ _ _
      unfold F_X6_lay F_X6_lay_29 F_X6_lay_41
      rw [e6_sl_yes hs, if_neg (by decide), pu_yes6 zb, if_neg (by decide), if_neg (by decide), if_pos rfl, e6_sh_no hc, if_pos rfl]
      exact ⟨rfl, h⟩
    subst ec
    have hQ := h.2.2.2.2.1 q hq
    rw [e5_sh_yes hq, if_neg (by decide)]
    unfold F_X5_lay_50
    rw [if_pos rfl, pu_cl (by omega)]
    refine ⟨vp_in_nI hq (by omega), ?_⟩
    rcases pu_ms hQ with ⟨m1, m2, m3⟩ | ⟨m1, m2, m3⟩
    · rw [e1_miss hq hQ m1, if_neg (by decide)]
      show F_X6_lay _ _ _ _ _
      unfold F_X6_lay F_X6_lay_29 F_X6_lay_44
      rw [e6_sl_yes hs, if_neg (by decide), pu_yes6 zb, if_neg (by decide), if_neg (by decide), if_pos rfl, e6_sh_yes hq, if_neg (by decide), if_pos rfl, pu_cl (by omega)]
      refine ⟨vp_in_nI hq (by omega), ?_⟩
      rw [if_neg m2]
      exact ⟨rfl, h⟩
    rw [e1_nmiss hq hQ m1, if_pos rfl]
    obtain ⟨t1, t2, t3, ⟨Q, hQn, t4⟩, t5⟩ := hQ
    unfold F_X5_lay_70 F_X5_lay_160
    refine ⟨vp_in_nI hs (by omega), ?_⟩
    rw [pu_cl (t := s) (by omega), r1]
    intro v hv σ1 e1
    subst hv
    rw [if_neg (by decide), if_pos rfl, pu_cl (by omega)]
    refine ⟨vp_in_nI hq (by omega), ?_⟩
    unfold F_X1_become
    refine ⟨pu_isr2 hs, pu_isr hq, ?_⟩
    intro σ2 e2 σ3 e3
    refine ⟨by decide, ?_⟩
    intro σ4 e4
    have a4 : pu_ag (fun i => i = 59 + 3 * s ∨ i = 59 + 3 * s + 1 ∨ i = 59 + 3 * s + 1 + 1) σ σ4 := by
      rw [e4]; refine pu_ag.row ?_ (by omega)
      rw [e3]; refine pu_ag.up ?_ (by omega)
      rw [e2]; refine pu_ag.up ?_ (by omega)
      rw [e1]; exact pu_ag.up1 (by omega)
    have k1 : σ4 (59 + 3 * s) 1 = 2 := by rw [e4, pu_row_ne (by omega), e3, pu_up_ne (by omega), e2, pu_up_ne (by omega), e1, pu_up_same, pu_ue]
    have k2 : σ4 (59 + 3 * s + 1) 2 = nI Q := by
      rw [e4, pu_row_ne (by omega), e3, pu_up_same, pu_ue, e2, pu_up_ne (by omega), e1, pu_up_ne (by omega), t2, t4]
    have k3 : ∀ i, i < 24 → σ4 (59 + 3 * s + 1 + 1) i = σ 91 (24 * q + i) := by
      intro i hi
      rw [e4, pu_row_same, e3, pu_up_ne (by omega), e2, pu_up_ne (by omega), e1, pu_up_ne (by omega)]
      exact (pu_cpy hi).trans (t5 i hi).1
    show F_X6_lay _ _ _ _ _
    unfold F_X6_lay F_X6_lay_29 F_X6_lay_44
    rw [e6_sl_yes hs, if_neg (by decide), pu_yes6 zb, if_neg (by decide), if_neg (by decide), if_pos rfl, e6_sh_yes hq, if_neg (by decide), if_pos rfl, pu_cl (by omega)]
    refine ⟨vp_in_nI hq (by omega), ?_⟩
    rw [a4 89 (by omega), if_pos m2]
    refine p6_lay61 hs (A := σ 90 q) (Bv := 0) (fun σ' _ => ⟨fun z => absurd z (by decide), fun _ => ⟨q, hq, rfl, by rw [a4 90 (by omega)], rfl⟩, fun _ z => absurd rfl z⟩) (fun σ5 a5 f92 f93 f94 => ?_)
    refine ⟨25, p6_lay_cp hs hq (B := fun i => σ 91 (24 * q + i)) (f := σ 95) 24 0 σ5 (by omega) (fun i hi => absurd hi (by omega)) (fun i hi => by rw [a5 91 (by omega), a4 91 (by omega)]) (fun i hi => by rw [a5 95 (by omega), a4 95 (by omega)]) (fun σ6 a6 z6 y6 => ?_)⟩
    rw [a4 92 (by omega)]
    have a6' : pu_ag (fun i => 92 ≤ i ∧ i ≤ 95) σ4 σ6 := (a5.mono (fun i hi => by omega)).tr (a6.mono (fun i hi => by omega))
    refine ⟨rfl, pu_lay_end h hs a4 a6' (fun q hq => by rw [a6 92 (by omega), f92, pu_un hq]) (fun q hq => by rw [a6 93 (by omega), f93, pu_un hq]) (fun q hq => by rw [a6 94 (by omega), f94, pu_un hq]) (fun q hq => by rw [y6 q hq, a4 95 (by omega)]) ?_⟩
    have g92 : σ6 92 s = 2 := by rw [a6 92 (by omega), f92, pu_ue]
    have g93 : σ6 93 s = nI Q := by rw [a6 93 (by omega), f93, pu_ue, t4]
    refine ⟨by rw [g92, a6' (59 + 3 * s) (by omega), k1], by rw [g92]; exact ⟨by decide, by decide⟩, fun z => absurd (g92.symm.trans z) (by decide), fun _ => ⟨?_, ⟨Q, hQn, g93⟩, fun i hi => ?_⟩, fun z => absurd (g92.symm.trans z) (by decide)⟩
    · rw [a6' (59 + 3 * s + 1) (by omega), k2, g93]
    · rw [a6' (59 + 3 * s + 1 + 1) (by omega), k3 i hi, z6 i hi]
  · -- a number
    subst eb
    rw [if_neg (by decide)]
    unfold F_X5_lay_35 F_X5_lay_50 F_X5_lay_70 F_X5_lay_160
    rw [if_neg (by decide), if_neg (by decide)]
    refine ⟨vp_in_nI hs (by omega), ?_⟩
    rw [pu_cl (by omega), r1]
    intro v hv σ1 e1
    subst hv
    rw [if_neg (by decide), if_neg (by decide), if_pos rfl]
    intro σ2 e2
    have a2 : pu_ag (fun i => i = 59 + 3 * s ∨ i = 59 + 3 * s + 1 ∨ i = 59 + 3 * s + 1 + 1) σ σ2 := by
      rw [e2]; refine pu_ag.up ?_ (by omega)
      rw [e1]; exact pu_ag.up1 (by omega)
    show F_X6_lay _ _ _ _ _
    unfold F_X6_lay F_X6_lay_29 F_X6_lay_44
    rw [e6_sl_yes hs, if_neg (by decide), pu_yes6 zb, if_neg (by decide), if_neg (by decide), if_neg (by decide), if_neg (by decide)]
    refine p6_lay61 hs (A := c) (Bv := 0) (fun σ' _ => ⟨fun z => absurd z (by decide), fun z => absurd z (by decide), fun _ _ => ⟨rfl, rfl⟩⟩) (fun σ3 a3 f92 f93 f94 => p6_lay_no (by decide) ?_)
    rw [a2 92 (by omega)]
    refine ⟨rfl, pu_lay_end h hs a2 (a3.mono (fun i hi => by omega)) (fun q hq => by rw [f92, pu_un hq]) (fun q hq => by rw [f93, pu_un hq]) (fun q hq => by rw [f94, pu_un hq]) (fun q hq => by rw [a3 95 (by omega)]) ?_⟩
    have g92 : σ3 92 s = 3 := by rw [f92, pu_ue]
    have g59 : σ3 (59 + 3 * s) = σ2 (59 + 3 * s) := a3 _ (by omega)
    refine ⟨?_, by rw [g92]; exact ⟨by decide, by decide⟩, fun z => absurd (g92.symm.trans z) (by decide), fun z => absurd (g92.symm.trans z) (by decide), fun _ => ?_⟩
    · rw [g92, g59, e2, pu_up_same, pu_un (by omega), e1, pu_up_same, pu_ue]
    · rw [g59, e2, pu_up_same, pu_ue, f93, pu_ue]
theorem v_ask {σ : ovSt} (h : ovInv σ) (a b : Int32) : F_X5_ask a b σ (fun r σ1 => F_X6_ask a b σ1 (fun r' σ2 => r = r' ∧ ovInv σ2)) := by
  unfold F_X5_ask F_X5_ask_16 F_X5_ask_55
  rcases pu_slx a with ha | ⟨s, hs, es⟩
  · rw [e5_sl_no ha, if_pos rfl]
    show F_X6_ask _ _ _ _
    unfold F_X6_ask F_X6_ask_16
    rw [e6_sl_no ha, if_pos rfl]
    exact ⟨rfl, h⟩
  subst es
  rw [e5_sl_yes hs, if_neg (by decide)]
  by_cases zb : b < 0 ∨ 5 < b
  · rw [pu_no5 zb, if_pos rfl]
    show F_X6_ask _ _ _ _
    unfold F_X6_ask F_X6_ask_16
    rw [e6_sl_yes hs, if_neg (by decide), pu_no6 zb, if_pos rfl]
    exact ⟨rfl, h⟩
  rw [pu_yes5 zb, if_neg (by decide)]
  obtain ⟨r1, r2, r3, -, -⟩ := h.2.2.2.2.2.1 s hs
  refine ⟨vp_in_nI hs (by omega), ?_⟩
  rw [pu_cl (by omega), r1]
  have m6 : ∀ k : Int32 → ovSt → Prop, (if σ 92 s = 0 then k (-1000000011) σ else if σ 92 s = 1 then F_X6_isUnder (σ 93 s) b σ (fun v6 σ7 => if v6 = 0 then F_X6_ask_63 k σ7 else F_X6_ask_65 k (σ7 94 s) σ7) else F_X6_ask_63 k σ) → F_X6_ask (nI s) b σ k := by
    intro k hk
    unfold F_X6_ask
    rw [e6_sl_yes hs, if_neg (by decide), pu_yes6 zb, if_neg (by decide), pu_cl (by omega)]
    exact ⟨vp_in_nI hs (by omega), hk⟩
  by_cases z0 : σ 92 s = 0
  · rw [if_pos z0]
    refine m6 _ ?_
    rw [if_pos z0]
    exact ⟨rfl, h⟩
  rw [if_neg z0]
  by_cases z1 : σ 92 s = 1
  · rw [if_pos z1]
    obtain ⟨u1, u2, u3⟩ := r3 z1
    refine p5_isOfKind u1 (pu_bt zb) ?_
    have fin : ∀ k : Int32 → ovSt → Prop, (if pu_isk (σ (59 + 3 * s) 2) b = 0 then k (-1000000012) σ else k (pu_worth (σ (59 + 3 * s) 2) (σ (59 + 3 * s) 3)) σ) → F_X6_ask (nI s) b σ k := by
      intro k hk
      refine m6 k ?_
      unfold F_X6_ask_63 F_X6_ask_65
      rw [if_neg z0, if_pos z1, e6_isUnder, u2, u3]
      exact hk
    by_cases w : pu_isk (σ (59 + 3 * s) 2) b = 0
    · rw [if_pos w]
      refine fin _ ?_
      rw [if_pos w]
      exact ⟨rfl, h⟩
    · rw [if_neg w, e5_worthOf]
      refine fin _ ?_
      rw [if_neg w]
      exact ⟨rfl, h⟩
  · rw [if_neg z1]
    refine m6 _ ?_
    unfold F_X6_ask_63 F_X6_ask_65
    rw [if_neg z0, if_neg z1]
    exact ⟨rfl, h⟩
theorem v_item {σ : ovSt} (h : ovInv σ) (a b : Int32) : F_X5_item a b σ (fun r σ1 => F_X6_item a b σ1 (fun r' σ2 => r = r' ∧ ovInv σ2)) := by
  unfold F_X5_item F_X5_item_77
  rcases pu_slx a with ha | ⟨s, hs, es⟩
  · rw [e5_sl_no ha, if_pos rfl]
    show F_X6_item _ _ _ _
    unfold F_X6_item
    rw [e6_sl_no ha, if_pos rfl]
    exact ⟨rfl, h⟩
  subst es
  rw [e5_sl_yes hs, if_neg (by decide)]
  obtain ⟨r1, r2, -, r4, -⟩ := h.2.2.2.2.2.1 s hs
  refine ⟨vp_in_nI hs (by omega), ?_⟩
  rw [pu_cl (by omega), r1]
  by_cases z0 : σ 92 s = 0
  · rw [if_pos z0]
    show F_X6_item _ _ _ _
    unfold F_X6_item
    rw [e6_sl_yes hs, if_neg (by decide), pu_cl (by omega)]
    refine ⟨vp_in_nI hs (by omega), ?_⟩
    rw [if_pos z0]
    exact ⟨rfl, h⟩
  rw [if_neg z0]
  by_cases z2 : σ 92 s = 2
  · rw [if_pos z2]
    obtain ⟨u1, ⟨n, hn, u2⟩, u3⟩ := r4 z2
    rcases pu_plx (x := b) hn u2 with ⟨p1, p2⟩ | ⟨p1, p2, p, hp, ep⟩
    · rw [e1_place_no (pu_isr2 hs) (by rw [u1]; exact p1), if_pos rfl]
      show F_X6_item _ _ _ _
      unfold F_X6_item
      rw [e6_sl_yes hs, if_neg (by decide), pu_cl (by omega)]
      refine ⟨vp_in_nI hs (by omega), ?_⟩
      rw [if_neg z0, if_pos z2, pu_no6 p2, if_pos rfl]
      exact ⟨rfl, h⟩
    · rw [e1_place_yes (pu_isr2 hs) (by rw [u1]; exact p1), if_neg (by decide)]
      subst ep
      rw [e1_num (pu_isr2 hs) (show p < 24 by omega), u3 p (by omega)]
      have fin : ∀ k : Int32 → ovSt → Prop, (if σ 95 (24 * s + p) = -1000000005 then k (-1000000012) σ else k (σ 95 (24 * s + p)) σ) → F_X6_item (nI s) (nI p) σ k := by
        intro k hk
        unfold F_X6_item F_X6_item_79
        rw [e6_sl_yes hs, if_neg (by decide), pu_cl (t := s) (by omega)]
        refine ⟨vp_in_nI hs (by omega), ?_⟩
        rw [if_neg z0, if_pos z2, pu_yes6 p2, if_neg (by decide), pu_ix24, pu_cl (by omega)]
        refine ⟨vp_in_nI (by omega) (by omega), ?_⟩
        intro v hv
        subst hv
        exact hk
      by_cases w : σ 95 (24 * s + p) = -1000000005
      · rw [if_pos w, if_pos rfl]
        refine fin _ ?_
        rw [if_pos w]
        exact ⟨rfl, h⟩
      · rw [if_neg w, if_neg (by decide)]
        refine ⟨vp_in_nI (show p < 24 by omega) (by omega), ?_⟩
        rw [pu_cl (by omega), u3 p (by omega)]
        refine fin _ ?_
        rw [if_neg w]
        exact ⟨rfl, h⟩
  · rw [if_neg z2]
    show F_X6_item _ _ _ _
    unfold F_X6_item
    rw [e6_sl_yes hs, if_neg (by decide), pu_cl (by omega)]
    refine ⟨vp_in_nI hs (by omega), ?_⟩
    rw [if_neg z0, if_neg z2]
    exact ⟨rfl, h⟩
theorem pu_rem_m1 (x : Int32) : x - x / (-1) * (-1) = 0 := by
  have e : x / (-1) = -x := by
    rw [fa_eq, Int32.toInt_div, show (-1 : Int32).toInt = -1 from rfl, Int.tdiv_neg, Int.tdiv_one, Int32.toInt_neg]
  rw [e, Int32.mul_neg, Int32.mul_one, Int32.neg_neg, Int32.sub_self]
theorem v_rest {σ : ovSt} (h : ovInv σ) (a b : Int32) : F_X5_rest a b σ (fun r σ1 => F_X6_rest a b σ1 (fun r' σ2 => r = r' ∧ ovInv σ2)) := by
  unfold F_X5_rest F_X5_rest_53
  rcases pu_slx a with ha | ⟨s, hs, es⟩
  · rw [e5_sl_no ha, if_pos rfl]
    show F_X6_rest _ _ _ _
    unfold F_X6_rest
    rw [e6_sl_no ha, if_pos rfl]
    exact ⟨rfl, h⟩
  subst es
  rw [e5_sl_yes hs, if_neg (by decide)]
  obtain ⟨r1, r2, -, -, r5⟩ := h.2.2.2.2.2.1 s hs
  refine ⟨vp_in_nI hs (by omega), ?_⟩
  rw [pu_cl (by omega), r1]
  have m6 : ∀ k : Int32 → ovSt → Prop, (if σ 92 s = 0 then k (-1000000011) σ else if σ 92 s = 3 then (if b = 0 then k (-1000000002) σ else (if b = -1 then k 0 σ else k (σ 93 s - σ 93 s / b * b) σ)) else k (-1000000012) σ) → F_X6_rest (nI s) b σ k := by
    intro k hk
    unfold F_X6_rest F_X6_rest_61
    rw [e6_sl_yes hs, if_neg (by decide), pu_cl (by omega)]
    refine ⟨vp_in_nI hs (by omega), ?_⟩
    by_cases z0 : σ 92 s = 0
    · rw [if_pos z0] at hk ⊢; exact hk
    rw [if_neg z0] at hk ⊢
    by_cases z3 : σ 92 s = 3
    · rw [if_pos z3] at hk ⊢
      by_cases y0 : b = 0
      · rw [if_pos y0] at hk ⊢; exact hk
      rw [if_neg y0] at hk ⊢
      by_cases y1 : b = -1
      · rw [if_pos y1] at hk ⊢; exact hk
      rw [if_neg y1] at hk ⊢
      exact ⟨y0, hk⟩
    · rw [if_neg z3] at hk ⊢; exact hk
  by_cases z0 : σ 92 s = 0
  · rw [if_pos z0]
    refine m6 _ ?_
    rw [if_pos z0]
    exact ⟨rfl, h⟩
  rw [if_neg z0]
  by_cases z3 : σ 92 s = 3
  · rw [if_pos z3, r5 z3]
    by_cases y0 : b = 0
    · rw [if_pos y0]
      refine m6 _ ?_
      rw [if_neg z0, if_pos z3, if_pos y0]
      exact ⟨rfl, h⟩
    · rw [if_neg y0]
      refine ⟨y0, ?_⟩
      refine m6 _ ?_
      rw [if_neg z0, if_pos z3, if_neg y0]
      by_cases y1 : b = -1
      · rw [if_pos y1, y1, pu_rem_m1]
        exact ⟨rfl, h⟩
      · rw [if_neg y1]
        exact ⟨rfl, h⟩
  · rw [if_neg z3]
    refine m6 _ ?_
    rw [if_neg z0, if_neg z3]
    exact ⟨rfl, h⟩
