/-! ===== told ===== -/
theorem e5_worthOf (kd x : Int32) (σ : ovSt) (k : Int32 → ovSt → Prop) : F_X5_worthOf kd x σ k = k (pu_worth kd x) σ := by
  unfold F_X5_worthOf pu_worth
  have e : 40 - x - 3 = 37 - x := by
    rw [Int32.sub_eq_add_neg, Int32.sub_eq_add_neg, Int32.add_assoc, Int32.add_comm (-x), ← Int32.add_assoc, Int32.sub_eq_add_neg]
    rfl
  rw [e]
  repeat' split
  all_goals first | rfl | contradiction
theorem e6_worthOf {t : Nat} (ht : t < 8) (σ : ovSt) (k : Int32 → ovSt → Prop) : F_X6_worthOf (nI t) σ k = k (pu_worth (σ 75 (8 + 4 * t)) (σ 75 (8 + 4 * t + 1))) σ := by
  unfold F_X6_worthOf pu_worth
  rw [e6_of1 ht, e6_of0 ht]
  repeat' split
  all_goals first | rfl | contradiction
def pu_bill (g : Nat → Int32) (t : Nat) : Int32 := if 0 ≤ pu_law g 1 then pu_text g (pu_law g 1).toNatClampNeg (pu_taste g t) (pu_worth (g (8 + 4 * t)) (g (8 + 4 * t + 1))) 0 else pu_taste g t
theorem p3_bill {s : Nat} (hs : ov_stk s) {t : Nat} (ht : t < 8) {g : Nat → Int32} (hg : pu_WG g) {σ : ovSt} (hR : pu_RS σ s g) (hLS : pu_LS σ g) {k : Int32 → ovSt → Prop} (h : ∀ σ', pu_ag (fun i => i = 20) σ σ' → k (pu_bill g t) σ') : F_X3_billOf s (nI t) σ k := by
  have hr := pu_stk_rng hs
  unfold F_X3_billOf
  refine ⟨hs, vp_in_nI (n := 1) (by decide) (by decide), ?_⟩
  intro v hv
  rw [show σ (s + 5) (Int32.toNatClampNeg 1) = pu_law g 1 from hR.2.2 1 (by decide)] at hv
  subst hv
  refine p3_tasteOf hs ht hg hR hLS (fun σ1 ha => ?_)
  have hL1 := hLS.ag hg (fun i h1 h2 => ha i (by omega))
  have hR1 := hR.ag (σ' := σ1) (fun i h1 h2 => ha i (by omega))
  unfold F_X3_billOf_46
  unfold pu_bill at h
  rcases pu_law_in hg 1 (by decide) with q | ⟨x, L, hx, hxm, q, hTG⟩
  · have q : pu_law g 1 = -1 := q
    rw [q] at h ⊢
    rw [if_neg pu_m1] at h ⊢
    exact h σ1 ha
  · have q : pu_law g 1 = nI x := q
    rw [q] at h ⊢
    rw [if_pos (nI_pos' (by omega))] at h ⊢
    rw [pu_cl (by omega)] at h
    refine ⟨vp_in_nI ht (by omega), ?_⟩
    rw [pu_cl (by omega), (hR1.2.1 t ht).1, (hR1.2.1 t ht).2.1, e5_worthOf]
    exact p0_workOut hx hxm hTG hL1 (fun σ2 hb => h σ2 (ha.tr hb))
theorem p6_bill {σ : ovSt} (hg : pu_WG (σ 75)) {t : Nat} (ht : t < 8) {k : Int32 → ovSt → Prop} (h : ∀ σ', pu_ag (fun i => i = 87 ∨ i = 88) σ σ' → k (pu_bill (σ 75) t) σ') : F_X6_billOf (nI t) σ k := by
  unfold F_X6_billOf
  obtain ⟨m, hm, h7, hT⟩ := hg.2.1
  refine p6_counts hm h7 ?_
  refine p6_tasteOf hg ht (fun σ1 ha => ?_)
  have e1 : σ1 75 = σ 75 := ha 75 (by decide)
  rw [e6_worthOf ht, e1]
  refine ⟨vp_in_nI (n := 0) (by decide) (by decide), ?_⟩
  intro σ2 e2
  refine ⟨vp_in_nI (n := 1) (by decide) (by decide), ?_⟩
  intro σ3 e3
  have a2 : pu_ag (fun i => i = 87 ∨ i = 88) σ σ2 := by rw [e2]; exact pu_ag.up ha (Or.inr rfl)
  have a3 : pu_ag (fun i => i = 87 ∨ i = 88) σ σ3 := by rw [e3]; exact pu_ag.up a2 (Or.inr rfl)
  have g3 : σ3 75 = σ 75 := a3 75 (by decide)
  unfold pu_bill at h
  rcases pu_law_in hg 1 (by decide) with q | ⟨x, L, hx, hxm, q, hTG⟩
  · have q : pu_law (σ 75) 1 = -1 := q
    rw [q] at h ⊢
    rw [if_neg pu_m1] at h ⊢
    unfold F_X6_billOf_47
    exact h σ3 a3
  · have q : pu_law (σ 75) 1 = nI x := q
    rw [q] at h ⊢
    rw [if_pos (nI_pos' (by omega))] at h ⊢
    rw [pu_cl (by omega)] at h
    refine p6_worksOut (t := x) (key := 1) (L := L) hx (by rw [g3]; exact hTG) (a := pu_taste (σ 75) t) (b := pu_worth (σ 75 (8 + 4 * t)) (σ 75 (8 + 4 * t + 1))) (c := 0) ?_ ?_ (fun z => absurd z (by decide)) (fun σ' hb => ?_)
    · rw [e3, pu_up_same, e2, pu_up_same]; rfl
    · rw [e3, pu_up_same]; rfl
    · unfold F_X6_billOf_47
      rw [g3]
      exact h σ' (a3.tr (hb.mono (fun i hi => Or.inl hi)))
theorem pu_scr {σ σ1 σ2 : ovSt} (h : pu_I1 σ) (ha : pu_ag (fun i => i = 20) σ σ1) (hb : pu_ag (fun i => i = 87 ∨ i = 88) σ1 σ2) : pu_good σ σ2 :=
  pu_good.sc h ((ha.mono (fun i hi => by unfold pu_XT; omega)).tr (hb.mono (fun i hi => by unfold pu_XT; omega)))
def pu_share (g : Nat → Int32) (t : Nat) : Int32 := if pu_aall g = 0 then 0 else Int64.toInt32 ((10000 * Int32.toInt64 (g (8 + 4 * t + 2))) / Int32.toInt64 (pu_aall g))
theorem pu_64 {x : Int32} (h : ¬ x = 0) : ¬ Int32.toInt64 x = 0 := by
  intro z
  refine h ?_
  have e : (Int32.toInt64 x).toInt = (0 : Int64).toInt := by rw [z]
  rw [Int32.toInt_toInt64] at e
  rw [fa_eq]
  exact e
theorem v_told {σ : ovSt} (h : pu_I1 σ) (a b : Int32) : F_X5_told a b σ (fun r σ1 => F_X6_told a b σ1 (fun r' σ2 => r = r' ∧ pu_good σ σ2)) := by
  unfold F_X5_told
  rcases pu_hasx h.1 a with ha | ⟨t, ht, ht8, ea⟩
  · rw [e3_has_no pu_s21 h.2.1 ha, if_pos rfl]
    show F_X6_told _ _ _ _
    unfold F_X6_told
    rw [e6_isThing_no h.1 ha, if_pos rfl]
    exact ⟨rfl, pu_good.rf h⟩
  · subst ea
    obtain ⟨q0, q1, q2, q3⟩ := h.2.1.2.1 t ht8
    have vi : vp_in (nI t) 8 := vp_in_nI ht8 (by omega)
    rw [e3_has_yes pu_s21 h.1 h.2.1 ht, if_neg (by decide), pu_cl (by omega)]
    have hm : ∀ (σ1 : ovSt) (r : Int32), σ1 75 = σ 75 → (if b = 0 then F_X6_of (nI t) b σ1 (fun r' σ2 => r = r' ∧ pu_good σ σ2) else if b = 1 then F_X6_of (nI t) b σ1 (fun r' σ2 => r = r' ∧ pu_good σ σ2) else if b = 2 then F_X6_of (nI t) b σ1 (fun r' σ2 => r = r' ∧ pu_good σ σ2) else if b = 3 then F_X6_of (nI t) b σ1 (fun r' σ2 => r = r' ∧ pu_good σ σ2) else if b = 4 then F_X6_tasteOf (nI t) σ1 (fun r' σ2 => r = r' ∧ pu_good σ σ2) else if b = 5 then F_X6_wearsOf (nI t) σ1 (fun r' σ2 => r = r' ∧ pu_good σ σ2) else if b = 6 then F_X6_worthOf (nI t) σ1 (fun r' σ2 => r = r' ∧ pu_good σ σ2) else if b = 7 then F_X6_shareOf (nI t) σ1 (fun r' σ2 => r = r' ∧ pu_good σ σ2) else if b = 8 then F_X6_billOf (nI t) σ1 (fun r' σ2 => r = r' ∧ pu_good σ σ2) else (r = (-1000000001) ∧ pu_good σ σ1)) → F_X6_told (nI t) b σ1 (fun r' σ2 => r = r' ∧ pu_good σ σ2) := by
      intro σ1 r e1 hx
      unfold F_X6_told
      rw [e6_isThing_yes (by rw [e1]; exact h.1) (by rw [e1]; exact ht), if_neg (by decide)]
      exact hx
    by_cases b0 : b = 0
    · rw [if_pos b0]
      refine ⟨vi, hm σ _ rfl ?_⟩
      rw [if_pos b0, b0, e6_of0 ht8]
      exact ⟨q0, pu_good.rf h⟩
    rw [if_neg b0]
    by_cases b1 : b = 1
    · rw [if_pos b1]
      refine ⟨vi, hm σ _ rfl ?_⟩
      rw [if_neg b0, if_pos b1, b1, e6_of1 ht8]
      exact ⟨q1, pu_good.rf h⟩
    rw [if_neg b1]
    by_cases b2 : b = 2
    · rw [if_pos b2]
      refine ⟨vi, hm σ _ rfl ?_⟩
      rw [if_neg b0, if_neg b1, if_pos b2, b2, e6_of2 ht8]
      exact ⟨q2, pu_good.rf h⟩
    rw [if_neg b2]
    by_cases b3 : b = 3
    · rw [if_pos b3]
      refine ⟨vi, hm σ _ rfl ?_⟩
      rw [if_neg b0, if_neg b1, if_neg b2, if_pos b3, b3, e6_of3 ht8]
      exact ⟨q3, pu_good.rf h⟩
    rw [if_neg b3]
    by_cases b4 : b = 4
    · rw [if_pos b4]
      refine p3_tasteOf pu_s21 ht8 h.1 h.2.1 h.2.2.1 (fun σ1 hs1 => ?_)
      have e1 : σ1 75 = σ 75 := hs1 75 (by decide)
      refine hm σ1 _ e1 ?_
      rw [if_neg b0, if_neg b1, if_neg b2, if_neg b3, if_pos b4]
      refine p6_tasteOf (by rw [e1]; exact h.1) ht8 (fun σ2 hs2 => ⟨by rw [e1], pu_scr h hs1 hs2⟩)
    rw [if_neg b4]
    by_cases b5 : b = 5
    · rw [if_pos b5, e3_wearsOf pu_s21 ht8 (by rw [q2]; exact (h.1.2.2.2.2 t ht8).2.2.1), q0, q2]
      refine hm σ _ rfl ?_
      rw [if_neg b0, if_neg b1, if_neg b2, if_neg b3, if_neg b4, if_pos b5, e6_wearsOf ht8]
      exact ⟨rfl, pu_good.rf h⟩
    rw [if_neg b5]
    by_cases b6 : b = 6
    · rw [if_pos b6, e5_worthOf]
      refine ⟨vi, hm σ _ rfl ?_⟩
      rw [if_neg b0, if_neg b1, if_neg b2, if_neg b3, if_neg b4, if_neg b5, if_pos b6, e6_worthOf ht8]
      exact ⟨by rw [← q0, ← q1], pu_good.rf h⟩
    rw [if_neg b6]
    by_cases b7 : b = 7
    · rw [if_pos b7]
      unfold F_X3_shareOf F_X3_shareOf_28
      refine ⟨pu_s21, p3_amountOfAll pu_s21 h.1 h.2.1 ?_⟩
      by_cases z : pu_aall (σ 75) = 0
      · rw [if_pos z]
        refine hm σ _ rfl ?_
        rw [if_neg b0, if_neg b1, if_neg b2, if_neg b3, if_neg b4, if_neg b5, if_neg b6, if_pos b7]
        unfold F_X6_shareOf F_X6_shareOf_28
        refine p6_amountAll h.1 ?_
        rw [if_pos z]
        exact ⟨rfl, pu_good.rf h⟩
      · rw [if_neg z]
        refine ⟨vi, pu_64 z, hm σ _ rfl ?_⟩
        rw [if_neg b0, if_neg b1, if_neg b2, if_neg b3, if_neg b4, if_neg b5, if_neg b6, if_pos b7]
        unfold F_X6_shareOf F_X6_shareOf_28
        refine p6_amountAll h.1 ?_
        rw [if_neg z, e6_of2 ht8]
        refine ⟨pu_64 z, ?_, pu_good.rf h⟩
        rw [pu_cl (by omega), q2]
    rw [if_neg b7]
    by_cases b8 : b = 8
    · rw [if_pos b8]
      refine p3_bill pu_s21 ht8 h.1 h.2.1 h.2.2.1 (fun σ1 hs1 => ?_)
      have e1 : σ1 75 = σ 75 := hs1 75 (by decide)
      refine hm σ1 _ e1 ?_
      rw [if_neg b0, if_neg b1, if_neg b2, if_neg b3, if_neg b4, if_neg b5, if_neg b6, if_neg b7, if_pos b8]
      exact p6_bill (by rw [e1]; exact h.1) ht8 (fun σ2 hs2 => ⟨by rw [e1], pu_scr h hs1 hs2⟩)
    rw [if_neg b8]
    refine hm σ _ rfl ?_
    rw [if_neg b0, if_neg b1, if_neg b2, if_neg b3, if_neg b4, if_neg b5, if_neg b6, if_neg b7, if_neg b8]
    exact ⟨rfl, pu_good.rf h⟩
