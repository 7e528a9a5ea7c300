/-! ===== the class's taste of a thing ===== -/
theorem pu_plain_in {g : Nat → Int32} (hg : pu_WG g) {t : Nat} (ht : t < 8) : pu_in (pu_plain g t) 0 8999 := by
  obtain ⟨-, -, -, -, h⟩ := hg
  obtain ⟨-, ⟨b1, b2⟩, ⟨a1, a2⟩, -⟩ := h t ht
  have p1 : 0 ≤ (g (8 + 4 * t + 2)).toInt * (g (8 + 4 * t + 1)).toInt := Int.mul_nonneg a1 b1
  have p2 : (g (8 + 4 * t + 2)).toInt * (g (8 + 4 * t + 1)).toInt ≤ 99999 * 9 := Int.mul_le_mul a2 b2 b1 (by decide)
  have e := fb_mulI (x := g (8 + 4 * t + 2)) (y := g (8 + 4 * t + 1)) (by omega) (by omega)
  unfold pu_plain pu_in
  rw [pu_divI (by omega) (by decide), e, show (100 : Int32).toInt = 100 from rfl]
  omega
theorem pu_RS.ag {σ σ' : ovSt} {s : Nat} {g : Nat → Int32} (h : pu_RS σ s g) (ha : ∀ i, s ≤ i → i ≤ s + 5 → σ' i = σ i) : pu_RS σ' s g := by
  unfold pu_RS at h ⊢
  rw [ha s (by omega) (by omega), ha (s + 1) (by omega) (by omega), ha (s + 2) (by omega) (by omega), ha (s + 3) (by omega) (by omega), ha (s + 4) (by omega) (by omega), ha (s + 5) (by omega) (by omega)]
  exact h
theorem pu_LS.ag {σ σ' : ovSt} {g : Nat → Int32} (hg : pu_WG g) (h : pu_LS σ g) (ha : ∀ i, 3 ≤ i → i ≤ 19 → σ' i = σ i) : pu_LS σ' g := by
  obtain ⟨-, ⟨m, hm, h7, -⟩, -⟩ := hg
  intro t ht key L hT
  have ht' := ht
  rw [h7, pu_cl (by omega)] at ht'
  have h1 := h t ht key L hT
  rw [ha 17 (by omega) (by omega), ha 18 (by omega) (by omega), ha 19 (by omega) (by omega), ha (3 + t) (by omega) (by omega)]
  exact h1
theorem p3_thing {s : Nat} (hs : ov_stk s) {t : Nat} (ht : t < 8) {g : Nat → Int32} {σ : ovSt} (hR : pu_RS σ s g) (k : Int32 → ovSt → Prop) : F_X3_tasteAsThing s (nI t) σ k = k (pu_plain g t) σ := by
  unfold F_X3_tasteAsThing pu_plain
  obtain ⟨-, r2, -⟩ := hR
  obtain ⟨-, q2, q3, -⟩ := r2 t ht
  rw [pu_cl (by omega), q2, q3]
  exact propext ⟨fun h => h.2.2, fun h => ⟨hs, vp_in_nI ht (by omega), h⟩⟩
theorem p3_bone {s : Nat} (hs : ov_stk s) {t : Nat} (ht : t < 8) {g : Nat → Int32} (hg : pu_WG g) {σ : ovSt} (hR : pu_RS σ s g) (k : Int32 → ovSt → Prop) : F_X3_tasteAsBone s (nI t) σ k = k (pu_plain g t + pu_old g t) σ := by
  unfold F_X3_tasteAsBone F_X3_tasteAsBone_24
  simp only [p3_thing hs ht hR]
  obtain ⟨-, r2, -⟩ := hR
  obtain ⟨-, -, q3, q4⟩ := r2 t ht
  obtain ⟨-, -, -, a4⟩ := hg.2.2.2.2 t ht
  rw [pu_cl (by omega), q3, q4, pu_min_within a4.1]
  unfold pu_old
  by_cases z : g (8 + 4 * t + 2) ≤ 0
  · rw [if_pos z, if_pos z]
    exact propext ⟨fun h => h.2.2, fun h => ⟨hs, vp_in_nI ht (by omega), h⟩⟩
  · rw [if_neg z, if_neg z]
    exact propext ⟨fun h => h.2.2, fun h => ⟨hs, vp_in_nI ht (by omega), h⟩⟩
theorem pu_within_zero (v : Int32) : pu_within v 0 0 = 0 := by
  have h := pu_within_in (v := v) (lo := 0) (hi := 0) (Int.le_refl _)
  rw [fa_eq]
  have e : (0 : Int32).toInt = 0 := rfl
  have h1 := h.1
  have h2 := h.2
  omega
theorem p3_herb {s : Nat} (hs : ov_stk s) {t : Nat} (ht : t < 8) {g : Nat → Int32} (hg : pu_WG g) {σ : ovSt} (hR : pu_RS σ s g) (hLS : pu_LS σ g) {k : Int32 → ovSt → Prop} (h : ∀ σ', pu_ag (fun i => i = 20) σ σ' → k (pu_plain g t - pu_fades g t) σ') : F_X3_tasteAsHerb s (nI t) σ k := by
  unfold F_X3_tasteAsHerb
  refine ⟨hs, ?_⟩
  rw [p3_thing hs ht hR]
  show (if pu_plain g t = 0 then _ else _)
  have hp := pu_plain_in hg ht
  by_cases z : pu_plain g t = 0
  · rw [if_pos z]
    have h0 := h σ (pu_ag.rf _ σ)
    unfold pu_fades at h0
    rw [z, pu_within_zero] at h0
    exact h0
  · rw [if_neg z]
    refine ⟨vp_in_nI (n := 0) (by decide) (by decide), ?_⟩
    intro v hv
    have q5 := hR.2.2 0 (by decide)
    obtain ⟨-, -, q3, q4⟩ := hR.2.1 t ht
    rw [show σ (s + 5) (Int32.toNatClampNeg 0) = pu_law g (nI 0) from q5] at hv
    subst hv
    rw [pu_cl (by omega), q3, q4]
    unfold F_X3_tasteAsHerb_55 F_X5_held
    unfold pu_fades at h
    rcases pu_law_in hg 0 (by decide) with q | ⟨x, L, hx, hxm, q, hTG⟩
    · rw [show pu_law g 0 = -1 from q, if_neg pu_m1] at h
      rw [q, if_neg pu_m1]
      refine ⟨vp_in_nI ht (by omega), ?_⟩
      rw [pu_held_within hp.1, Int32.mul_comm]
      exact h σ (pu_ag.rf _ σ)
    · rw [show pu_law g 0 = nI x from q, if_pos (nI_pos' (by omega)), pu_cl (by omega)] at h
      rw [q, if_pos (nI_pos' (by omega))]
      refine ⟨vp_in_nI ht (by omega), ?_⟩
      refine p0_workOut hx hxm hTG hLS (fun σ' ha => ?_)
      rw [pu_held_within hp.1]
      exact h σ' ha
theorem p3_tasteOf {s : Nat} (hs : ov_stk s) {t : Nat} (ht : t < 8) {g : Nat → Int32} (hg : pu_WG g) {σ : ovSt} (hR : pu_RS σ s g) (hLS : pu_LS σ g) {k : Int32 → ovSt → Prop} (h : ∀ σ', pu_ag (fun i => i = 20) σ σ' → k (pu_taste g t) σ') : F_X3_tasteOf s (nI t) σ k := by
  unfold F_X3_tasteOf
  simp only [p3_thing hs ht hR, p3_bone hs ht hg hR]
  refine ⟨hs, vp_in_nI ht (by omega), ?_⟩
  obtain ⟨q1, -, -, -⟩ := hR.2.1 t ht
  rw [pu_cl (by omega), q1]
  have h0 := h σ (pu_ag.rf _ σ)
  unfold pu_taste at h h0
  by_cases z1 : g (8 + 4 * t) = 1
  · rw [if_pos z1] at h0 ⊢; exact h0
  · rw [if_neg z1] at h0 h ⊢
    by_cases z2 : g (8 + 4 * t) = 2
    · rw [if_pos z2] at h ⊢; exact p3_herb hs ht hg hR hLS h
    · rw [if_neg z2] at h0 h ⊢
      by_cases z3 : g (8 + 4 * t) = 3
      · rw [if_pos z3] at h0 ⊢; exact h0
      · rw [if_neg z3] at h0 h ⊢
        by_cases z4 : g (8 + 4 * t) = 4
        · rw [if_pos z4] at h ⊢; exact p3_herb hs ht hg hR hLS h
        · rw [if_neg z4] at h0 ⊢
          by_cases z5 : g (8 + 4 * t) = 5
          · rw [if_pos z5] at h0 ⊢; exact h0
          · rw [if_neg z5] at h0 ⊢; exact h0
