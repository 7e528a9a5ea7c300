/-! ===== check ===== -/
def pu_ck (g W : Nat → Int32) (C : Nat) : Nat → Nat → Int32
  | 0, j => if 2 * j = C then 0 else nI (1 + 2 * j)
  | m + 1, j => if 2 * j < C then (if W (2 * j) = pu_tall (pu_dn g (j + 1)) then (if 2 * j + 1 < C then (if W (2 * j + 1) = pu_aall (pu_dn g (j + 1)) then pu_ck g W C m (j + 1) else nI (2 + 2 * j)) else nI (2 + 2 * j)) else nI (1 + 2 * j)) else nI (1 + 2 * j)
theorem p5_waits {k : Int32 → ovSt → Prop} {C p : Nat} (hC : C ≤ 60) (hp : p < 100) {v : Int32} {σ : ovSt} (h9 : σ 0 9 = nI C) (h1 : p < C → σ 50 p = v → k 1 σ) (h0 : (C ≤ p ∨ ¬ σ 50 p = v) → k 0 σ) : F_X5_waitsAt (nI p) v σ k := by
  unfold F_X5_waitsAt F_X5_waitsAt_22 F_X5_waitsAt_23
  rw [h9]
  by_cases z : C ≤ p
  · rw [if_pos (nI_le z (by omega))]
    exact ⟨pu_bl0, h0 (Or.inl z)⟩
  · rw [if_neg (by rw [nI_leI (by omega) (by omega)]; exact z)]
    refine ⟨vp_in_nI (by omega) (by omega), ?_⟩
    rw [pu_cl (by omega)]
    by_cases y : σ 50 p = v
    · rw [if_pos y]; exact ⟨pu_bl1, h1 (by omega) y⟩
    · rw [if_neg y]; exact ⟨pu_bl0, h0 (Or.inr y)⟩
theorem p5_check_loop {k : Int32 → ovSt → Prop} {g W : Nat → Int32} (hg : pu_WG g) {C D : Nat} (hC : C ≤ 60) (hD : D ≤ 30) : ∀ (m j : Nat) (σ : ovSt), j + m = D → pu_RS σ 33 (pu_dn g j) → pu_LS σ g → σ 0 9 = nI C → σ 50 = W → (∀ σ', pu_ag (fun i => i = 20 ∨ (33 ≤ i ∧ i ≤ 38)) σ σ' → k (pu_ck g W C m j) σ') → F_X5_firstUntrue_15 k (m + 1) (nI D) (nI (2 * j)) (nI j) σ
  | 0, j, σ, hj, hR, hL, h9, hW, h => by
    have ej : j = D := by omega
    subst ej
    unfold F_X5_firstUntrue_15 F_X5_firstUntrue_91
    rw [if_pos (Int32.le_refl _), h9]
    have h0 := h σ (pu_ag.rf _ σ)
    unfold pu_ck at h0
    by_cases z : 2 * j = C
    · rw [if_pos z] at h0
      rw [if_pos (by rw [z])]
      exact h0
    · rw [if_neg z] at h0
      rw [if_neg (by rw [nI_eq (by omega) (by omega)]; exact z), show 1 + nI (2 * j) = nI (1 + 2 * j) from nI_add 1 (2 * j)]
      exact h0
  | m + 1, j, σ, hj, hR, hL, h9, hW, h => by
    unfold F_X5_firstUntrue_15
    rw [if_neg (by rw [nI_leI (by omega) (by omega)]; omega)]
    refine p3_passDay pu_s33 (pu_WG_dn hg j) hR (fun σ1 h1 R1 => ?_)
    have L1 : pu_LS σ1 g := hL.ag hg (fun i x y => h1 i (by unfold pu_stX; omega))
    have W1 := pu_WG_dn hg (j + 1)
    refine p3_tasteOfAll pu_s33 W1 R1 (pu_tx_LS (pu_tx_dn hg (j + 1)) L1) (fun σ2 h2 => ?_)
    have a2 : pu_ag (fun i => i = 20 ∨ (33 ≤ i ∧ i ≤ 38)) σ σ2 := (h1.mono (fun i hi => by unfold pu_stX at hi; omega)).tr (h2.mono (fun i hi => by omega))
    have f9 : σ2 0 9 = nI C := by rw [a2 0 (by omega), h9]
    have f50 : σ2 50 = W := by rw [a2 50 (by omega), hW]
    have R2 := R1.ag (σ' := σ2) (fun i x y => h2 i (by omega))
    have L2 : pu_LS σ2 g := L1.ag hg (fun i x y => h2 i (by omega))
    have h0 := h σ2 a2
    refine p5_waits hC (by omega) f9 (fun c1 c2 => ?_) (fun cc => ?_)
    · rw [f50] at c2
      rw [if_neg (by decide)]
      refine p3_amountOfAll pu_s33 W1 R2 ?_
      rw [nI_1]
      refine p5_waits hC (by omega) f9 (fun d1 d2 => ?_) (fun dd => ?_)
      · rw [f50] at d2
        rw [if_neg (by decide), ← nI_succ, show nI (2 * j) + 2 = nI (2 * (j + 1)) from nI_add (2 * j) 2]
        refine p5_check_loop hg hC hD m (j + 1) σ2 (by omega) R2 L2 f9 f50 (fun σ3 h3 => ?_)
        have h5 := h σ3 (a2.tr h3)
        unfold pu_ck at h5
        rw [if_pos c1, if_pos c2, if_pos d1, if_pos d2] at h5
        exact h5
      · rw [if_pos rfl, show 2 + nI (2 * j) = nI (2 + 2 * j) from nI_add 2 (2 * j)]
        unfold pu_ck at h0
        rw [if_pos c1, if_pos c2] at h0
        by_cases d1 : 2 * j + 1 < C
        · rw [if_pos d1, if_neg (by rw [f50] at dd; exact dd.resolve_left (by omega))] at h0
          exact h0
        · rw [if_neg d1] at h0
          exact h0
    · rw [if_pos rfl, show 1 + nI (2 * j) = nI (1 + 2 * j) from nI_add 1 (2 * j)]
      unfold pu_ck at h0
      by_cases c1 : 2 * j < C
      · rw [if_pos c1, if_neg (by rw [f50] at cc; exact cc.resolve_left (by omega))] at h0
        exact h0
      · rw [if_neg c1] at h0
        exact h0
theorem p6_ck177 {k : Int32 → ovSt → Prop} {g0 g : Nat → Int32} {f : Nat → Int32} (hz : ∀ c, 1412 ≤ c → g0 c = 0 ∧ g c = 0) {C D r : Nat} (hC : C ≤ 60) (hD : D ≤ 30) (hr : r ≤ 60) {σ : ovSt} (ht : pu_tx g (σ 75)) (e77 : σ 77 = pu_ov f g0 1412) (h : ∀ σ', pu_ag (fun i => i = 75) σ σ' → σ' 75 = g0 → k (if r = C then (if r = 2 * D then 0 else nI (1 + r)) else nI (1 + r)) σ') : F_X6_check_177 k (nI C) (nI (2 * D)) (nI r) σ := by
  unfold F_X6_check_177 F_X6_check_204 F_X6_check_208
  refine p6_copyAll (by omega) (by omega) (by omega) (fun σ1 h1 e1 => ?_)
  rw [e77, pu_back1412 ht hz] at e1
  have h0 := h σ1 h1 e1
  rw [show 1 + nI r = nI (1 + r) from nI_add 1 r]
  by_cases z : r = C
  · rw [if_pos z] at h0
    rw [if_pos (by rw [z])]
    by_cases y : r = 2 * D
    · rw [if_pos y] at h0
      rw [if_pos (by rw [y])]
      exact h0
    · rw [if_neg y] at h0
      rw [if_neg (by rw [nI_eq (by omega) (by omega)]; exact y)]
      exact h0
  · rw [if_neg z] at h0
    rw [if_neg (by rw [nI_eq (by omega) (by omega)]; exact z)]
    exact h0
theorem p6_ck_exit {k : Int32 → ovSt → Prop} {C D r j m : Nat} (hC : C ≤ 60) (hD : D ≤ 30) (hr : r ≤ 60) (hj : j ≤ 30) (hne : r ≠ 2 * j) {σ : ovSt} (h : F_X6_check_177 k (nI C) (nI (2 * D)) (nI r) σ) : F_X6_check_79 k (m + 1) (nI C) (nI (2 * D)) (nI r) (nI j) σ := by
  unfold F_X6_check_79
  rw [show 2 * nI j = nI (2 * j) from pk_mul 2 j]
  by_cases z : nI (2 * D) ≤ nI (2 * j)
  · rw [if_pos z]; exact h
  · rw [if_neg z, if_neg (by rw [nI_eq (by omega) (by omega)]; exact hne)]; exact h
theorem p6_check_loop {k : Int32 → ovSt → Prop} {g g0 W f : Nat → Int32} (hg : pu_WG g) (hz : ∀ c, 1412 ≤ c → g0 c = 0 ∧ g c = 0) {C D : Nat} (hC : C ≤ 60) (hD : D ≤ 30) : ∀ (m j : Nat) (σ : ovSt), j + m = D → σ 75 = pu_dn g j → σ 77 = pu_ov f g0 1412 → (∀ i, i < C → σ 97 i = W i) → (∀ σ', pu_ag (fun i => i = 75 ∨ i = 87 ∨ i = 88) σ σ' → σ' 75 = g0 → k (pu_ck g W C m j) σ') → F_X6_check_79 k (m + 1) (nI C) (nI (2 * D)) (nI (2 * j)) (nI j) σ
  | 0, j, σ, hj, e, e77, hW, h => by
    have ej : j = D := by omega
    subst ej
    unfold F_X6_check_79
    rw [show 2 * nI j = nI (2 * j) from pk_mul 2 j, if_pos (Int32.le_refl _)]
    refine p6_ck177 hz hC hD (by omega) (by rw [e]; exact pu_tx_dn hg j) e77 (fun σ1 h1 e1 => ?_)
    have h0 := h σ1 (h1.mono (fun i hi => by omega)) e1
    unfold pu_ck at h0
    rw [if_pos rfl]
    exact h0
  | m + 1, j, σ, hj, e, e77, hW, h => by
    unfold F_X6_check_79
    rw [show 2 * nI j = nI (2 * j) from pk_mul 2 j, if_neg (by rw [nI_leI (by omega) (by omega)]; omega), if_pos rfl]
    refine p6_day (by rw [e]; exact pu_WG_dn hg j) (fun σ1 h1 e1 => ?_)
    have f1 : σ1 75 = pu_dn g (j + 1) := by rw [e1, e]; rfl
    have W1 := pu_WG_dn hg (j + 1)
    have T1 := pu_tx_dn hg (j + 1)
    have a1 : pu_ag (fun i => i = 75 ∨ i = 87 ∨ i = 88) σ σ1 := h1.mono (fun i hi => by omega)
    have f77 : σ1 77 = pu_ov f g0 1412 := by rw [h1 77 (by omega), e77]
    unfold F_X6_check_126 F_X6_check_127 F_X6_check_167 F_X6_check_168
    rw [show 2 * nI j = nI (2 * j) from pk_mul 2 j]
    have out : ∀ (σ2 : ovSt) (r : Nat), pu_ag (fun i => i = 75 ∨ i = 87 ∨ i = 88) σ σ2 → σ2 75 = pu_dn g (j + 1) → σ2 77 = pu_ov f g0 1412 → (r = 2 * j ∨ r = 2 * j + 1) → pu_ck g W C (m + 1) j = nI (1 + r) → F_X6_check_79 k (m + 1) (nI C) (nI (2 * D)) (nI r) (nI j + 1) σ2 := by
      intro σ2 r a2 p75 p77 hr hv
      rw [← nI_succ]
      refine p6_ck_exit hC hD (by omega) (by omega) (by omega) ?_
      refine p6_ck177 hz hC hD (by omega) (by rw [p75]; exact T1) p77 (fun σ3 h3 e3 => ?_)
      have h0 := h σ3 (a2.tr (h3.mono (fun i hi => by omega))) e3
      rw [hv] at h0
      by_cases z : r = C
      · rw [if_pos z, if_neg (by omega)]; exact h0
      · rw [if_neg z]; exact h0
    by_cases c1 : C ≤ 2 * j
    · rw [if_pos (nI_le c1 (by omega))]
      intro v2 hv2
      rw [Int32.add_zero] at hv2
      subst hv2
      rw [if_neg (by rw [nI_1, nI_eq (by omega) (by omega)]; omega)]
      intro v1 hv1
      rw [Int32.add_zero] at hv1
      subst hv1
      exact out σ1 (2 * j) a1 f1 f77 (Or.inl rfl) (by unfold pu_ck; rw [if_neg (by omega)])
    · rw [if_neg (by rw [nI_leI (by omega) (by omega)]; exact c1)]
      refine ⟨vp_in_nI (by omega) (by omega), ?_⟩
      refine p6_tasteAll (by rw [f1]; exact W1) (fun σ2 h2 => ?_)
      have a2 : pu_ag (fun i => i = 75 ∨ i = 87 ∨ i = 88) σ σ2 := a1.tr (h2.mono (fun i hi => by omega))
      have f2 : σ2 75 = pu_dn g (j + 1) := by rw [h2 75 (by omega), f1]
      have g77 : σ2 77 = pu_ov f g0 1412 := by rw [h2 77 (by omega), f77]
      rw [pu_cl (by omega), f1, h1 97 (by omega), hW (2 * j) (by omega)]
      by_cases c2 : W (2 * j) = pu_tall (pu_dn g (j + 1))
      · rw [if_pos c2]
        intro v2 hv2
        rw [nI_1] at hv2
        subst hv2
        rw [if_pos (by rw [nI_1])]
        by_cases d1 : C ≤ 2 * j + 1
        · rw [if_pos (nI_le d1 (by omega))]
          intro v1 hv1
          rw [Int32.add_zero] at hv1
          subst hv1
          exact out σ2 (2 * j + 1) a2 f2 g77 (Or.inr rfl) (by unfold pu_ck; rw [if_pos (by omega), if_pos c2, if_neg (by omega)]; congr 1; omega)
        · rw [if_neg (by rw [nI_leI (by omega) (by omega)]; exact d1)]
          refine ⟨vp_in_nI (by omega) (by omega), ?_⟩
          refine p6_amountAll (by rw [f2]; exact W1) ?_
          rw [pu_cl (by omega), f2, h2 97 (by omega), h1 97 (by omega), hW (2 * j + 1) (by omega)]
          by_cases d2 : W (2 * j + 1) = pu_aall (pu_dn g (j + 1))
          · rw [if_pos d2]
            intro v1 hv1
            rw [nI_1] at hv1
            subst hv1
            rw [← nI_succ, show 2 * j + 1 + 1 = 2 * (j + 1) by omega]
            refine p6_check_loop (f := f) (W := W) hg hz hC hD m (j + 1) σ2 (by omega) f2 g77 (fun i hi => by rw [h2 97 (by omega), h1 97 (by omega)]; exact hW i hi) (fun σ3 h3 e3 => ?_)
            have h0 := h σ3 (a2.tr h3) e3
            unfold pu_ck at h0
            rw [if_pos (by omega), if_pos c2, if_pos (by omega), if_pos d2] at h0
            exact h0
          · rw [if_neg d2]
            intro v1 hv1
            rw [Int32.add_zero] at hv1
            subst hv1
            exact out σ2 (2 * j + 1) a2 f2 g77 (Or.inr rfl) (by unfold pu_ck; rw [if_pos (by omega), if_pos c2, if_pos (by omega), if_neg d2]; congr 1; omega)
      · rw [if_neg c2]
        intro v2 hv2
        rw [Int32.add_zero] at hv2
        subst hv2
        rw [if_neg (by rw [nI_1, nI_eq (by omega) (by omega)]; omega)]
        intro v1 hv1
        rw [Int32.add_zero] at hv1
        subst hv1
        exact out σ2 (2 * j) a2 f2 g77 (Or.inl rfl) (by unfold pu_ck; rw [if_pos (by omega), if_neg c2])
theorem pu_ck_cong {g W W' : Nat → Int32} {C : Nat} (hW : ∀ i, i < C → W' i = W i) : ∀ (m j : Nat), pu_ck g W' C m j = pu_ck g W C m j
  | 0, j => rfl
  | m + 1, j => by
    unfold pu_ck
    by_cases c1 : 2 * j < C
    · rw [if_pos c1, if_pos c1, hW (2 * j) c1]
      by_cases d1 : 2 * j + 1 < C
      · rw [if_pos d1, if_pos d1, hW (2 * j + 1) d1, pu_ck_cong hW m (j + 1)]
      · rw [if_neg d1, if_neg d1]
    · rw [if_neg c1, if_neg c1]
theorem pu_dmin {x d : Int32} {A B : Nat} (hA : A ≤ 1000) (hB : B ≤ 9999) (ex : x = nI A) (ed : d = nI B) : ov_min x (9999 - d) = nI (min A (9999 - B)) ∧ pu_within (9999 - d) 0 x = nI (min A (9999 - B)) := by
  have e4 : 9999 - d = nI (9999 - B) := by rw [ed]; exact pk_sub (a := 9999) (by omega)
  rw [e4, ex]
  have hw : pu_within (nI (9999 - B)) 0 (nI A) = ov_min (nI (9999 - B)) (nI A) := (pu_min_within (by rw [nI_toInt (by omega)]; omega)).symm
  rw [hw, pu_min_nI (by omega) (by omega), pu_min_nI (by omega) (by omega)]
  exact ⟨rfl, by rw [Nat.min_comm]⟩
/-- the end of a check: nothing waits -/
theorem pu_ck_end {σ σ' : ovSt} (h : ovInv σ) (ha : ∀ i, ¬ (pu_XU i ∨ i = 0 ∨ i = 74) → σ' i = σ i) (e75 : σ' 75 = σ 75) (q0 : ∀ c, c ≠ 9 → σ' 0 c = σ 0 c) (q74 : ∀ c, c ≠ 34 → σ' 74 c = σ 74 c) (z0 : σ' 0 9 = 0) (z74 : σ' 74 34 = 0) : ovInv σ' := by
  have ag : ∀ i, ¬ (pu_XT i ∨ i = 0 ∨ i = 74) → σ' i = σ i := by
    intro i hi
    by_cases z : i = 75
    · rw [z]; exact e75
    · exact ha i (by unfold pu_XU pu_XT; unfold pu_XT at hi; omega)
  refine h.fr (fun i hi => ag i (fun q => hi (by unfold pu_XF pu_XT; unfold pu_XT at q; omega))) (q0 10 (by omega)) (q74 3 (by omega)) (h.2.2.1.cg (ag 46 (by unfold pu_XT; omega)) (ag 81 (by unfold pu_XT; omega)) (by rw [ag 45 (by unfold pu_XT; omega)]) (q74 8 (by omega))) ?_ (h.2.2.2.2.1.cg (fun i hi => ag i (by unfold pu_XT; omega))) (h.2.2.2.2.2.1.cg (fun i hi => ag i (by unfold pu_XT; omega)))
  exact ⟨by rw [z0, z74], 0, by omega, z74, fun i hi => absurd hi (by omega)⟩
theorem v_check {σ : ovSt} (h : ovInv σ) (a : Int32) : F_X5_check a σ (fun r σ1 => F_X6_check a σ1 (fun r' σ2 => r = r' ∧ ovInv σ2)) := by
  obtain ⟨m1, m2, m3⟩ := h.2.1
  obtain ⟨w1, C, hC, w2, w3⟩ := h.2.2.2.1
  have w9 : σ 0 9 = nI C := w1.trans w2
  unfold F_X5_check F_X5_check_49
  have fin : ∀ (σ1 σ2 σ3 : ovSt), σ1 = ov_up σ 0 9 0 → σ2 = ov_up σ1 74 34 0 → pu_ag (fun _ => False) σ2 σ3 → ovInv σ3 := by
    intro σ1 σ2 σ3 e1 e2 h3
    have e3 : σ3 = σ2 := funext (fun i => h3 i (fun q => q))
    subst e3
    refine pu_ck_end h (fun i hi => ?_) ?_ (fun c hc => ?_) (fun c hc => ?_) ?_ ?_
    · rw [e2, pu_up_ne (by omega), e1, pu_up_ne (by omega)]
    · rw [e2, pu_up_ne (by omega), e1, pu_up_ne (by omega)]
    · rw [e2, pu_up_ne (by omega), e1, pu_up_same, pu_un hc]
    · rw [e2, pu_up_same, pu_un hc, e1, pu_up_ne (by omega)]
    · rw [e2, pu_up_ne (by omega), e1, pu_up_same, pu_ue]
    · rw [e2, pu_up_same, pu_ue]
  by_cases za : a < 1 ∨ 30 < a
  · rw [pu_no5 za, if_pos rfl]
    intro σ1 e1
    show F_X6_check _ _ _
    unfold F_X6_check
    intro v hv σ2 e2
    rw [pu_no6 za, if_pos rfl]
    exact ⟨rfl, fin σ1 σ2 σ2 e1 e2 (pu_ag.rf _ _)⟩
  rw [pu_yes5 za, if_neg (by decide)]
  by_cases z : σ 0 10 = 0
  · rw [if_pos z]
    intro σ1 e1
    show F_X6_check _ _ _
    unfold F_X6_check
    intro v hv σ2 e2
    rw [pu_yes6 za, if_neg (by decide), if_pos (by rw [e2, pu_up_same, pu_un (by omega), e1, pu_up_ne (by omega), ← m2]; exact z)]
    exact ⟨rfl, fin σ1 σ2 σ2 e1 e2 (pu_ag.rf _ _)⟩
  rw [if_neg z]
  obtain ⟨i1, i2, i3, i4, i5⟩ := m3 z
  obtain ⟨x1, x2⟩ := pu_bt za
  have e30 : (30 : Int32).toInt = 30 := rfl
  have e01 : (1 : Int32).toInt = 1 := rfl
  obtain ⟨A, hA, eA⟩ := pu_ofInt (x := a) (b := 31) (by omega) (by omega) (by omega)
  obtain ⟨B, hB, eB⟩ := pu_ofInt (x := σ 76 4) (b := 10000) (by have := i4.1; omega) (by have := i4.2; omega) (by omega)
  obtain ⟨d5, d6⟩ := pu_dmin (by omega) (by omega) eA eB
  have hD : min A (9999 - B) ≤ 30 := by omega
  generalize min A (9999 - B) = D at d5 d6 hD
  rw [show σ 27 9 = σ 76 4 from i2.1.2.2.2.2.1, d5]
  unfold F_X5_firstUntrue
  refine p3_become pu_s33 pu_s27 (by decide) i2 (fun σ1 h1 R1 => ?_)
  refine ⟨D + 1, p5_check_loop (W := σ 50) i1 hC hD D 0 σ1 (by omega) R1 (i3.ag i1 (fun i x y => h1 i (by unfold pu_stX; omega))) (by rw [h1 0 (by unfold pu_stX; omega), w9]) (h1 50 (by unfold pu_stX; omega)) (fun σ2 h2 => ?_)⟩
  have a2 : pu_ag (fun i => i = 20 ∨ (33 ≤ i ∧ i ≤ 38)) σ σ2 := (h1.mono (fun i hi => by unfold pu_stX at hi; omega)).tr h2
  intro σ3 e3
  show F_X6_check _ _ _
  unfold F_X6_check
  intro v hv σ4 e4
  have a4 : pu_ag (fun i => i = 0 ∨ i = 74 ∨ i = 20 ∨ (33 ≤ i ∧ i ≤ 38)) σ σ4 := by
    rw [e4]; refine pu_ag.up ?_ (by omega)
    rw [e3]; exact pu_ag.up (a2.mono (fun i hi => by omega)) (by omega)
  have hvC : v = nI C := by rw [hv, e3, pu_up_ne (by omega), a2 74 (by omega), w2]
  rw [pu_yes6 za, if_neg (by decide), if_neg (by rw [e4, pu_up_same, pu_un (by omega), e3, pu_up_ne (by omega), a2 74 (by omega), ← m2]; exact z)]
  refine p6_copyAll (by omega) (by omega) (by omega) (fun σ5 h5 e5 => ?_)
  rw [a4 75 (by omega)] at e5
  refine p6_copyAll (by omega) (by omega) (by omega) (fun σ6 h6 e6 => ?_)
  have f75 : σ6 75 = σ 76 := by
    rw [e6, h5 75 (by omega), a4 75 (by omega), h5 76 (by omega), a4 76 (by omega)]
    exact pu_ov_full (fun c hc => by rw [(m1 c hc).1, (m1 c hc).2])
  have f77 : σ6 77 = pu_ov (σ4 77) (σ 75) 1412 := by rw [h6 77 (by omega), e5]
  refine ⟨vp_in_nI (n := 4) (by decide) (by decide), ?_⟩
  rw [show σ6 75 (Int32.toNatClampNeg 4) = σ 76 4 from by rw [f75]; rfl, e6_within, d6, hvC]
  intro v2 hv2
  rw [show 2 * nI D = nI (2 * D) from pk_mul 2 D] at hv2
  subst hv2
  have a6 : pu_ag (fun i => i = 75 ∨ i = 77 ∨ i = 0 ∨ i = 74 ∨ i = 20 ∨ (33 ≤ i ∧ i ≤ 38)) σ σ6 := ((a4.mono (fun i hi => by omega)).tr (h5.mono (fun i hi => by omega))).tr (h6.mono (fun i hi => by omega))
  refine ⟨D + 1, p6_check_loop (W := σ 50) (f := σ4 77) i1 m1 hC hD D 0 σ6 (by omega) f75 f77 (fun i hi => by rw [a6 97 (by omega)]; exact (w3 i hi).symm) (fun σ7 h7 e7 => ?_)⟩
  refine ⟨rfl, pu_ck_end h (fun i hi => ?_) e7 (fun c hc => ?_) (fun c hc => ?_) ?_ ?_⟩
  · unfold pu_XU pu_XT at hi
    rw [h7 i (by omega), a6 i (by omega)]
  · rw [h7 0 (by omega), h6 0 (by omega), h5 0 (by omega), e4, pu_up_ne (by omega), e3, pu_up_same, pu_un hc, a2 0 (by omega)]
  · rw [h7 74 (by omega), h6 74 (by omega), h5 74 (by omega), e4, pu_up_same, pu_un hc, e3, pu_up_ne (by omega), a2 74 (by omega)]
  · rw [h7 0 (by omega), h6 0 (by omega), h5 0 (by omega), e4, pu_up_ne (by omega), e3, pu_up_same, pu_ue]
  · rw [h7 74 (by omega), h6 74 (by omega), h5 74 (by omega), e4, pu_up_same, pu_ue]
