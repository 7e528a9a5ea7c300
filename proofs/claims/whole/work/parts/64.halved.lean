/-! ===== halved ===== -/
def pu_hv (g : Nat → Int32) : Nat → Nat → Int32
  | 0 => g
  | t + 1 => upd (pu_hv g t) (8 + 4 * t + 2) (pu_hv g t (8 + 4 * t + 2) / 2)
theorem pu_hv_ok {g : Nat → Int32} (hg : pu_WG g) : ∀ (t : Nat), t ≤ 8 → pu_WG (pu_hv g t) ∧ pu_hv g t 1 = g 1 ∧ pu_tx g (pu_hv g t)
  | 0, _ => ⟨hg, rfl, pu_tx.rf g⟩
  | t + 1, ht => by
    obtain ⟨h1, h2, h3⟩ := pu_hv_ok hg t (by omega)
    have hA := (h1.2.2.2.2 t (by omega)).2.2.1
    have hd : pu_in (pu_hv g t (8 + 4 * t + 2) / 2) 0 99999 := by
      have a1 := hA.1
      have a2 := hA.2
      unfold pu_in
      rw [pu_divI a1 (by decide), show (2 : Int32).toInt = 2 from rfl]
      omega
    refine ⟨h1.upt2 (by omega) hd, ?_, pu_tx.up h3 (by omega) (by omega)⟩
    show upd _ _ _ 1 = g 1
    rw [pu_un (by omega), h2]
theorem p3_halve_loop {s : Nat} {k : ovSt → Prop} {g : Nat → Int32} (hg : pu_WG g) {n : Nat} (hn : pu_n g = n) : ∀ (m j : Nat) (σ : ovSt), j + m = n → pu_RS σ s (pu_hv g j) → (∀ σ', pu_ag (pu_stX s) σ σ' → pu_RS σ' s (pu_hv g n) → k σ') → F_X3_halveAll_2 s k (m + 1) (nI j) σ
  | 0, j, σ, hj, hR, h => by
    have hb := pu_WG_n hg
    rw [hn] at hb
    have ej : j = n := by omega
    subst ej
    unfold F_X3_halveAll_2
    rw [hR.1.2.1, (pu_hv_ok hg j hb.1).2.1, hb.2, if_pos (Int32.le_refl _)]
    exact h σ (pu_ag.rf _ σ) hR
  | m + 1, j, σ, hj, hR, h => by
    have hb := pu_WG_n hg
    rw [hn] at hb
    have hj8 : j < 8 := by omega
    unfold F_X3_halveAll_2
    rw [hR.1.2.1, (pu_hv_ok hg j (by omega)).2.1, hb.2, if_neg (by rw [nI_leI (by omega) (by omega)]; omega)]
    refine ⟨vp_in_nI hj8 (by omega), ?_⟩
    rw [pu_cl (by omega), (hR.2.1 j hj8).2.2.1, ← nI_succ]
    intro σ2 e2
    refine p3_halve_loop hg hn m (j + 1) σ2 (by omega) ?_ (fun σ3 h3 => h σ3 (pu_ag.tr ?_ h3))
    · rw [e2]; exact hR.upt2 hj8 _
    · rw [e2]; exact pu_ag.up1 (by unfold pu_stX; omega)
def pu_hl (g h : Nat → Int32) : Nat → Nat → Int32
  | 0, _ => -1000000005
  | m + 1, j => if pu_tall (pu_dn g j) = pu_tall (pu_dn h j) then nI j else pu_hl g h m (j + 1)
theorem pu_200 {j : Nat} (hj : j ≤ 200) : ¬ (200 : Int32) < nI j := by
  rw [show (200 : Int32) = nI 200 from rfl, nI_ltI (by omega) (by omega)]; omega
theorem p5_halved_loop {k : Int32 → ovSt → Prop} {g g2 : Nat → Int32} (hg : pu_WG g) (hg2 : pu_WG g2) (hx : pu_tx g g2) : ∀ (m j : Nat) (σ : ovSt), j + m = 201 → pu_RS σ 33 (pu_dn g j) → pu_RS σ 39 (pu_dn g2 j) → pu_LS σ g → (∀ σ', pu_ag (fun i => i = 20 ∨ (33 ≤ i ∧ i ≤ 44)) σ σ' → k (pu_hl g g2 m j) σ') → F_X5_halved_31 k (m + 1) (nI j) σ
  | 0, j, σ, hj, hR, hR2, hL, h => by
    have ej : j = 201 := by omega
    subst ej
    unfold F_X5_halved_31
    rw [if_pos (by decide)]
    exact h σ (pu_ag.rf _ σ)
  | m + 1, j, σ, hj, hR, hR2, hL, h => by
    unfold F_X5_halved_31
    rw [if_neg (pu_200 (by omega))]
    have W := pu_WG_dn hg j
    have W2 := pu_WG_dn hg2 j
    refine p3_tasteOfAll pu_s33 W hR (pu_tx_LS (pu_tx_dn hg j) hL) (fun σ1 h1 => ?_)
    have L1 : pu_LS σ1 g := hL.ag hg (fun i x y => h1 i (by omega))
    refine p3_tasteOfAll pu_s39 W2 (hR2.ag (fun i x y => h1 i (by omega))) (pu_tx_LS (hx.tr (pu_tx_dn hg2 j)) L1) (fun σ2 h2 => ?_)
    have a2 : pu_ag (fun i => i = 20 ∨ (33 ≤ i ∧ i ≤ 44)) σ σ2 := (h1.tr h2).mono (fun i hi => by omega)
    by_cases z : pu_tall (pu_dn g j) = pu_tall (pu_dn g2 j)
    · rw [if_pos z]
      have h0 := h σ2 a2
      rw [pu_hl, if_pos z] at h0
      exact h0
    · rw [if_neg z]
      refine p3_passDay pu_s33 W (hR.ag (fun i x y => by rw [h2 i (by omega), h1 i (by omega)])) (fun σ3 h3 R3 => ?_)
      refine p3_passDay pu_s39 W2 (hR2.ag (fun i x y => by rw [h3 i (by unfold pu_stX; omega), h2 i (by omega), h1 i (by omega)])) (fun σ4 h4 R4 => ?_)
      have a4 : pu_ag (fun i => i = 20 ∨ (33 ≤ i ∧ i ≤ 44)) σ σ4 := (a2.tr (h3.mono (fun i hi => by unfold pu_stX at hi; omega))).tr (h4.mono (fun i hi => by unfold pu_stX at hi; omega))
      rw [← nI_succ]
      refine p5_halved_loop hg hg2 hx m (j + 1) σ4 (by omega) (R3.ag (fun i x y => h4 i (by unfold pu_stX; omega))) R4 (hL.ag hg (fun i x y => a4 i (by omega))) (fun σ5 h5 => ?_)
      have h0 := h σ5 (a4.tr h5)
      rw [pu_hl, if_neg z] at h0
      exact h0
theorem p6_halved71 {k : Int32 → ovSt → Prop} {g g2 f : Nat → Int32} (hg2 : pu_WG g2) (hx : pu_tx g g2) : ∀ (m j : Nat) (σ : ovSt), j + m = 201 → σ 75 = pu_dn g2 j → σ 78 = pu_ov f g 40 → (∀ i, i ≤ 200 → σ 80 i = pu_tall (pu_dn g i)) → (∀ σ', pu_ag (fun i => i = 75 ∨ i = 87 ∨ i = 88) σ σ' → σ' 75 = g → k (pu_hl g g2 m j) σ') → F_X6_halved_71 k (m + 1) (nI j) σ
  | 0, j, σ, hj, e, e8, e80, h => by
    have ej : j = 201 := by omega
    subst ej
    unfold F_X6_halved_71 F_X6_halved_101 F_X6_halved_118
    rw [if_pos (by decide)]
    refine p6_putsBack (fun σ1 h1 e1 => ?_)
    rw [if_pos (by decide)]
    refine h σ1 (h1.mono (fun i hi => by omega)) ?_
    rw [e1, e, e8]
    exact pu_ov_back (hx.tr (pu_tx_dn hg2 _))
  | m + 1, j, σ, hj, e, e8, e80, h => by
    have W := pu_WG_dn hg2 j
    unfold F_X6_halved_71
    rw [if_neg (pu_200 (by omega))]
    refine p6_tasteAll (by rw [e]; exact W) (fun σ1 h1 => ?_)
    refine ⟨vp_in_nI (by omega) (by omega), ?_⟩
    rw [pu_cl (by omega), e, h1 80 (by omega), e80 j (by omega)]
    have f1 : σ1 75 = pu_dn g2 j := by rw [h1 75 (by omega), e]
    by_cases z : pu_tall (pu_dn g j) = pu_tall (pu_dn g2 j)
    · rw [if_pos z.symm]
      unfold F_X6_halved_101 F_X6_halved_118
      refine p6_putsBack (fun σ2 h2 e2 => ?_)
      rw [if_neg (pu_200 (by omega))]
      have h0 := h σ2 ((h1.mono (fun i hi => by omega)).tr (h2.mono (fun i hi => by omega))) ?_
      · rw [pu_hl, if_pos z] at h0
        exact h0
      · rw [e2, f1, h1 78 (by omega), e8]
        exact pu_ov_back (hx.tr (pu_tx_dn hg2 _))
    · rw [if_neg (fun q => z q.symm)]
      refine p6_day (by rw [f1]; exact W) (fun σ2 h2 e2 => ?_)
      have a2 : pu_ag (fun i => i = 75 ∨ i = 87 ∨ i = 88) σ σ2 := (h1.mono (fun i hi => by omega)).tr (h2.mono (fun i hi => by omega))
      rw [← nI_succ]
      refine p6_halved71 (f := f) hg2 hx m (j + 1) σ2 (by omega) (by rw [e2, f1]; rfl) (by rw [a2 78 (by omega), e8]) (fun i hi => by rw [a2 80 (by omega)]; exact e80 i hi) (fun σ3 h3 e3 => ?_)
      have h0 := h σ3 (a2.tr h3) e3
      rw [pu_hl, if_neg z] at h0
      exact h0
theorem p6_halved39 {k : Int32 → ovSt → Prop} {g : Nat → Int32} (hg : pu_WG g) {n : Nat} (hn : pu_n g = n) : ∀ (m j : Nat) (σ : ovSt), j + m = n → σ 75 = pu_hv g j → (∀ σ', pu_ag (fun i => i = 75) σ σ' → σ' 75 = pu_hv g n → ∃ n9, F_X6_halved_71 k n9 0 σ') → F_X6_halved_39 k (m + 1) (nI j) σ
  | 0, j, σ, hj, e, h => by
    have hb := pu_WG_n hg
    rw [hn] at hb
    have ej : j = n := by omega
    subst ej
    unfold F_X6_halved_39
    refine ⟨vp_in_nI (n := 1) (by decide) (by decide), ?_⟩
    rw [show σ 75 (Int32.toNatClampNeg 1) = nI j from by rw [e]; exact ((pu_hv_ok hg j hb.1).2.1).trans hb.2, if_pos (Int32.le_refl _)]
    exact h σ (pu_ag.rf _ σ) e
  | m + 1, j, σ, hj, e, h => by
    have hb := pu_WG_n hg
    rw [hn] at hb
    have hj8 : j < 8 := by omega
    unfold F_X6_halved_39
    refine ⟨vp_in_nI (n := 1) (by decide) (by decide), ?_⟩
    rw [show σ 75 (Int32.toNatClampNeg 1) = nI n from by rw [e]; exact ((pu_hv_ok hg j (by omega)).2.1).trans hb.2, if_neg (by rw [nI_leI (by omega) (by omega)]; omega), e6_of2 hj8, e6_put2 hj8, ← nI_succ]
    refine p6_halved39 hg hn m (j + 1) _ (by omega) ?_ (fun σ3 h3 => h σ3 ((pu_ag.up1 (X := fun i => i = 75) rfl).tr h3))
    rw [pu_up_same, e]
    rfl
theorem p6_halved6 {k : Int32 → ovSt → Prop} {g f : Nat → Int32} (hg : pu_WG g) : ∀ (m j : Nat) (σ : ovSt), j + m = 201 → σ 75 = pu_dn g j → σ 78 = pu_ov f g 40 → (∀ i, i < j → σ 80 i = pu_tall (pu_dn g i)) → (∀ σ', pu_ag (fun i => i = 75 ∨ i = 80 ∨ i = 87 ∨ i = 88) σ σ' → σ' 75 = g → (∀ i, i ≤ 200 → σ' 80 i = pu_tall (pu_dn g i)) → ∃ n16, F_X6_halved_39 k n16 0 σ') → F_X6_halved_6 k (m + 1) (nI j) σ
  | 0, j, σ, hj, e, e8, e80, h => by
    have ej : j = 201 := by omega
    subst ej
    unfold F_X6_halved_6
    rw [if_pos (by decide)]
    refine p6_putsBack (fun σ1 h1 e1 => ?_)
    refine h σ1 (h1.mono (fun i hi => by omega)) ?_ (fun i hi => by rw [h1 80 (by omega)]; exact e80 i (by omega))
    rw [e1, e, e8]
    exact pu_ov_back (pu_tx_dn hg _)
  | m + 1, j, σ, hj, e, e8, e80, h => by
    have W := pu_WG_dn hg j
    unfold F_X6_halved_6
    rw [if_neg (pu_200 (by omega))]
    refine p6_tasteAll (by rw [e]; exact W) (fun σ1 h1 => ?_)
    refine ⟨vp_in_nI (by omega) (by omega), ?_⟩
    rw [pu_cl (by omega), e]
    intro σ2 e2
    have f2 : σ2 75 = pu_dn g j := by rw [e2, pu_up_ne (by omega), h1 75 (by omega), e]
    refine p6_day (by rw [f2]; exact W) (fun σ3 h3 e3 => ?_)
    have a3 : pu_ag (fun i => i = 75 ∨ i = 80 ∨ i = 87 ∨ i = 88) σ σ3 := by
      refine pu_ag.tr ?_ (h3.mono (fun i hi => by omega))
      rw [e2]
      exact pu_ag.up (h1.mono (fun i hi => by omega)) (by omega)
    rw [← nI_succ]
    refine p6_halved6 (f := f) hg m (j + 1) σ3 (by omega) (by rw [e3, f2]; rfl) (by rw [a3 78 (by omega), e8]) (fun i hi => ?_) (fun σ4 h4 => h σ4 (a3.tr h4))
    rw [h3 80 (by omega), e2, pu_up_same]
    by_cases z : i = j
    · rw [z, pu_ue]
    · rw [pu_un z, h1 80 (by omega)]; exact e80 i (by omega)
theorem v_halved {σ : ovSt} (h : ovInv σ) : F_X5_halved σ (fun r σ1 => F_X6_halved σ1 (fun r' σ2 => r = r' ∧ ovInv σ2)) := by
  have hb := pu_WG_n h.1.1
  obtain ⟨o1, o2, o3⟩ := pu_hv_ok h.1.1 (pu_n (σ 75)) hb.1
  unfold F_X5_halved
  refine p3_become pu_s33 pu_s21 (by decide) h.1.2.1 (fun σ1 h1 R1 => ?_)
  refine p3_become pu_s39 pu_s21 (by decide) (h.1.2.1.ag (fun i x y => h1 i (by unfold pu_stX; omega))) (fun σ2 h2 R2 => ?_)
  unfold F_X3_halveAll
  refine ⟨pu_s39, pu_n (σ 75) + 1, p3_halve_loop h.1.1 rfl (pu_n (σ 75)) 0 σ2 (by omega) R2 (fun σ3 h3 R3 => ?_)⟩
  have a3 : pu_ag (fun i => i = 20 ∨ (33 ≤ i ∧ i ≤ 44)) σ σ3 := ((h1.mono (fun i hi => by unfold pu_stX at hi; omega)).tr (h2.mono (fun i hi => by unfold pu_stX at hi; omega))).tr (h3.mono (fun i hi => by unfold pu_stX at hi; omega))
  refine ⟨201 + 1, ?_⟩
  show F_X5_halved_31 _ (201 + 1) (nI 0) σ3
  refine p5_halved_loop h.1.1 o1 o3 201 0 σ3 (by omega) (R1.ag (fun i x y => by rw [h3 i (by unfold pu_stX; omega), h2 i (by unfold pu_stX; omega)])) R3 (h.1.2.2.1.ag h.1.1 (fun i x y => a3 i (by omega))) (fun σ4 h4 => ?_)
  have a4 : pu_ag (fun i => i = 20 ∨ (33 ≤ i ∧ i ≤ 44)) σ σ4 := a3.tr h4
  show F_X6_halved _ _
  unfold F_X6_halved
  refine p6_thinks (fun σ5 h5 e5 => ?_)
  rw [a4 75 (by omega)] at e5
  have a5 : pu_ag (fun i => i = 78 ∨ i = 20 ∨ (33 ≤ i ∧ i ≤ 44)) σ σ5 := (a4.mono (fun i hi => by omega)).tr (h5.mono (fun i hi => by omega))
  refine ⟨201 + 1, ?_⟩
  show F_X6_halved_6 _ (201 + 1) (nI 0) σ5
  refine p6_halved6 (f := σ4 78) h.1.1 201 0 σ5 (by omega) (a5 75 (by omega)) e5 (fun i hi => absurd hi (by omega)) (fun σ6 h6 e6 q6 => ?_)
  refine ⟨pu_n (σ 75) + 1, p6_halved39 h.1.1 rfl (pu_n (σ 75)) 0 σ6 (by omega) e6 (fun σ7 h7 e7 => ?_)⟩
  refine ⟨201 + 1, ?_⟩
  show F_X6_halved_71 _ (201 + 1) (nI 0) σ7
  refine p6_halved71 (g := σ 75) (f := σ4 78) o1 o3 201 0 σ7 (by omega) e7 (by rw [h7 78 (by omega), h6 78 (by omega), e5]) (fun i hi => by rw [h7 80 (by omega)]; exact q6 i hi) (fun σ8 h8 e8 => ?_)
  refine ⟨rfl, h.good (pu_good.back h.1 (fun i hi => ?_) e8)⟩
  unfold pu_XU pu_XT at hi
  rw [h8 i (by omega), h7 i (by omega), h6 i (by omega), a5 i (by omega)]
