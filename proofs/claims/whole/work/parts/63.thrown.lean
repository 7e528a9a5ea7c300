/-! ===== thrown ===== -/
def pu_ab (x y : Int32) : Nat := (x.toInt - y.toInt).natAbs
theorem pu_ab_le {x y : Int32} (hx : pu_in x 0 144464) (hy : pu_in y (-99999) 99999) : pu_ab x y ≤ 250000 := by
  obtain ⟨x1, x2⟩ := hx
  obtain ⟨y1, y2⟩ := hy
  unfold pu_ab
  omega
theorem pu_ab5 {x y : Int32} (hx : pu_in x 0 144464) (hy : pu_in y (-99999) 99999) : ov_abs (x - y) = nI (pu_ab x y) := by
  have hl := pu_ab_le hx hy
  obtain ⟨x1, x2⟩ := hx
  obtain ⟨y1, y2⟩ := hy
  have e0 : (0 : Int32).toInt = 0 := rfl
  have s1 := fb_subI (x := x) (y := y) (by omega) (by omega)
  have s2 := fb_subI (x := 0) (y := x - y) (by omega) (by omega)
  show (if 0 ≤ x - y then x - y else 0 - (x - y)) = _
  rw [fa_eq, nI_toInt (by omega)]
  unfold pu_ab
  by_cases z : 0 ≤ x - y
  · rw [if_pos z]
    rw [fa_le, e0] at z
    omega
  · rw [if_neg z]
    rw [fa_le, e0] at z
    omega
theorem pu_ab6 {x y : Int32} (hx : pu_in x 0 144464) (hy : pu_in y (-99999) 99999) : (if 0 ≤ lg_cmp (Int32.toInt64 y - Int32.toInt64 x) 0 then (Int32.toInt64 y - Int32.toInt64 x) else -(Int32.toInt64 y - Int32.toInt64 x)) = lN (pu_ab x y) := by
  have hl := pu_ab_le hx hy
  obtain ⟨x1, x2⟩ := hx
  obtain ⟨y1, y2⟩ := hy
  have e0 : (0 : Int64).toInt = 0 := rfl
  have sb : (Int32.toInt64 y - Int32.toInt64 x).toInt = y.toInt - x.toInt := by
    rw [Int64.toInt_sub, Int32.toInt_toInt64, Int32.toInt_toInt64, Int.bmod_eq_of_le (by omega) (by omega)]
  have ng : (-(Int32.toInt64 y - Int32.toInt64 x)).toInt = x.toInt - y.toInt := by
    rw [Int64.toInt_neg, sb, Int.bmod_eq_of_le (by omega) (by omega)]
    omega
  rw [← Int64.toInt_inj, lN_toInt (by omega)]
  unfold pu_ab
  by_cases z : 0 ≤ lg_cmp (Int32.toInt64 y - Int32.toInt64 x) 0
  · rw [if_pos z, sb]
    rw [lg_cmp_ge, Int64.le_iff_toInt_le, sb, e0] at z
    omega
  · rw [if_neg z, ng]
    rw [lg_cmp_ge, Int64.le_iff_toInt_le, sb, e0] at z
    omega
def pu_gn (g P : Nat → Int32) : Nat → Nat
  | 0 => 0
  | k + 1 => pu_gn g P k + (if P k = -1000000005 then 0 else pu_ab (pu_tall (pu_dn g k)) (P k))
theorem pu_gn_le {g P : Nat → Int32} (hg : pu_WG g) : ∀ (k : Nat), (∀ i, i < k → pu_cell (P i)) → pu_gn g P k ≤ k * 250000
  | 0, _ => Nat.le_refl _
  | k + 1, h => by
    have h1 := pu_gn_le hg k (fun i hi => h i (by omega))
    unfold pu_gn
    by_cases z : P k = -1000000005
    · rw [if_pos z, Nat.add_zero]; exact Nat.le_trans h1 (Nat.mul_le_mul_right _ (Nat.le_succ k))
    · rw [if_neg z]
      have := pu_ab_le (pu_tall_in (pu_WG_dn hg k)) ((h k (by omega)).resolve_left z)
      omega
theorem p5_gap_loop {k : Int32 → ovSt → Prop} {g P : Nat → Int32} (hg : pu_WG g) {s S : Nat} (hs : s < 4) (hS : S ≤ 24) (hc : ∀ i, i < 24 → pu_cell (P i)) : ∀ (m j : Nat) (σ : ovSt), j + m = S → pu_RS σ 33 (pu_dn g j) → pu_LS σ g → σ (51 + 2 * s) 2 = nI S → (∀ i, i < 24 → σ (51 + 2 * s + 1) i = P i) → (∀ σ', pu_ag (fun i => i = 20 ∨ (33 ≤ i ∧ i ≤ 38)) σ σ' → k (nI (pu_gn g P S)) σ') → F_X5_gapIfThrown_27 (51 + 2 * s) k (m + 1) (nI (pu_gn g P j)) (nI j) σ
  | 0, j, σ, hj, hR, hL, h2, hP, h => by
    have ej : j = S := by omega
    subst ej
    unfold F_X5_gapIfThrown_27
    rw [h2, if_pos (Int32.le_refl _)]
    exact h σ (pu_ag.rf _ σ)
  | m + 1, j, σ, hj, hR, hL, h2, hP, h => by
    have hj24 : j < 24 := by omega
    have nx : ∀ (σ2 : ovSt), pu_ag (fun i => i = 20 ∨ (33 ≤ i ∧ i ≤ 38)) σ σ2 → pu_RS σ2 33 (pu_dn g j) → F_X5_gapIfThrown_66 (F_X5_gapIfThrown_27 (51 + 2 * s) k (m + 1)) (51 + 2 * s) k (nI (pu_gn g P (j + 1))) (nI j) σ2 := by
      intro σ2 a2 R2
      unfold F_X5_gapIfThrown_66
      refine p3_passDay pu_s33 (pu_WG_dn hg j) R2 (fun σ3 h3 R3 => ?_)
      have a3 : pu_ag (fun i => i = 20 ∨ (33 ≤ i ∧ i ≤ 38)) σ σ3 := a2.tr (h3.mono (fun i hi => by unfold pu_stX at hi; omega))
      rw [← nI_succ]
      exact p5_gap_loop (P := P) hg hs hS hc m (j + 1) σ3 (by omega) R3 (hL.ag hg (fun i x y => a3 i (by omega))) (by rw [a3 _ (by omega), h2]) (fun i hi => by rw [a3 _ (by omega)]; exact hP i hi) (fun σ4 h4 => h σ4 (a3.tr h4))
    unfold F_X5_gapIfThrown_27
    rw [h2, if_neg (by rw [nI_leI (by omega) (by omega)]; omega), e1_num (pu_isr hs) hj24, hP j hj24]
    by_cases z : P j = -1000000005
    · rw [if_pos z, if_pos rfl]
      have q := nx σ (pu_ag.rf _ σ) hR
      unfold pu_gn at q
      rw [if_pos z, Nat.add_zero] at q
      exact q
    · rw [if_neg z, if_neg (by decide)]
      refine p3_tasteOfAll pu_s33 (pu_WG_dn hg j) hR (pu_tx_LS (pu_tx_dn hg j) hL) (fun σ2 h2' => ?_)
      have a2 : pu_ag (fun i => i = 20 ∨ (33 ≤ i ∧ i ≤ 38)) σ σ2 := h2'.mono (fun i hi => by omega)
      refine ⟨vp_in_nI hj24 (by omega), ?_⟩
      rw [pu_cl (by omega), a2 (51 + 2 * s + 1) (by omega), hP j hj24, pu_ab5 (pu_tall_in (pu_WG_dn hg j)) ((hc j hj24).resolve_left z)]
      intro v hv
      have q := nx σ2 a2 (hR.ag (fun i x y => h2' i (by omega)))
      unfold pu_gn at q
      rw [if_neg z, ← nI_add, ← hv] at q
      exact q
theorem p5_gap {k : Int32 → ovSt → Prop} {g P : Nat → Int32} (hg : pu_WG g) {s S t : Nat} (hs : s < 4) (hS : S ≤ 24) (ht : t < 8) (hc : ∀ i, i < 24 → pu_cell (P i)) {σ : ovSt} (hR : pu_RS σ 21 g) (hL : pu_LS σ g) (h2 : σ (51 + 2 * s) 2 = nI S) (hP : ∀ i, i < 24 → σ (51 + 2 * s + 1) i = P i) (h : ∀ σ', pu_ag (fun i => i = 20 ∨ (33 ≤ i ∧ i ≤ 38)) σ σ' → k (nI (pu_gn (pu_tos g t 500) P S)) σ') : F_X5_gapIfThrown (51 + 2 * s) (nI t) σ k := by
  unfold F_X5_gapIfThrown
  refine ⟨pu_isr hs, ?_⟩
  refine p3_become pu_s33 pu_s21 (by decide) hR (fun σ1 h1 R1 => ?_)
  refine p3_throwIn pu_s33 ht hg ⟨by decide, by decide⟩ R1 (fun σ2 h2' R2 => ?_)
  have a2 : pu_ag (fun i => i = 20 ∨ (33 ≤ i ∧ i ≤ 38)) σ σ2 := (h1.mono (fun i hi => by unfold pu_stX at hi; omega)).tr (h2'.mono (fun i hi => by unfold pu_stX at hi; omega))
  exact ⟨S + 1, p5_gap_loop (P := P) (pu_WG_tos hg ht 500) hs hS hc S 0 σ2 (by omega) R2 (pu_tx_LS (pu_tx_tos g ht 500) (hL.ag hg (fun i x y => a2 i (by omega)))) (by rw [a2 _ (by omega), h2]) (fun i hi => by rw [a2 _ (by omega)]; exact hP i hi) (fun σ3 h3 => h σ3 (a2.tr h3))⟩
theorem p6_off_loop {k : Int64 → ovSt → Prop} {g g0 P f : Nat → Int32} (hg : pu_WG g) (hx : pu_tx g0 g) {s S : Nat} (hs : s < 4) (hS : S ≤ 24) (hc : ∀ i, i < 24 → pu_cell (P i)) : ∀ (m j : Nat) (σ : ovSt), j + m = S → σ 75 = pu_dn g j → σ 78 = pu_ov f g0 40 → σ 90 s = nI S → (∀ i, i < 24 → σ 91 (24 * s + i) = P i) → (∀ σ', pu_ag (fun i => i = 75 ∨ i = 87 ∨ i = 88) σ σ' → σ' 75 = g0 → k (lN (pu_gn g P S)) σ') → F_X6_offBy_13 k (m + 1) (nI s) (lN (pu_gn g P j)) (nI j) σ
  | 0, j, σ, hj, e, e8, h2, hP, h => by
    have ej : j = S := by omega
    subst ej
    unfold F_X6_offBy_13
    refine ⟨vp_in_nI hs (by omega), ?_⟩
    rw [pu_cl (by omega), h2, if_pos (Int32.le_refl _)]
    refine p6_putsBack (fun σ1 h1 e1 => ?_)
    refine h σ1 (h1.mono (fun i hi => by omega)) ?_
    rw [e1, e, e8]
    exact pu_ov_back (hx.tr (pu_tx_dn hg _))
  | m + 1, j, σ, hj, e, e8, h2, hP, h => by
    have hj24 : j < 24 := by omega
    have W := pu_WG_dn hg j
    have nx : ∀ (σ2 : ovSt) (v : Int64), pu_ag (fun i => i = 75 ∨ i = 87 ∨ i = 88) σ σ2 → σ2 75 = pu_dn g j → lN (pu_gn g P j) + v = lN (pu_gn g P (j + 1)) → F_X6_offBy_76 (F_X6_offBy_13 k (m + 1)) k (nI s) (nI j) v (lN (pu_gn g P j)) σ2 := by
      intro σ2 v a2 f2 hv
      unfold F_X6_offBy_76
      intro v1 hv1
      rw [hv] at hv1
      subst hv1
      refine p6_day (by rw [f2]; exact W) (fun σ3 h3 e3 => ?_)
      have a3 : pu_ag (fun i => i = 75 ∨ i = 87 ∨ i = 88) σ σ3 := a2.tr (h3.mono (fun i hi => by omega))
      rw [← nI_succ]
      exact p6_off_loop (P := P) (f := f) hg hx hs hS hc m (j + 1) σ3 (by omega) (by rw [e3, f2]; rfl) (by rw [a3 78 (by omega), e8]) (by rw [a3 90 (by omega), h2]) (fun i hi => by rw [a3 91 (by omega)]; exact hP i hi) (fun σ4 h4 e4 => h σ4 (a3.tr h4) e4)
    unfold F_X6_offBy_13
    refine ⟨vp_in_nI hs (by omega), ?_⟩
    rw [pu_cl (by omega), h2, if_neg (by rw [nI_leI (by omega) (by omega)]; omega), pu_ix24, pu_cl (by omega)]
    refine ⟨vp_in_nI (by omega) (by omega), ?_⟩
    rw [hP j hj24]
    intro v hv
    subst hv
    refine p6_tasteAll (by rw [e]; exact W) (fun σ2 h2' => ?_)
    have a2 : pu_ag (fun i => i = 75 ∨ i = 87 ∨ i = 88) σ σ2 := h2'.mono (fun i hi => by omega)
    have f2 : σ2 75 = pu_dn g j := by rw [h2' 75 (by omega), e]
    rw [e]
    intro v11 hv11
    by_cases z : P j = -1000000005
    · rw [if_pos z]
      refine nx σ2 0 a2 f2 ?_
      rw [show (0 : Int64) = lN 0 from rfl, lN_add, pu_gn, if_pos z]
    · rw [if_neg z]
      have ab := pu_ab6 (pu_tall_in W) ((hc j hj24).resolve_left z)
      rw [← hv11] at ab
      by_cases y : 0 ≤ lg_cmp v11 0
      · rw [if_pos y] at ab ⊢
        refine nx σ2 v11 a2 f2 ?_
        rw [ab, lN_add, pu_gn, if_neg z]
      · rw [if_neg y] at ab ⊢
        refine nx σ2 (-v11) a2 f2 ?_
        rw [ab, lN_add, pu_gn, if_neg z]
theorem p6_offBy {k : Int64 → ovSt → Prop} {g P f : Nat → Int32} (hg : pu_WG g) {s S t : Nat} (hs : s < 4) (hS : S ≤ 24) (ht : t < 8) (hc : ∀ i, i < 24 → pu_cell (P i)) {σ : ovSt} (e : σ 75 = g) (e8 : σ 78 = pu_ov f g 40) (h2 : σ 90 s = nI S) (hP : ∀ i, i < 24 → σ 91 (24 * s + i) = P i) (h : ∀ σ', pu_ag (fun i => i = 75 ∨ i = 87 ∨ i = 88) σ σ' → σ' 75 = g → k (lN (pu_gn (pu_tos g t 500) P S)) σ') : F_X6_offBy (nI s) (nI t) σ k := by
  unfold F_X6_offBy
  refine p6_tosses ht (fun σ1 h1 e1 => ?_)
  rw [e] at e1
  exact ⟨S + 1, p6_off_loop (P := P) (f := f) (pu_WG_tos hg ht 500) (pu_tx_tos g ht 500) hs hS hc S 0 σ1 (by omega) e1 (by rw [h1 78 (by omega), e8]) (by rw [h1 90 (by omega), h2]) (fun i hi => by rw [h1 91 (by omega)]; exact hP i hi) (fun σ2 h2' e2 => h σ2 ((h1.mono (fun i hi => by omega)).tr h2') e2)⟩
def pu_th (G : Nat → Nat) : Nat → Nat → Nat × Nat → Nat × Nat
  | 0, _, s => s
  | m + 1, t, s => pu_th G m (t + 1) (if s.2 ≤ G t then s else (t, G t))
def pu_pick2 (b : Int32) (s : Nat × Nat) : Int32 := if b = 0 then nI s.1 else nI s.2
theorem p5_thrown_loop {k : Int32 → ovSt → Prop} {g P : Nat → Int32} (hg : pu_WG g) {n s S : Nat} (hn : pu_n g = n) (hs : s < 4) (hS : S ≤ 24) (hc : ∀ i, i < 24 → pu_cell (P i)) {b : Int32} : ∀ (m t : Nat) (st : Nat × Nat) (σ : ovSt), t + m = n → st.2 ≤ 6000000 → pu_RS σ 21 g → pu_LS σ g → σ (51 + 2 * s) 2 = nI S → (∀ i, i < 24 → σ (51 + 2 * s + 1) i = P i) → (∀ σ', pu_ag (fun i => i = 20 ∨ (33 ≤ i ∧ i ≤ 38)) σ σ' → k (pu_pick2 b (pu_th (fun t => pu_gn (pu_tos g t 500) P S) m t st)) σ') → F_X5_thrown_65 k (m + 1) (nI s) b (nI st.1) (nI st.2) (nI t) σ
  | 0, t, st, σ, ht, hst, hR, hL, h2, hP, h => by
    have hb := pu_WG_n hg
    rw [hn] at hb
    have et : t = n := by omega
    subst et
    unfold F_X5_thrown_65 F_X5_thrown_121
    rw [hR.1.2.1, hb.2, if_pos (Int32.le_refl _)]
    have h0 := h σ (pu_ag.rf _ σ)
    unfold pu_pick2 at h0
    by_cases z : b = 0
    · rw [if_pos z] at h0 ⊢; exact h0
    · rw [if_neg z] at h0 ⊢; exact h0
  | m + 1, t, st, σ, ht, hst, hR, hL, h2, hP, h => by
    have hb := pu_WG_n hg
    rw [hn] at hb
    have ht8 : t < 8 := by omega
    unfold F_X5_thrown_65
    rw [hR.1.2.1, hb.2, if_neg (by rw [nI_leI (by omega) (by omega)]; omega), pu_cl (by omega)]
    refine ⟨vp_in_nI hs (by omega), ?_⟩
    refine p5_gap (P := P) hg hs hS ht8 hc hR hL h2 hP (fun σ1 h1 => ?_)
    have hG := pu_gn_le (P := P) (pu_WG_tos hg ht8 500) S (fun i hi => hc i (by omega))
    have nx := fun (st2 : Nat × Nat) (q : st2.2 ≤ 6000000) (e : st2 = if st.2 ≤ pu_gn (pu_tos g t 500) P S then st else (t, pu_gn (pu_tos g t 500) P S)) => p5_thrown_loop (k := k) (P := P) (b := b) hg hn hs hS hc m (t + 1) st2 σ1 (by omega) q (hR.ag (fun i x y => h1 i (by omega))) (hL.ag hg (fun i x y => h1 i (by omega))) (by rw [h1 _ (by omega), h2]) (fun i hi => by rw [h1 _ (by omega)]; exact hP i hi) (fun σ2 h2 => by rw [e]; exact h σ2 (h1.tr h2))
    unfold F_X5_thrown_105
    rw [← nI_succ]
    by_cases z : st.2 ≤ pu_gn (pu_tos g t 500) P S
    · rw [if_pos (nI_le z (by omega))]
      exact nx st hst (by rw [if_pos z])
    · rw [if_neg (by rw [nI_leI (by omega) (by omega)]; exact z)]
      exact nx (t, pu_gn (pu_tos g t 500) P S) (by show pu_gn (pu_tos g t 500) P S ≤ 6000000; omega) (by rw [if_neg z])
theorem p6_thrown_loop {k : Int32 → ovSt → Prop} {g P f : Nat → Int32} (hg : pu_WG g) {n s S : Nat} (hn : pu_n g = n) (hs : s < 4) (hS : S ≤ 24) (hc : ∀ i, i < 24 → pu_cell (P i)) {b : Int32} : ∀ (m t : Nat) (st : Nat × Nat) (σ : ovSt), t + m = n → st.2 ≤ 6000000 → st.1 < t → σ 75 = g → σ 78 = pu_ov f g 40 → σ 90 s = nI S → (∀ i, i < 24 → σ 91 (24 * s + i) = P i) → (∀ σ', pu_ag (fun i => i = 75 ∨ i = 87 ∨ i = 88) σ σ' → σ' 75 = g → k (pu_pick2 b (pu_th (fun t => pu_gn (pu_tos g t 500) P S) m t st)) σ') → F_X6_thrown_43 k (m + 1) (nI s) b (nI st.1) (lN st.2) (nI t) σ
  | 0, t, st, σ, ht, hst, hlt, e, e8, h2, hP, h => by
    have hb := pu_WG_n hg
    rw [hn] at hb
    have et : t = n := by omega
    subst et
    unfold F_X6_thrown_43 F_X6_thrown_123
    refine ⟨vp_in_nI (n := 1) (by decide) (by decide), ?_⟩
    rw [show σ 75 (Int32.toNatClampNeg 1) = nI t from by rw [e]; exact hb.2, if_pos (Int32.le_refl _), if_pos (nI_pos' (by omega)), lN_i]
    have h0 := h σ (pu_ag.rf _ σ) e
    unfold pu_pick2 at h0
    by_cases z : b = 0
    · rw [if_pos z] at h0 ⊢; exact h0
    · rw [if_neg z] at h0 ⊢; exact h0
  | m + 1, t, st, σ, ht, hst, hlt, e, e8, h2, hP, h => by
    have hb := pu_WG_n hg
    rw [hn] at hb
    have ht8 : t < 8 := by omega
    unfold F_X6_thrown_43
    refine ⟨vp_in_nI (n := 1) (by decide) (by decide), ?_⟩
    rw [show σ 75 (Int32.toNatClampNeg 1) = nI n from by rw [e]; exact hb.2, if_neg (by rw [nI_leI (by omega) (by omega)]; omega)]
    refine p6_offBy (P := P) (f := f) hg hs hS ht8 hc e e8 h2 hP (fun σ1 h1 e1 => ?_)
    have hG := pu_gn_le (P := P) (pu_WG_tos hg ht8 500) S (fun i hi => hc i (by omega))
    have nx := fun (st2 : Nat × Nat) (q : st2.2 ≤ 6000000) (q1 : st2.1 < t + 1) (e : st2 = if st.2 ≤ pu_gn (pu_tos g t 500) P S then st else (t, pu_gn (pu_tos g t 500) P S)) => p6_thrown_loop (k := k) (P := P) (b := b) (f := f) hg hn hs hS hc m (t + 1) st2 σ1 (by omega) q q1 e1 (by rw [h1 78 (by omega), e8]) (by rw [h1 90 (by omega), h2]) (fun i hi => by rw [h1 91 (by omega)]; exact hP i hi) (fun σ2 h2 e2 => by rw [e]; exact h σ2 (h1.tr h2) e2)
    unfold F_X6_thrown_75 F_X6_thrown_81 F_X6_thrown_95
    rw [if_neg (nI_pos (by omega)), ← nI_succ]
    by_cases z : st.2 ≤ pu_gn (pu_tos g t 500) P S
    · rw [if_pos (by rw [lg_cmp_ge, lN_le (by omega) (by omega)]; exact z), if_neg (by rw [nI_eq (by omega) (by omega)]; omega)]
      exact nx st hst (by omega) (by rw [if_pos z])
    · rw [if_neg (by rw [lg_cmp_ge, lN_le (by omega) (by omega)]; exact z), if_pos rfl]
      exact nx (t, pu_gn (pu_tos g t 500) P S) (by show pu_gn (pu_tos g t 500) P S ≤ 6000000; omega) (by show t < t + 1; omega) (by rw [if_neg z])
theorem v_thrown {σ : ovSt} (h : ovInv σ) (a b : Int32) : F_X5_thrown a b σ (fun r σ1 => F_X6_thrown a b σ1 (fun r' σ2 => r = r' ∧ ovInv σ2)) := by
  have hb := pu_WG_n h.1.1
  unfold F_X5_thrown F_X5_thrown_16
  rcases pu_shx a with ha | ⟨s, hs, es⟩
  · rw [e5_sh_no ha, if_pos rfl]
    show F_X6_thrown _ _ _ _
    unfold F_X6_thrown F_X6_thrown_16
    rw [e6_sh_no ha, if_pos rfl]
    exact ⟨rfl, h⟩
  subst es
  rw [e5_sh_yes hs, if_neg (by decide)]
  by_cases zb : b < 0 ∨ 1 < b
  · rw [pu_no5 zb, if_pos rfl]
    show F_X6_thrown _ _ _ _
    unfold F_X6_thrown F_X6_thrown_16
    rw [e6_sh_yes hs, if_neg (by decide), pu_no6 zb, if_pos rfl]
    exact ⟨rfl, h⟩
  rw [pu_yes5 zb, if_neg (by decide), pu_cl (by omega)]
  have hS := h.2.2.2.2.1 s hs
  refine ⟨vp_in_nI hs (by omega), ?_⟩
  rcases pu_ms hS with ⟨m1, m2, m3⟩ | ⟨m1, m2, m3⟩
  · rw [e1_miss hs hS m1, if_neg (by decide)]
    show F_X6_thrown _ _ _ _
    unfold F_X6_thrown
    rw [e6_sh_yes hs, if_neg (by decide), pu_yes6 zb, if_neg (by decide), pu_cl (by omega)]
    refine ⟨vp_in_nI hs (by omega), ?_⟩
    rw [if_neg m2]
    exact ⟨rfl, h⟩
  rw [e1_nmiss hs hS m1, if_pos rfl, h.1.2.1.1.2.1]
  obtain ⟨r1, r2, r3, ⟨S, hSn, r4⟩, r5⟩ := hS
  have m6 : ∀ (σ1 : ovSt) (k : Int32 → ovSt → Prop), pu_ag (fun i => i = 20 ∨ (33 ≤ i ∧ i ≤ 38)) σ σ1 → (∀ σ3, pu_ag (fun i => i = 78) σ1 σ3 → σ3 78 = pu_ov (σ1 78) (σ 75) 40 → ∃ n11, F_X6_thrown_43 k n11 (nI s) b (-1) 0 0 σ3) → F_X6_thrown (nI s) b σ1 k := by
    intro σ1 k a1 hk
    unfold F_X6_thrown
    rw [e6_sh_yes hs, if_neg (by decide), pu_yes6 zb, if_neg (by decide), pu_cl (by omega)]
    refine ⟨vp_in_nI hs (by omega), ?_⟩
    rw [a1 89 (by omega), if_pos m2]
    refine p6_thinks (fun σ3 h3 e3 => ?_)
    rw [a1 75 (by omega)] at e3
    exact hk σ3 h3 e3
  by_cases zn : σ 75 1 = 0
  · rw [if_pos zn]
    refine m6 σ _ (pu_ag.rf _ _) (fun σ3 h3 e3 => ⟨1, ?_⟩)
    unfold F_X6_thrown_43 F_X6_thrown_123
    refine ⟨vp_in_nI (n := 1) (by decide) (by decide), ?_⟩
    rw [show σ3 75 (Int32.toNatClampNeg 1) = 0 from by rw [h3 75 (by omega)]; exact zn, if_pos (Int32.le_refl _), if_neg (by decide)]
    refine ⟨rfl, h.good (pu_good.sc h.1 (h3.mono (fun i hi => by unfold pu_XT; omega)))⟩
  rw [if_neg zn]
  have n0 : 0 < pu_n (σ 75) := by
    rcases Nat.eq_zero_or_pos (pu_n (σ 75)) with q | q
    · exact absurd (by rw [hb.2, q]; rfl) zn
    · exact q
  have hc : ∀ i, i < 24 → pu_cell (σ 91 (24 * s + i)) := fun i hi => (r5 i hi).2
  show F_X5_gapIfThrown (51 + 2 * s) (nI 0) σ _
  refine p5_gap (P := fun i => σ 91 (24 * s + i)) (S := S) h.1.1 hs hSn (by omega) hc h.1.2.1 h.1.2.2.1 (by rw [r2, r4]) (fun i hi => (r5 i hi).1) (fun σ1 h1 => ?_)
  have hG := pu_gn_le (P := fun i => σ 91 (24 * s + i)) (pu_WG_tos h.1.1 (t := 0) (by omega) 500) S (fun i hi => hc i (by omega))
  have hG' : pu_gn (pu_tos (σ 75) 0 500) (fun i => σ 91 (24 * s + i)) S ≤ 6000000 := by omega
  refine ⟨pu_n (σ 75) - 1 + 1, p5_thrown_loop (P := fun i => σ 91 (24 * s + i)) (S := S) (b := b) h.1.1 rfl hs hSn hc (pu_n (σ 75) - 1) 1 (0, pu_gn (pu_tos (σ 75) 0 500) (fun i => σ 91 (24 * s + i)) S) σ1 (by omega) hG' (h.1.2.1.ag (fun i x y => h1 i (by omega))) (h.1.2.2.1.ag h.1.1 (fun i x y => h1 i (by omega))) (by rw [h1 _ (by omega), r2, r4]) (fun i hi => by rw [h1 _ (by omega)]; exact (r5 i hi).1) (fun σ2 h2 => ?_)⟩
  have a2 : pu_ag (fun i => i = 20 ∨ (33 ≤ i ∧ i ≤ 38)) σ σ2 := h1.tr h2
  refine m6 σ2 _ a2 (fun σ3 h3 e3 => ⟨pu_n (σ 75) - 1 + 1 + 1, ?_⟩)
  have a3 : pu_ag (fun i => i = 78 ∨ i = 20 ∨ (33 ≤ i ∧ i ≤ 38)) σ σ3 := (a2.mono (fun i hi => by omega)).tr (h3.mono (fun i hi => by omega))
  unfold F_X6_thrown_43
  refine ⟨vp_in_nI (n := 1) (by decide) (by decide), ?_⟩
  rw [show σ3 75 (Int32.toNatClampNeg 1) = nI (pu_n (σ 75)) from by rw [a3 75 (by omega)]; exact hb.2, if_neg (show ¬ nI (pu_n (σ 75)) ≤ 0 from by rw [show (0 : Int32) = nI 0 from rfl, nI_leI (by omega) (by omega)]; omega)]
  show F_X6_offBy (nI s) (nI 0) σ3 _
  refine p6_offBy (P := fun i => σ 91 (24 * s + i)) (S := S) (f := σ2 78) h.1.1 hs hSn (by omega) hc (a3 75 (by omega)) e3 (by rw [a3 90 (by omega), r4]) (fun i hi => by rw [a3 91 (by omega)]) (fun σ4 h4 e4 => ?_)
  rw [if_pos (by decide)]
  unfold F_X6_thrown_75 F_X6_thrown_81 F_X6_thrown_95
  rw [if_pos rfl]
  have a4 : pu_ag (fun i => i = 75 ∨ i = 87 ∨ i = 88 ∨ i = 78 ∨ i = 20 ∨ (33 ≤ i ∧ i ≤ 38)) σ σ4 := (a3.mono (fun i hi => by omega)).tr (h4.mono (fun i hi => by omega))
  refine p6_thrown_loop (P := fun i => σ 91 (24 * s + i)) (S := S) (b := b) (f := σ2 78) h.1.1 rfl hs hSn hc (pu_n (σ 75) - 1) 1 (0, pu_gn (pu_tos (σ 75) 0 500) (fun i => σ 91 (24 * s + i)) S) σ4 (by omega) hG' Nat.zero_lt_one e4 (by rw [h4 78 (by omega), e3]) (by rw [a4 90 (by omega), r4]) (fun i hi => by rw [a4 91 (by omega)]) (fun σ5 h5 e5 => ?_)
  refine ⟨rfl, h.good (pu_good.back h.1 (fun i hi => ?_) e5)⟩
  unfold pu_XU pu_XT at hi
  rw [h5 i (by omega), a4 i (by omega)]
