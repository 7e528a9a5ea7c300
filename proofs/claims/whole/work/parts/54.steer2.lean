/-! steer: the loops -/
def pu_s1 (g : Nat → Int32) (N : Nat) (w : Int32) (t i : Nat) (s : Int32 × Int32 × Int32) : Int32 × Int32 × Int32 := if ov_abs (s.2.2 - w) ≤ ov_abs (pu_tot g N t i - w) then s else (nI t, nI (50 * i), pu_tot g N t i)
def pu_s2 (g : Nat → Int32) (N : Nat) (w : Int32) (t : Nat) : Nat → Nat → Int32 × Int32 × Int32 → Int32 × Int32 × Int32
  | 0, _, s => s
  | m + 1, i, s => pu_s2 g N w t m (i + 1) (pu_s1 g N w t i s)
def pu_s3 (g : Nat → Int32) (N : Nat) (w : Int32) : Nat → Nat → Int32 × Int32 × Int32 → Int32 × Int32 × Int32
  | 0, _, s => s
  | m + 1, t, s => pu_s3 g N w m (t + 1) (pu_s2 g N w t 21 0 s)
theorem p5_steer_in {R97 : Int32 → Int32 → Int32 → Int32 → Int32 → Int32 → Int32 → Int32 → ovSt → Prop} {k : Int32 → ovSt → Prop} {g : Nat → Int32} (hg : pu_WG g) {t N : Nat} (htn : t < pu_n g) (ht : t < 8) (hN : N < 2 ^ 31) {w c : Int32} : ∀ (m i : Nat) (s : Int32 × Int32 × Int32) (σ : ovSt) (r : Nat → Int32), i + m = 21 → pu_RS σ 21 g → pu_RS σ 39 r → pu_sq g r → pu_LS σ g →
    (∀ σ' r', pu_ag pu_XV σ σ' → pu_RS σ' 39 r' → pu_sq g r' → R97 w (nI N) c (pu_tall (pu_dn g N)) (pu_s2 g N w t m i s).1 (pu_s2 g N w t m i s).2.1 (pu_s2 g N w t m i s).2.2 (nI (t + 1)) σ') →
    F_X5_steer_126 R97 k (m + 1) w (nI N) c (pu_tall (pu_dn g N)) s.1 s.2.1 s.2.2 (nI t) (pu_tall (pu_dn g N) - pu_taste (pu_dn g N) t) (nI (50 * i)) σ
  | 0, i, s, σ, r, hi, hR, hr, hq, hL, h => by
    have ei : i = 21 := by omega
    subst ei
    unfold F_X5_steer_126
    rw [if_pos (by decide), ← nI_succ]
    exact h σ r (pu_ag.rf _ σ) hr hq
  | m + 1, i, s, σ, r, hi, hR, hr, hq, hL, h => by
    unfold F_X5_steer_126
    rw [if_neg (by rw [show (1000 : Int32) = nI 1000 from rfl, nI_ltI (by omega) (by omega)]; omega)]
    refine p5_tasteTried hg ht hN ⟨by rw [nI_toInt (by omega)]; omega, by rw [nI_toInt (by omega)]; omega⟩ hR hr hq hL (fun σ1 r1 h1 hr1 hq1 => ?_)
    rw [pu_tot_eq hg htn]
    intro v hv
    subst hv
    unfold F_X5_steer_177
    rw [show nI (50 * i) + 50 = nI (50 * (i + 1)) from nI_add (50 * i) 50]
    have R1 := hR.ag (σ' := σ1) (fun j a b => h1 j (by unfold pu_XV; omega))
    have L1 : pu_LS σ1 g := hL.ag hg (fun j a b => h1 j (by unfold pu_XV; omega))
    have nx := p5_steer_in (R97 := R97) (k := k) hg htn ht hN (w := w) (c := c) m (i + 1) (pu_s1 g N w t i s) σ1 r1 (by omega) R1 hr1 hq1 L1 (fun σ2 r2 h2 => h σ2 r2 (h1.tr h2))
    by_cases z : ov_abs (s.2.2 - w) ≤ ov_abs (pu_tot g N t i - w)
    · rw [if_pos z]
      unfold pu_s1 at nx
      rw [if_pos z] at nx
      exact nx
    · rw [if_neg z]
      unfold pu_s1 at nx
      rw [if_neg z] at nx
      exact nx
def pu_pick (c : Int32) (s : Int32 × Int32 × Int32) : Int32 := if c = 0 then s.1 else if c = 1 then s.2.1 else s.2.2
theorem p5_steer_out {k : Int32 → ovSt → Prop} {g : Nat → Int32} (hg : pu_WG g) {n N : Nat} (hn : pu_n g = n) (hN : N < 2 ^ 31) {w c : Int32} : ∀ (m t : Nat) (s : Int32 × Int32 × Int32) (σ : ovSt) (r : Nat → Int32), t + m = n → pu_RS σ 21 g → pu_RS σ 33 (pu_dn g N) → pu_RS σ 39 r → pu_sq g r → pu_LS σ g →
    (∀ σ', pu_ag pu_XV σ σ' → k (pu_pick c (pu_s3 g N w m t s)) σ') →
    F_X5_steer_97 k (m + 1) w (nI N) c (pu_tall (pu_dn g N)) s.1 s.2.1 s.2.2 (nI t) σ
  | 0, t, s, σ, r, hi, hR, hd, hr, hq, hL, h => by
    have hb := pu_WG_n hg
    rw [hn] at hb
    have et : t = n := by omega
    subst et
    unfold F_X5_steer_97 F_X5_steer_210
    rw [hR.1.2.1, hb.2, if_pos (Int32.le_refl _)]
    have h0 := h σ (pu_ag.rf _ σ)
    unfold pu_pick at h0
    by_cases z0 : c = 0
    · rw [if_pos z0] at h0 ⊢; exact h0
    rw [if_neg z0] at h0 ⊢
    by_cases z1 : c = 1
    · rw [if_pos z1] at h0 ⊢; exact h0
    rw [if_neg z1] at h0 ⊢; exact h0
  | m + 1, t, s, σ, r, hi, hR, hd, hr, hq, hL, h => by
    have hb := pu_WG_n hg
    rw [hn] at hb
    unfold F_X5_steer_97
    rw [hR.1.2.1, hb.2, if_neg (by rw [nI_leI (by omega) (by omega)]; omega)]
    refine p3_tasteOf pu_s33 (by omega) (pu_WG_dn hg N) hd (pu_tx_LS (pu_tx_dn hg N) hL) (fun σ1 h1 => ?_)
    intro v hv
    subst hv
    have R1 := hR.ag (σ' := σ1) (fun j a b => h1 j (by omega))
    have D1 := hd.ag (σ' := σ1) (fun j a b => h1 j (by omega))
    have r1 := hr.ag (σ' := σ1) (fun j a b => h1 j (by omega))
    have L1 : pu_LS σ1 g := hL.ag hg (fun j a b => h1 j (by omega))
    have v1 : pu_ag pu_XV σ σ1 := h1.mono (fun i hi => by unfold pu_XV; omega)
    refine ⟨22, p5_steer_in hg (by omega) (by omega) hN 21 0 s σ1 r (by omega) R1 r1 hq L1 (fun σ2 r2 h2 hr2 hq2 => ?_)⟩
    exact p5_steer_out hg hn hN m (t + 1) _ σ2 r2 (by omega) (R1.ag (fun j a b => h2 j (by unfold pu_XV; omega))) (D1.ag (fun j a b => h2 j (by unfold pu_XV; omega))) hr2 hq2 (L1.ag hg (fun j a b => h2 j (by unfold pu_XV; omega))) (fun σ3 h3 => h σ3 ((v1.tr h2).tr h3))
/-- the model's best so far -/
def pu_sm (g : Nat → Int32) (N : Nat) (w : Int32) (t i : Nat) (x3 : Int32) (s : Int32 × Int32 × Int32) (σ : ovSt) : Prop :=
  (x3 = -1 ∧ t = 0 ∧ i = 0 ∧ s = (0, 0, pu_tall (pu_dn g N))) ∨ (x3 = ov_abs (s.2.2 - w) ∧ pu_in s.2.2 0 1000000 ∧ σ 79 0 = s.1 ∧ σ 79 1 = s.2.1 ∧ σ 79 2 = s.2.2)
theorem pu_abs_nn {x y : Int32} (hx : pu_in x 0 1000000) (hy : pu_in y 0 1000000) : ¬ ov_abs (x - y) < 0 := by
  obtain ⟨x1, x2⟩ := hx
  obtain ⟨y1, y2⟩ := hy
  have e0 : (0 : Int32).toInt = 0 := rfl
  have s1 := fb_subI (x := x) (y := y) (by omega) (by omega)
  have s2 := fb_subI (x := 0) (y := x - y) (by omega) (by omega)
  rw [fa_lt, e0]
  show ¬ (if 0 ≤ x - y then x - y else 0 - (x - y)).toInt < 0
  by_cases z : 0 ≤ x - y
  · rw [if_pos z]
    rw [fa_le, e0] at z
    omega
  · rw [if_neg z]
    rw [fa_le, e0] at z
    omega
theorem p6_steer_in {R9 : Int32 → Int32 → Int32 → Int32 → ovSt → Prop} {k : ovSt → Prop} {g f : Nat → Int32} (hg : pu_WG g) {t N : Nat} (ht : t < 8) (hN : N < 2 ^ 31) {w : Int32} (hw : pu_in w 0 1000000) : ∀ (m i : Nat) (x3 : Int32) (s : Int32 × Int32 × Int32) (σ : ovSt), i + m = 21 → σ 75 = g → σ 78 = pu_ov f g 40 → pu_sm g N w t i x3 s σ →
    (∀ σ' y3, pu_ag pu_XU σ σ' → σ' 75 = g → σ' 78 = pu_ov f g 40 → pu_sm g N w (t + 1) 0 y3 (pu_s2 g N w t m i s) σ' → R9 w (nI N) y3 (nI (t + 1)) σ') →
    F_X6_findSteer_23 R9 k (m + 1) w (nI N) x3 (nI t) (nI i) σ
  | 0, i, x3, s, σ, hi, e, e8, hs, h => by
    have ei : i = 21 := by omega
    subst ei
    unfold F_X6_findSteer_23
    rw [if_pos (by decide), ← nI_succ]
    refine h σ x3 (pu_ag.rf _ σ) e e8 ?_
    rcases hs with ⟨-, -, q, -⟩ | q
    · exact absurd q (by omega)
    · exact Or.inr q
  | m + 1, i, x3, s, σ, hi, e, e8, hs, h => by
    unfold F_X6_findSteer_23
    rw [if_neg (by rw [show (20 : Int32) = nI 20 from rfl, nI_ltI (by omega) (by omega)]; omega), show 50 * nI i = nI (50 * i) from pk_mul 50 i]
    refine p6_tosses ht (fun σ1 h1 e1 => ?_)
    rw [e] at e1
    have W1 := pu_WG_tos hg ht (nI (50 * i))
    refine p6_goesOn (by rw [e1]; exact W1) hN (fun σ2 h2 e2 => ?_)
    rw [e1] at e2
    have W2 := pu_WG_dn W1 N
    refine p6_tasteAll (by rw [e2]; exact W2) (fun σ3 h3 => ?_)
    rw [e2]
    refine p6_putsBack (fun σ4 h4 e4 => ?_)
    have T : pu_tx g (pu_dn (pu_tos g t (nI (50 * i))) N) := (pu_tx_tos g ht _).tr (pu_tx_dn W1 N)
    have f78 : σ4 78 = pu_ov f g 40 := by rw [h4 78 (by decide), h3 78 (by decide), h2 78 (by decide), h1 78 (by decide), e8]
    have f75 : σ4 75 = g := by
      rw [e4, h3 75 (by decide), e2, h3 78 (by decide), h2 78 (by decide), h1 78 (by decide), e8]
      exact pu_ov_back T
    have f79 : σ4 79 = σ 79 := by rw [h4 79 (by decide), h3 79 (by decide), h2 79 (by decide), h1 79 (by decide)]
    have a4 : pu_ag pu_XU σ σ4 := ((h1.u75.tr h2.u75).tr h3.u87).tr h4.u75
    have hT : pu_in (pu_tot g N t i) 0 1000000 := (pu_tall_in W2).le (by decide)
    have nx := fun (y3 : Int32) (σ5 : ovSt) (a5 : pu_ag pu_XU σ4 σ5) (q75 : σ5 75 = g) (q78 : σ5 78 = pu_ov f g 40) (q : pu_sm g N w t (i + 1) y3 (pu_s1 g N w t i s) σ5) => p6_steer_in (R9 := R9) (k := k) (f := f) hg ht hN hw m (i + 1) y3 (pu_s1 g N w t i s) σ5 (by omega) q75 q78 q (fun σ6 y4 h6 p75 p78 p => h σ6 y4 ((a4.tr a5).tr h6) p75 p78 p)
    have take : pu_s1 g N w t i s = (nI t, nI (50 * i), pu_tot g N t i) → F_X6_findSteer_70 R9 (F_X6_findSteer_23 R9 k (m + 1)) k w (nI N) (nI t) (nI i) (pu_tall (pu_dn (pu_tos g t (nI (50 * i))) N)) σ4 := by
      intro hq
      unfold F_X6_findSteer_70 F_X6_findSteer_104
      show F_X6_off (pu_tot g N t i) w σ4 _
      rw [pu_off hT hw]
      refine ⟨vp_in_nI (n := 0) (by decide) (by decide), ?_⟩
      intro σ5 e5
      refine ⟨vp_in_nI (n := 1) (by decide) (by decide), ?_⟩
      intro σ6 e6
      refine ⟨vp_in_nI (n := 2) (by decide) (by decide), ?_⟩
      intro σ7 e7
      rw [show 50 * nI i = nI (50 * i) from pk_mul 50 i] at e6
      have a7 : pu_ag (fun j => j = 79) σ4 σ7 := by
        rw [e7]
        refine pu_ag.up ?_ rfl
        rw [e6]
        refine pu_ag.up ?_ rfl
        rw [e5]
        exact pu_ag.up1 rfl
      rw [← nI_succ]
      refine nx _ σ7 (a7.mono (fun j hj => by unfold pu_XU pu_XT; omega)) ((a7 75 (by decide)).trans f75) ((a7 78 (by decide)).trans f78) ?_
      rw [hq]
      refine Or.inr ⟨rfl, hT, ?_, ?_, ?_⟩
      · rw [e7, pu_up_same, pu_un (by decide), e6, pu_up_same, pu_un (by decide), e5, pu_up_same]; rfl
      · rw [e7, pu_up_same, pu_un (by decide), e6, pu_up_same]; rfl
      · rw [e7, pu_up_same]; rfl
    rcases hs with ⟨x0, t0, i0, s0⟩ | ⟨x0, b0, s0⟩
    · subst t0
      subst i0
      rw [if_pos (by rw [x0]; decide)]
      refine take ?_
      have w0 : pu_tot g N 0 0 = pu_tall (pu_dn g N) := by
        unfold pu_tot
        rw [show nI (50 * 0) = 0 from rfl, pu_tos0 hg (by omega)]
      unfold pu_s1
      rw [s0, w0, if_pos (Int32.le_refl _)]
      rfl
    · rw [if_neg (by rw [x0]; exact pu_abs_nn b0 hw)]
      show F_X6_off (pu_tot g N t i) w σ4 _
      rw [pu_off hT hw, x0]
      by_cases z : ov_abs (s.2.2 - w) ≤ ov_abs (pu_tot g N t i - w)
      · rw [if_pos z]
        unfold F_X6_findSteer_104
        rw [← nI_succ]
        refine nx _ σ4 (pu_ag.rf _ _) f75 f78 ?_
        unfold pu_s1
        rw [if_pos z]
        refine Or.inr ⟨rfl, b0, ?_⟩
        rw [f79]
        exact s0
      · rw [if_neg z]
        refine take ?_
        unfold pu_s1
        rw [if_neg z]
theorem p6_steer_out {k : ovSt → Prop} {g f : Nat → Int32} (hg : pu_WG g) {n N : Nat} (hn : pu_n g = n) (h0 : 0 < n) (hN : N < 2 ^ 31) {w : Int32} (hw : pu_in w 0 1000000) : ∀ (m t : Nat) (x3 : Int32) (s : Int32 × Int32 × Int32) (σ : ovSt), t + m = n → σ 75 = g → σ 78 = pu_ov f g 40 → pu_sm g N w t 0 x3 s σ →
    (∀ σ', pu_ag pu_XU σ σ' → σ' 75 = g → σ' 79 0 = (pu_s3 g N w m t s).1 → σ' 79 1 = (pu_s3 g N w m t s).2.1 → σ' 79 2 = (pu_s3 g N w m t s).2.2 → k σ') →
    F_X6_findSteer_9 k (m + 1) w (nI N) x3 (nI t) σ
  | 0, t, x3, s, σ, hi, e, e8, hs, h => by
    have hb := pu_WG_n hg
    rw [hn] at hb
    have et : t = n := by omega
    subst et
    unfold F_X6_findSteer_9
    refine ⟨vp_in_nI (n := 1) (by decide) (by decide), ?_⟩
    rw [show σ 75 (Int32.toNatClampNeg 1) = nI t from by rw [e]; exact hb.2, if_pos (Int32.le_refl _)]
    rcases hs with ⟨-, q, -⟩ | ⟨-, -, q0, q1, q2⟩
    · exact absurd q (by omega)
    · exact h σ (pu_ag.rf _ σ) e q0 q1 q2
  | m + 1, t, x3, s, σ, hi, e, e8, hs, h => by
    have hb := pu_WG_n hg
    rw [hn] at hb
    unfold F_X6_findSteer_9
    refine ⟨vp_in_nI (n := 1) (by decide) (by decide), ?_⟩
    rw [show σ 75 (Int32.toNatClampNeg 1) = nI n from by rw [e]; exact hb.2, if_neg (by rw [nI_leI (by omega) (by omega)]; omega)]
    refine ⟨22, p6_steer_in (f := f) hg (by omega) hN hw 21 0 x3 s σ (by omega) e e8 hs (fun σ1 y3 h1 q75 q78 q => ?_)⟩
    exact p6_steer_out (f := f) hg hn h0 hN hw m (t + 1) y3 _ σ1 (by omega) q75 q78 q (fun σ2 h2 => h σ2 (h1.tr h2))
theorem v_steer {σ : ovSt} (h : pu_I1 σ) (a b c : Int32) : F_X5_steer a b c σ (fun r σ1 => F_X6_steer a b c σ1 (fun r' σ2 => r = r' ∧ pu_good σ σ2)) := by
  have hb := pu_WG_n h.1
  unfold F_X5_steer F_X5_steer_29
  by_cases za : a < 0 ∨ 99999 < a
  · rw [pu_no5 za, if_pos rfl]
    show F_X6_steer _ _ _ _ _
    unfold F_X6_steer F_X6_steer_29
    rw [pu_no6 za, if_pos rfl]
    exact ⟨rfl, pu_good.rf h⟩
  rw [pu_yes5 za, if_neg (by decide)]
  by_cases zb : b < 0 ∨ 30 < b
  · rw [pu_no5 zb, if_pos rfl]
    show F_X6_steer _ _ _ _ _
    unfold F_X6_steer F_X6_steer_29
    rw [pu_yes6 za, if_neg (by decide), pu_no6 zb, if_pos rfl]
    exact ⟨rfl, pu_good.rf h⟩
  rw [pu_yes5 zb, if_neg (by decide)]
  by_cases zc : c < 0 ∨ 2 < c
  · rw [pu_no5 zc, if_pos rfl]
    show F_X6_steer _ _ _ _ _
    unfold F_X6_steer F_X6_steer_29
    rw [pu_yes6 za, if_neg (by decide), pu_yes6 zb, if_neg (by decide), pu_no6 zc, if_pos rfl]
    exact ⟨rfl, pu_good.rf h⟩
  rw [pu_yes5 zc, if_neg (by decide), h.2.1.1.2.1]
  by_cases zn : σ 75 1 = 0
  · rw [if_pos zn]
    show F_X6_steer _ _ _ _ _
    unfold F_X6_steer
    rw [pu_yes6 za, if_neg (by decide), pu_yes6 zb, if_neg (by decide), pu_yes6 zc, if_neg (by decide)]
    refine ⟨vp_in_nI (n := 1) (by decide) (by decide), ?_⟩
    rw [if_pos (show σ 75 (Int32.toNatClampNeg 1) = 0 from zn)]
    exact ⟨rfl, pu_good.rf h⟩
  rw [if_neg zn]
  have n0 : 0 < pu_n (σ 75) := by
    rcases Nat.eq_zero_or_pos (pu_n (σ 75)) with q | q
    · exact absurd (by rw [hb.2, q]; rfl) zn
    · exact q
  have hA : pu_in a 0 1000000 := (pu_bt za).le (by decide)
  obtain ⟨x1, x2⟩ := pu_bt zb
  have e0 : (0 : Int32).toInt = 0 := rfl
  have e30 : (30 : Int32).toInt = 30 := rfl
  obtain ⟨N, hN, eN⟩ := pu_ofInt (x := b) (b := 31) (by omega) (by omega) (by omega)
  subst eN
  refine p3_become pu_s33 pu_s21 (by decide) h.2.1 (fun σ1 h1 R1 => ?_)
  refine p3_passDays pu_s33 h.1 (by omega) R1 (fun σ2 h2 R2 => ?_)
  have a2 : pu_ag (pu_stX 33) σ σ2 := h1.tr h2
  have N2 : pu_RS σ2 21 (σ 75) := h.2.1.ag (fun i x y => a2 i (by unfold pu_stX; omega))
  refine p3_become pu_s39 pu_s21 (by decide) N2 (fun σ3 h3 R3 => ?_)
  have L3 : pu_LS σ3 (σ 75) := h.2.2.1.ag h.1 (fun i x y => by rw [h3 i (by unfold pu_stX; omega), a2 i (by unfold pu_stX; omega)])
  have D3 : pu_RS σ3 33 (pu_dn (σ 75) N) := R2.ag (fun i x y => h3 i (by unfold pu_stX; omega))
  refine p3_tasteOfAll pu_s33 (pu_WG_dn h.1 N) D3 (pu_tx_LS (pu_tx_dn h.1 N) L3) (fun σ4 h4 => ?_)
  refine ⟨pu_n (σ 75) + 1, p5_steer_out h.1 rfl (by omega) (pu_n (σ 75)) 0 (0, 0, pu_tall (pu_dn (σ 75) N)) σ4 (σ 75) (by omega) ?_ ?_ ?_ ⟨h.1, fun _ _ => ⟨rfl, rfl⟩, rfl, rfl, pu_tx.rf _⟩ ?_ (fun σ5 h5 => ?_)⟩
  · exact N2.ag (fun i x y => by rw [h4 i (by omega), h3 i (by unfold pu_stX; omega)])
  · exact D3.ag (fun i x y => h4 i (by omega))
  · exact R3.ag (fun i x y => h4 i (by omega))
  · exact L3.ag h.1 (fun i x y => h4 i (by omega))
  · have u5 : pu_ag pu_XU σ4 σ5 := h5.mono (fun i hi => by unfold pu_XV at hi; unfold pu_XU pu_XT; omega)
    have a5 : pu_ag pu_XU σ σ5 := ((a2.u33.tr h3.u39).tr h4.u20).tr u5
    have f5 : σ5 75 = σ 75 := by
      rw [h5 75 (by unfold pu_XV; omega), h4 75 (by decide), h3 75 (by unfold pu_stX; omega), a2 75 (by unfold pu_stX; omega)]
    show F_X6_steer _ _ _ _ _
    unfold F_X6_steer
    rw [pu_yes6 za, if_neg (by decide), pu_yes6 zb, if_neg (by decide), pu_yes6 zc, if_neg (by decide)]
    refine ⟨vp_in_nI (n := 1) (by decide) (by decide), ?_⟩
    rw [if_neg (show ¬ σ5 75 (Int32.toNatClampNeg 1) = 0 from by rw [f5]; exact zn)]
    unfold F_X6_findSteer
    refine p6_thinks (fun σ6 h6 e6 => ?_)
    rw [f5] at e6
    have f6 : σ6 75 = σ 75 := (h6 75 (by decide)).trans f5
    refine ⟨pu_n (σ 75) + 1, p6_steer_out (f := σ5 78) h.1 rfl n0 (by omega) hA (pu_n (σ 75)) 0 (-1) (0, 0, pu_tall (pu_dn (σ 75) N)) σ6 (by omega) f6 e6 (Or.inl ⟨rfl, rfl, rfl, rfl⟩) (fun σ7 h7 e7 q0 q1 q2 => ?_)⟩
    have gd : pu_good σ σ7 := pu_good.back h ((a5.tr h6.u78).tr h7) e7
    obtain ⟨c1, c2⟩ := pu_bt zc
    have e2 : (2 : Int32).toInt = 2 := rfl
    obtain ⟨C, hC, eC⟩ := pu_ofInt (x := c) (b := 3) (by omega) (by omega) (by omega)
    subst eC
    refine ⟨vp_in_nI hC (by omega), ?_⟩
    rw [pu_cl (by omega)]
    refine ⟨?_, gd⟩
    unfold pu_pick
    rcases (show C = 0 ∨ C = 1 ∨ C = 2 by omega) with q | q | q
    · subst q; rw [if_pos (show nI 0 = 0 from rfl), q0]
    · subst q; rw [if_neg (by decide), if_pos (show nI 1 = 1 from rfl), q1]
    · subst q; rw [if_neg (by decide), if_neg (by decide), q2]
