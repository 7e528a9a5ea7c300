/-! ===== nearest ===== -/
theorem pu_sum_in {f : Nat → Int32} {B : Nat} (hB : B ≤ 100000) : ∀ (n : Nat), n ≤ 8 → (∀ t, t < n → pu_in (f t) 0 B) → pu_in (pu_sum f n) 0 ((n * B : Nat) : Int)
  | 0, _, _ => ⟨(by decide : (0 : Int) ≤ (0 : Int32).toInt), (by rw [Nat.zero_mul]; decide : (0 : Int32).toInt ≤ ((0 * B : Nat) : Int))⟩
  | n + 1, hn, h => by
    obtain ⟨i1, i2⟩ := pu_sum_in hB n (by omega) (fun t ht => h t (by omega))
    obtain ⟨j1, j2⟩ := h n (by omega)
    have hq : n * B ≤ 8 * 100000 := Nat.mul_le_mul (by omega) hB
    have hm : (n + 1) * B = n * B + B := Nat.succ_mul n B
    unfold pu_sum pu_in
    rw [fb_addI (by omega) (by omega)]
    omega
theorem pu_tall_in {g : Nat → Int32} (hg : pu_WG g) : pu_in (pu_tall g) 0 144464 := by
  have hb := pu_WG_n hg
  obtain ⟨h1, h2⟩ := pu_sum_in (f := pu_taste g) (B := 18058) (by omega) (pu_n g) hb.1 (fun t ht => pu_taste_in hg (by omega))
  unfold pu_tall
  refine ⟨h1, ?_⟩
  omega
theorem pu_off {x y : Int32} (hx : pu_in x 0 1000000) (hy : pu_in y 0 1000000) (σ : ovSt) (k : Int32 → ovSt → Prop) : F_X6_off x y σ k = k (ov_abs (x - y)) σ := by
  obtain ⟨x1, x2⟩ := hx
  obtain ⟨y1, y2⟩ := hy
  have e0 : (0 : Int32).toInt = 0 := rfl
  have s1 := fb_subI (x := x) (y := y) (by omega) (by omega)
  have s2 := fb_subI (x := y) (y := x) (by omega) (by omega)
  have e : 0 - (x - y) = y - x := by rw [Int32.zero_sub, Int32.neg_sub]
  unfold F_X6_off F_X6_off_14
  show _ = k (if 0 ≤ x - y then x - y else 0 - (x - y)) σ
  by_cases z : y ≤ x
  · rw [if_pos z]
    rw [if_pos (show 0 ≤ x - y by rw [fa_le] at z ⊢; omega)]
  · rw [if_neg z]
    rw [if_neg (show ¬ 0 ≤ x - y by rw [fa_le] at z ⊢; omega), e]
def pu_nr (g : Nat → Int32) (a : Int32) : Nat → Nat → Int32 → Int32 → Int32
  | 0, _, x2, _ => x2
  | m + 1, j, x2, x3 => if x3 ≤ ov_abs (pu_tall (pu_dn g (j + 1)) - a) then pu_nr g a m (j + 1) x2 x3 else pu_nr g a m (j + 1) (nI (j + 1)) (ov_abs (pu_tall (pu_dn g (j + 1)) - a))
theorem pu_100 {j : Nat} (hj : j ≤ 100) : ¬ (100 : Int32) < nI j := by
  rw [show (100 : Int32) = nI 100 from rfl, nI_ltI (by omega) (by omega)]; omega
theorem p5_nearest_loop {k : Int32 → ovSt → Prop} {g : Nat → Int32} (hg : pu_WG g) {a : Int32} : ∀ (m j : Nat) (x2 x3 : Int32) (σ : ovSt), j + m = 100 → pu_RS σ 33 (pu_dn g j) → pu_LS σ g → (∀ σ', pu_ag pu_XU σ σ' → σ' 75 = σ 75 → k (pu_nr g a m j x2 x3) σ') → F_X5_nearest_42 k (m + 1) a x2 x3 (nI (j + 1)) σ
  | 0, j, x2, x3, σ, hj, hR, hL, h => by
    have ej : j = 100 := by omega
    subst ej
    unfold F_X5_nearest_42
    rw [if_pos (by decide)]
    exact h σ (pu_ag.rf _ σ) rfl
  | m + 1, j, x2, x3, σ, hj, hR, hL, h => by
    unfold F_X5_nearest_42
    rw [if_neg (pu_100 (by omega))]
    refine p3_passDay pu_s33 (pu_WG_dn hg j) hR (fun σ1 h1 R1 => ?_)
    have L1 : pu_LS σ1 g := hL.ag hg (fun i x y => h1 i (by unfold pu_stX; omega))
    refine p3_tasteOfAll pu_s33 (pu_WG_dn hg (j + 1)) R1 (pu_tx_LS (pu_tx_dn hg (j + 1)) L1) (fun σ2 h2 => ?_)
    intro v hv
    subst hv
    have e2 : σ2 75 = σ 75 := (h2 75 (by decide)).trans (h1 75 (by unfold pu_stX; omega))
    have R2 := R1.ag (σ' := σ2) (fun i x y => h2 i (by omega))
    have L2 : pu_LS σ2 g := L1.ag hg (fun i x y => h2 i (by omega))
    unfold F_X5_nearest_82
    rw [← nI_succ]
    unfold pu_nr at h
    by_cases z : x3 ≤ ov_abs (pu_tall (pu_dn g (j + 1)) - a)
    · rw [if_pos z] at h
      rw [if_pos z]
      exact p5_nearest_loop hg m (j + 1) x2 x3 σ2 (by omega) R2 L2 (fun σ3 h3 e3 => h σ3 ((h1.u33.tr h2.u20).tr h3) (e3.trans e2))
    · rw [if_neg z] at h
      rw [if_neg z]
      exact p5_nearest_loop hg m (j + 1) _ _ σ2 (by omega) R2 L2 (fun σ3 h3 e3 => h σ3 ((h1.u33.tr h2.u20).tr h3) (e3.trans e2))
theorem p6_nearest_loop {k : Int32 → ovSt → Prop} {g f : Nat → Int32} (hg : pu_WG g) {a : Int32} (hA : pu_in a 0 1000000) : ∀ (m j : Nat) (x2 x3 : Int32) (σ : ovSt), j + m = 100 → σ 75 = pu_dn g j → σ 78 = pu_ov f g 40 → (∀ σ', pu_ag pu_XU σ σ' → σ' 75 = g → k (pu_nr g a m j x2 x3) σ') → F_X6_nearest_31 k (m + 1) a x2 x3 (nI (j + 1)) σ
  | 0, j, x2, x3, σ, hj, e, e8, h => by
    have ej : j = 100 := by omega
    subst ej
    unfold F_X6_nearest_31
    rw [if_pos (by decide)]
    refine p6_putsBack (fun σ1 h1 e1 => ?_)
    refine h σ1 h1.u75 ?_
    rw [e1, e, e8]
    exact pu_ov_back (pu_tx_dn hg _)
  | m + 1, j, x2, x3, σ, hj, e, e8, h => by
    unfold F_X6_nearest_31
    rw [if_neg (pu_100 (by omega))]
    refine p6_day (by rw [e]; exact pu_WG_dn hg j) (fun σ1 h1 e1 => ?_)
    have f1 : σ1 75 = pu_dn g (j + 1) := by rw [e1, e]; rfl
    refine p6_tasteAll (by rw [f1]; exact pu_WG_dn hg (j + 1)) (fun σ2 h2 => ?_)
    have f2 : σ2 75 = pu_dn g (j + 1) := (h2 75 (by decide)).trans f1
    have f8 : σ2 78 = pu_ov f g 40 := ((h2 78 (by decide)).trans (h1 78 (by decide))).trans e8
    rw [f1, pu_off ((pu_tall_in (pu_WG_dn hg (j + 1))).le (by decide)) hA]
    unfold F_X6_nearest_64 F_X6_nearest_77
    rw [← nI_succ]
    unfold pu_nr at h
    by_cases z : x3 ≤ ov_abs (pu_tall (pu_dn g (j + 1)) - a)
    · rw [if_pos z] at h
      rw [if_pos z, if_pos z]
      exact p6_nearest_loop (f := f) hg hA m (j + 1) x2 x3 σ2 (by omega) f2 f8 (fun σ3 h3 e3 => h σ3 ((h1.u75.tr h2.u87).tr h3) e3)
    · rw [if_neg z] at h
      rw [if_neg z, if_neg z]
      exact p6_nearest_loop (f := f) hg hA m (j + 1) _ _ σ2 (by omega) f2 f8 (fun σ3 h3 e3 => h σ3 ((h1.u75.tr h2.u87).tr h3) e3)
theorem v_nearest {σ : ovSt} (h : pu_I1 σ) (a : Int32) : F_X5_nearest a σ (fun r σ1 => F_X6_nearest a σ1 (fun r' σ2 => r = r' ∧ pu_good σ σ2)) := by
  unfold F_X5_nearest
  by_cases za : a < 0 ∨ 99999 < a
  · rw [pu_no5 za, if_pos rfl]
    show F_X6_nearest _ _ _
    unfold F_X6_nearest
    rw [pu_no6 za, if_pos rfl]
    exact ⟨rfl, pu_good.rf h⟩
  rw [pu_yes5 za, if_neg (by decide)]
  have hA : pu_in a 0 1000000 := (pu_bt za).le (by decide)
  refine p3_become pu_s33 pu_s21 (by decide) h.2.1 (fun σ1 h1 R1 => ?_)
  have L1 : pu_LS σ1 (σ 75) := h.2.2.1.ag h.1 (fun i x y => h1 i (by unfold pu_stX; omega))
  refine p3_tasteOfAll pu_s33 h.1 R1 L1 (fun σ2 h2 => ?_)
  intro v hv
  subst hv
  have L2 : pu_LS σ2 (σ 75) := L1.ag h.1 (fun i x y => h2 i (by omega))
  refine ⟨101, p5_nearest_loop h.1 100 0 0 _ σ2 (by omega) (R1.ag (fun i x y => h2 i (by omega))) L2 (fun σ3 h3 e3 => ?_)⟩
  have f3 : σ3 75 = σ 75 := (e3.trans (h2 75 (by decide))).trans (h1 75 (by unfold pu_stX; omega))
  show F_X6_nearest _ _ _
  unfold F_X6_nearest
  rw [pu_yes6 za, if_neg (by decide)]
  refine p6_thinks (fun σ4 h4 e4 => ?_)
  rw [f3] at e4
  have f4 : σ4 75 = σ 75 := (h4 75 (by decide)).trans f3
  refine p6_tasteAll (by rw [f4]; exact h.1) (fun σ5 h5 => ?_)
  rw [f4, pu_off ((pu_tall_in h.1).le (by decide)) hA]
  refine ⟨101, p6_nearest_loop (f := σ3 78) h.1 hA 100 0 0 _ σ5 (by omega) ((h5 75 (by decide)).trans f4) ((h5 78 (by decide)).trans e4) (fun σ6 h6 e6 => ?_)⟩
  exact ⟨rfl, pu_good.back h (((((h1.u33.tr h2.u20).tr h3).tr h4.u78).tr h5.u87).tr h6) e6⟩
