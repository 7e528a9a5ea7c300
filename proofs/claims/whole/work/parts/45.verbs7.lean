/-! ===== thing, tasted ===== -/
theorem v_thing {σ : ovSt} (h : pu_I1 σ) (a b : Int32) : F_X5_thing a b σ (fun r σ1 => F_X6_thing a b σ1 (fun r' σ2 => r = r' ∧ pu_good σ σ2)) := by
  have hb := pu_WG_n h.1
  unfold F_X5_thing F_X5_thing_19 F_X5_thing_49
  by_cases za : a < 0 ∨ 5 < a
  · rw [pu_no5 za, if_pos rfl]
    show F_X6_thing _ _ _ _
    unfold F_X6_thing F_X6_thing_19
    rw [pu_no6 za, if_pos rfl]
    exact ⟨rfl, pu_good.rf h⟩
  rw [pu_yes5 za, if_neg (by decide)]
  by_cases zb : b < 1 ∨ 9 < b
  · rw [pu_no5 zb, if_pos rfl]
    show F_X6_thing _ _ _ _
    unfold F_X6_thing F_X6_thing_19
    rw [pu_yes6 za, if_neg (by decide), pu_no6 zb, if_pos rfl]
    exact ⟨rfl, pu_good.rf h⟩
  rw [pu_yes5 zb, if_neg (by decide), h.2.1.1.2.1, hb.2]
  by_cases zn : pu_n (σ 75) = 8
  · rw [if_pos (by rw [zn]; decide)]
    show F_X6_thing _ _ _ _
    unfold F_X6_thing F_X6_thing_45
    rw [pu_yes6 za, if_neg (by decide), pu_yes6 zb, if_neg (by decide)]
    refine ⟨vp_in_nI (n := 1) (by decide) (by decide), ?_⟩
    rw [show σ 75 (Int32.toNatClampNeg 1) = 8 from by rw [show Int32.toNatClampNeg 1 = 1 from rfl, hb.2, zn]; rfl, if_pos rfl]
    exact ⟨rfl, pu_good.rf h⟩
  · have hn : pu_n (σ 75) < 8 := by omega
    rw [if_neg (by rw [show (8 : Int32) = nI 8 from rfl, nI_leI (by omega) (by omega)]; omega)]
    refine p3_addThing h.1 hn h.2.1 a b 0 (fun σ1 h1 R1 => ?_)
    show F_X6_thing _ _ _ _
    unfold F_X6_thing F_X6_thing_45
    have e1 : σ1 75 = σ 75 := h1 75 (by unfold pu_stX; omega)
    rw [pu_yes6 za, if_neg (by decide), pu_yes6 zb, if_neg (by decide)]
    refine ⟨vp_in_nI (n := 1) (by decide) (by decide), ?_⟩
    rw [if_neg (by rw [show Int32.toNatClampNeg 1 = 1 from rfl, e1, hb.2, show (8 : Int32) = nI 8 from rfl, nI_eq (by omega) (by omega)]; exact zn)]
    refine p6_comes (by rw [e1]; exact h.1) (by rw [e1]; exact hn) a b 0 (fun σ2 h2 e2 => ?_)
    rw [e1] at e2 ⊢
    refine ⟨rfl, pu_good.mk h _ e2 ((h1.mono (fun i hi => by unfold pu_stX at hi; unfold pu_XS; omega)).tr (h2.mono (fun i hi => by unfold pu_XS; omega))) (pu_WG_addr h.1 hn (pu_bt za) ((pu_bt zb).elim (fun x y => ⟨Int.le_trans (by decide) x, y⟩)) ⟨by decide, by decide⟩) (R1.ag (fun i x y => h2 i (by omega))) (pu_tx_addr _ hn a b 0) ?_⟩
    unfold pu_addr
    rw [pu_un (by omega), pu_un (by omega), pu_un (by omega), pu_un (by omega), pu_un (by omega)]
    exact h.2.2.2
/-! what one thing's taste and days hang on -/
def pu_eqt (t : Nat) (g g' : Nat → Int32) : Prop := ∀ c, (c = 2 ∨ c = 3 ∨ (8 + 4 * t ≤ c ∧ c ≤ 8 + 4 * t + 3) ∨ c = 7 ∨ 40 ≤ c) → g' c = g c
theorem pu_eqt.rf (t : Nat) (g : Nat → Int32) : pu_eqt t g g := fun _ _ => rfl
theorem pu_eqt.tr {t : Nat} {a b c : Nat → Int32} (h1 : pu_eqt t a b) (h2 : pu_eqt t b c) : pu_eqt t a c := fun i hi => (h2 i hi).trans (h1 i hi)
theorem pu_eqt.tx {t : Nat} {g g' : Nat → Int32} (h : pu_eqt t g g') : pu_tx g g' := ⟨h 7 (by omega), fun c hc => h c (by omega)⟩
theorem pu_eqt_taste {t : Nat} {g g' : Nat → Int32} (h : pu_eqt t g g') : pu_taste g' t = pu_taste g t := by
  have x := h.tx
  unfold pu_taste pu_fades pu_plain pu_old
  rw [pu_tx_law x, pu_tx_text x, h (8 + 4 * t) (by omega), h (8 + 4 * t + 1) (by omega), h (8 + 4 * t + 2) (by omega), h (8 + 4 * t + 3) (by omega)]
theorem pu_eqt_E1 {t : Nat} {g g' : Nat → Int32} (ht : t < 8) (h : pu_eqt t g g') : pu_eqt t (pu_E1 g t) (pu_E1 g' t) := by
  have e : pu_eat g' t = pu_eat g t := by
    unfold pu_eat
    rw [h 3 (by omega), h 2 (by omega), h (8 + 4 * t + 2) (by omega)]
  intro c hc
  by_cases z : c = 8 + 4 * t + 2
  · rw [z, pu_E1_2, pu_E1_2, e, h (8 + 4 * t + 2) (by omega)]
  · rw [pu_E1_at z (by omega), pu_E1_at z (by omega)]
    exact h c hc
theorem pu_eqt_W1 {t : Nat} {g g' : Nat → Int32} (ht : t < 8) (h : pu_eqt t g g') : pu_eqt t (pu_W1 g t) (pu_W1 g' t) := by
  have e : pu_wr g' t = pu_wr g t := by
    unfold pu_wr
    rw [h (8 + 4 * t) (by omega), h (8 + 4 * t + 2) (by omega)]
  intro c hc
  by_cases z : c = 8 + 4 * t + 2
  · rw [z, pu_W1_2, pu_W1_2, e, h (8 + 4 * t + 2) (by omega)]
  · by_cases z3 : c = 8 + 4 * t + 3
    · rw [z3, pu_W1_3, pu_W1_3, e, h (8 + 4 * t + 2) (by omega), h (8 + 4 * t + 3) (by omega)]
    · rw [pu_W1_at z (by omega) z3, pu_W1_at z (by omega) z3]
      exact h c hc
theorem pu_eqt_other {t i : Nat} (g : Nat → Int32) (hi : i < 8) (hne : i ≠ t) : pu_eqt t g (pu_W1 (pu_E1 g i) i) := by
  intro c hc
  rw [pu_W1_at (by omega) (by omega) (by omega), pu_E1_at (by omega) (by omega)]
theorem pu_eqt_itD_lo {t : Nat} (g : Nat → Int32) : ∀ (n : Nat), n ≤ t → n ≤ 8 → pu_eqt t g (pu_itD g n)
  | 0, _, _ => pu_eqt.rf t g
  | n + 1, h, h8 => (pu_eqt_itD_lo g n (by omega) (by omega)).tr (pu_eqt_other _ (by omega) (by omega))
theorem pu_eqt_itD_hi {t : Nat} (ht : t < 8) (g : Nat → Int32) : ∀ (m : Nat), t + 1 + m ≤ 8 → pu_eqt t (pu_W1 (pu_E1 g t) t) (pu_itD g (t + 1 + m))
  | 0, _ => pu_eqt_W1 ht (pu_eqt_E1 ht (pu_eqt_itD_lo g t (Nat.le_refl _) (by omega)))
  | m + 1, h => (pu_eqt_itD_hi ht g m (by omega)).tr (show pu_eqt t (pu_itD g (t + 1 + m)) (pu_W1 (pu_E1 (pu_itD g (t + 1 + m)) (t + 1 + m)) (t + 1 + m)) from pu_eqt_other _ (by omega) (by omega))
theorem pu_eqt_day {t : Nat} {g : Nat → Int32} (hg : pu_WG g) (ht : t < pu_n g) : pu_eqt t (pu_W1 (pu_E1 g t) t) (pu_day g) := by
  have hb := pu_WG_n hg
  have h1 := pu_eqt_itD_hi (t := t) (by omega) g (pu_n g - t - 1) (by omega)
  rw [show t + 1 + (pu_n g - t - 1) = pu_n g by omega] at h1
  intro c hc
  unfold pu_day
  rw [pu_un (by omega)]
  exact h1 c hc
theorem pu_eqt_dn {t : Nat} {g : Nat → Int32} (hg : pu_WG g) (ht : t < pu_n g) : ∀ (n : Nat), pu_eqt t (pu_dt g t n) (pu_dn g n)
  | 0 => pu_eqt.rf t g
  | n + 1 => by
    have hb := pu_WG_n hg
    exact (pu_eqt_W1 (by omega) (pu_eqt_E1 (by omega) (pu_eqt_dn hg ht n))).tr (pu_eqt_day (pu_WG_dn hg n) (by rw [pu_n_dn]; exact ht))
theorem pu_fades_in {g : Nat → Int32} (hg : pu_WG g) {t : Nat} (ht : t < 8) : pu_in (pu_fades g t) 0 (pu_plain g t).toInt := pu_within_in (lo := 0) (pu_plain_in hg ht).1
theorem pu_taste_in {g : Nat → Int32} (hg : pu_WG g) {t : Nat} (ht : t < 8) : pu_in (pu_taste g t) 0 18058 := by
  obtain ⟨p1, p2⟩ := pu_plain_in hg ht
  obtain ⟨f1, f2⟩ := pu_fades_in hg ht
  have ho : pu_in (pu_old g t) 0 30 := by
    unfold pu_old
    split
    · exact ⟨by decide, by decide⟩
    · exact pu_within_in (lo := 0) (hi := 30) (by decide)
  obtain ⟨o1, o2⟩ := ho
  have e2 : (2 : Int32).toInt = 2 := rfl
  have s1 := fb_addI (x := pu_plain g t) (y := pu_old g t) (by omega) (by omega)
  have s2 := fb_subI (x := pu_plain g t) (y := pu_fades g t) (by omega) (by omega)
  have s3 := fb_mulI (x := 2) (y := pu_plain g t + pu_old g t) (by rw [e2]; omega) (by rw [e2]; omega)
  have s4 := fb_mulI (x := 2) (y := pu_plain g t) (by rw [e2]; omega) (by rw [e2]; omega)
  have s5 := pu_divI (x := pu_plain g t - pu_fades g t) (d := 2) (by omega) (by decide)
  rw [e2] at s3 s4 s5
  unfold pu_taste pu_in
  repeat' split
  all_goals omega
