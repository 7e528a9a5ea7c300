/-! ===== tasted ===== -/
def pu_srch (g : Nat → Int32) (t : Nat) : Nat → Nat → Int32
  | 0, _ => -1000000005
  | m + 1, j => if pu_taste (pu_dt g t j) t = 0 then nI j else pu_srch g t m (j + 1)
theorem pu_300 {j : Nat} (hj : j ≤ 300) : ¬ (300 : Int32) < nI j := by
  rw [show (300 : Int32) = nI 300 from rfl, nI_ltI (by omega) (by omega)]; omega
theorem p5_tasted_loop {k : Int32 → ovSt → Prop} {g : Nat → Int32} (hg : pu_WG g) {t : Nat} (ht : t < 8) : ∀ (m j : Nat) (σ : ovSt), j + m = 301 → pu_RS σ 33 (pu_dt g t j) → pu_LS σ g → (∀ σ', pu_ag pu_XU σ σ' → σ' 75 = σ 75 → k (pu_srch g t m j) σ') → F_X5_tasted_27 k (m + 1) (nI t) (nI j) σ
  | 0, j, σ, hj, hR, hL, h => by
    have ej : j = 301 := by omega
    subst ej
    unfold F_X5_tasted_27
    rw [if_pos (by decide)]
    exact h σ (pu_ag.rf _ σ) rfl
  | m + 1, j, σ, hj, hR, hL, h => by
    unfold F_X5_tasted_27
    rw [if_neg (pu_300 (by omega))]
    have hW := pu_WG_dt hg ht j
    refine p3_tasteOf pu_s33 ht hW hR (pu_tx_LS (pu_tx_dt ht j) hL) (fun σ1 h1 => ?_)
    unfold pu_srch at h
    by_cases z : pu_taste (pu_dt g t j) t = 0
    · rw [if_pos z] at h ⊢
      exact h σ1 h1.u20 (h1 75 (by decide))
    · rw [if_neg z] at h ⊢
      refine p3_passDayOf pu_s33 ht hW (hR.ag (fun i a b => h1 i (by omega))) (fun σ2 h2 R2 => ?_)
      rw [← nI_succ]
      have e2 : σ2 75 = σ 75 := (h2 75 (by unfold pu_stX; omega)).trans (h1 75 (by decide))
      refine p5_tasted_loop hg ht m (j + 1) σ2 (by omega) R2 (hL.ag hg (fun i a b => by rw [h2 i (by unfold pu_stX; omega), h1 i (by omega)])) (fun σ3 h3 e3 => ?_)
      exact h σ3 ((h1.u20.tr h2.u33).tr h3) (e3.trans e2)
theorem p6_tasted_loop {k : Int32 → ovSt → Prop} {g f : Nat → Int32} (hg : pu_WG g) {t : Nat} (htn : t < pu_n g) (ht : t < 8) : ∀ (m j : Nat) (σ : ovSt), j + m = 301 → σ 75 = pu_dn g j → σ 78 = pu_ov f g 40 → (∀ σ', pu_ag pu_XU σ σ' → σ' 75 = g → k (pu_srch g t m j) σ') → F_X6_tasted_17 k (m + 1) (nI t) (nI j) σ
  | 0, j, σ, hj, e, e8, h => by
    have ej : j = 301 := by omega
    subst ej
    unfold F_X6_tasted_17 F_X6_tasted_42 F_X6_tasted_59
    rw [if_pos (by decide)]
    refine p6_putsBack (fun σ1 h1 e1 => ?_)
    rw [if_pos (by decide)]
    refine h σ1 h1.u75 ?_
    rw [e1, e, e8]
    exact pu_ov_back (pu_tx_dn hg _)
  | m + 1, j, σ, hj, e, e8, h => by
    unfold F_X6_tasted_17
    rw [if_neg (pu_300 (by omega))]
    have hW := pu_WG_dn hg j
    refine p6_tasteOf (by rw [e]; exact hW) ht (fun σ1 h1 => ?_)
    have f1 : σ1 75 = pu_dn g j := (h1 75 (by decide)).trans e
    have f8 : σ1 78 = pu_ov f g 40 := (h1 78 (by decide)).trans e8
    rw [e, pu_eqt_taste (pu_eqt_dn hg htn j)]
    have hin := pu_taste_in (pu_WG_dt hg ht j) ht
    unfold pu_srch at h
    by_cases z : pu_taste (pu_dt g t j) t = 0
    · rw [if_pos (by rw [z]; decide)]
      rw [if_pos z] at h
      unfold F_X6_tasted_42 F_X6_tasted_59
      refine p6_putsBack (fun σ2 h2 e2 => ?_)
      rw [if_neg (pu_300 (by omega))]
      refine h σ2 (h1.u87.tr h2.u75) ?_
      rw [e2, f1, f8]
      exact pu_ov_back (pu_tx_dn hg _)
    · rw [if_neg (by rw [fa_le]; rw [fa_eq] at z; have e0 : (0 : Int32).toInt = 0 := rfl; have h1 := hin.1; omega)]
      rw [if_neg z] at h
      refine p6_day (by rw [f1]; exact hW) (fun σ2 h2 e2 => ?_)
      rw [← nI_succ]
      refine p6_tasted_loop (f := f) hg htn ht m (j + 1) σ2 (by omega) (by rw [e2, f1]; rfl) ((h2 78 (by decide)).trans f8) (fun σ3 h3 e3 => ?_)
      exact h σ3 ((h1.u87.tr h2.u75).tr h3) e3
theorem v_tasted {σ : ovSt} (h : pu_I1 σ) (a : Int32) : F_X5_tasted a σ (fun r σ1 => F_X6_tasted a σ1 (fun r' σ2 => r = r' ∧ pu_good σ σ2)) := by
  unfold F_X5_tasted
  rcases pu_hasx h.1 a with ha | ⟨t, ht, ht8, ea⟩
  · rw [e3_has_no pu_s21 h.2.1 ha, if_pos rfl]
    show F_X6_tasted _ _ _
    unfold F_X6_tasted
    rw [e6_isThing_no h.1 ha, if_pos rfl]
    exact ⟨rfl, pu_good.rf h⟩
  · subst ea
    rw [e3_has_yes pu_s21 h.1 h.2.1 ht, if_neg (by decide)]
    refine p3_become pu_s33 pu_s21 (by decide) h.2.1 (fun σ1 h1 R1 => ?_)
    refine ⟨302, p5_tasted_loop h.1 ht8 301 0 σ1 (by omega) R1 (h.2.2.1.ag h.1 (fun i x y => h1 i (by unfold pu_stX; omega))) (fun σ2 h2 e2 => ?_)⟩
    have f2 : σ2 75 = σ 75 := e2.trans (h1 75 (by unfold pu_stX; omega))
    show F_X6_tasted _ _ _
    unfold F_X6_tasted
    rw [e6_isThing_yes (by rw [f2]; exact h.1) (by rw [f2]; exact ht), if_neg (by decide)]
    refine p6_thinks (fun σ3 h3 e3 => ?_)
    rw [f2] at e3
    refine ⟨302, p6_tasted_loop (f := σ2 78) h.1 ht ht8 301 0 σ3 (by omega) ((h3 75 (by decide)).trans f2) e3 (fun σ4 h4 e4 => ?_)⟩
    exact ⟨rfl, pu_good.back h (((h1.u33.tr h2).tr h3.u78).tr h4) e4⟩
