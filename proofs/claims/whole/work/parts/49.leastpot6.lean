theorem p6_leastPot_loop {k : Int32 → ovSt → Prop} {g f : Nat → Int32} (hg : pu_WG g) {t N : Nat} (htn : t < pu_n g) (ht : t < 8) (hN : N < 2 ^ 31) {x : Int32} : ∀ (m i : Nat) (v : Int32) (σ : ovSt), i + m = 99 → σ 75 = g → σ 78 = pu_ov f g 40 → (∀ σ', pu_ag pu_XU σ σ' → σ' 75 = g → k (if v < x then pu_lp g t N x m i else nI (10 * i)) σ') → F_X6_leastPot_41 k (m + 1) (nI t) x (nI N) v (nI (10 * i)) σ
  | 0, i, v, σ, hi, e, e8, h => by
    have ei : i = 99 := by omega
    subst ei
    unfold F_X6_leastPot_41 F_X6_leastPot_86 F_X6_leastPot_99
    rw [if_pos (by decide)]
    have h0 := h σ (pu_ag.rf _ σ) e
    by_cases z : v < x
    · rw [if_pos z] at h0
      rw [if_neg (by rw [fa_le]; rw [fa_lt] at z; omega)]
      exact h0
    · rw [if_neg z] at h0
      rw [if_pos (by rw [fa_le]; rw [fa_lt] at z; omega)]
      exact h0
  | m + 1, i, v, σ, hi, e, e8, h => by
    unfold F_X6_leastPot_41 F_X6_leastPot_86 F_X6_leastPot_99
    rw [if_neg (by rw [show (990 : Int32) = nI 990 from rfl, nI_leI (by omega) (by omega)]; omega)]
    by_cases z : v < x
    · have z' : ¬ x ≤ v := by rw [fa_le]; rw [fa_lt] at z; omega
      rw [if_neg z']
      refine ⟨vp_in_nI (n := 2) (by decide) (by decide), ?_⟩
      rw [show nI (10 * i) + 10 = nI (10 * (i + 1)) from nI_add (10 * i) 10]
      intro σ2 e2
      have f2 : σ2 75 = upd g 2 (nI (10 * (i + 1))) := by rw [e2, pu_up_same, e]; rfl
      have a2 : pu_ag pu_XU σ σ2 := by rw [e2]; exact pu_ag.up1 (Or.inr rfl)
      have h78 : σ2 78 = σ 78 := by rw [e2, pu_up_ne (by omega)]
      have W2 : pu_WG (upd g 2 (nI (10 * (i + 1)))) := hg.up2 ((pu_10 (i := i) (by omega)).elim (fun a b => ⟨a, by rw [nI_toInt (by omega)]; omega⟩))
      have n2 : pu_n (upd g 2 (nI (10 * (i + 1)))) = pu_n g := by unfold pu_n; rw [pu_un (by omega)]
      refine p6_goesOn (by rw [f2]; exact W2) hN (fun σ4 h4 e4 => ?_)
      rw [f2] at e4
      rw [e6_of2 ht]
      have am : σ4 75 (8 + 4 * t + 2) = pu_am g t N (i + 1) := by
        rw [e4]
        exact pu_eqt_dn W2 (by rw [n2]; exact htn) N (8 + 4 * t + 2) (by omega)
      rw [am]
      refine p6_putsBack (fun σ8 h8 e9 => ?_)
      have T : pu_tx g (pu_dn (upd g 2 (nI (10 * (i + 1)))) N) := pu_tx.tr (pu_tx.up (pu_tx.rf g) (by omega) (by omega)) (pu_tx_dn W2 N)
      have f8 : σ8 75 = g := by
        rw [e9, e4, h4 78 (by decide), h78, e8]
        exact pu_ov_back T
      refine p6_leastPot_loop (f := f) hg htn ht hN m (i + 1) _ σ8 (by omega) f8 (by rw [h8 78 (by decide), h4 78 (by decide), h78, e8]) (fun σ9 h9 e10 => ?_)
      have h0 := h σ9 (((a2.tr h4.u75).tr h8.u75).tr h9) e10
      rw [if_pos z] at h0
      exact h0
    · rw [if_pos (by rw [fa_le]; rw [fa_lt] at z; omega), if_pos (by rw [fa_le]; rw [fa_lt] at z; omega)]
      have h0 := h σ (pu_ag.rf _ σ) e
      rw [if_neg z] at h0
      exact h0
theorem v_leastPot {σ : ovSt} (h : pu_I1 σ) (a b c : Int32) : F_X5_leastPot a b c σ (fun r σ1 => F_X6_leastPot a b c σ1 (fun r' σ2 => r = r' ∧ pu_good σ σ2)) := by
  unfold F_X5_leastPot F_X5_leastPot_31
  rcases pu_hasx h.1 a with ha | ⟨t, ht, ht8, ea⟩
  · rw [e3_has_no pu_s21 h.2.1 ha, if_pos rfl]
    show F_X6_leastPot _ _ _ _ _
    unfold F_X6_leastPot F_X6_leastPot_28
    rw [e6_isThing_no h.1 ha, if_pos rfl]
    exact ⟨rfl, pu_good.rf h⟩
  · subst ea
    rw [e3_has_yes pu_s21 h.1 h.2.1 ht, if_neg (by decide)]
    by_cases zb : b < 0 ∨ 99999 < b
    · rw [pu_no5 zb, if_pos rfl]
      show F_X6_leastPot _ _ _ _ _
      unfold F_X6_leastPot F_X6_leastPot_28
      rw [e6_isThing_yes h.1 ht, if_neg (by decide), pu_no6 zb, if_pos rfl]
      exact ⟨rfl, pu_good.rf h⟩
    rw [pu_yes5 zb, if_neg (by decide)]
    by_cases zc : c < 0 ∨ 60 < c
    · rw [pu_no5 zc, if_pos rfl]
      show F_X6_leastPot _ _ _ _ _
      unfold F_X6_leastPot F_X6_leastPot_28
      rw [e6_isThing_yes h.1 ht, if_neg (by decide), pu_yes6 zb, if_neg (by decide), pu_no6 zc, if_pos rfl]
      exact ⟨rfl, pu_good.rf h⟩
    rw [pu_yes5 zc, if_neg (by decide)]
    have e60 : (60 : Int32).toInt = 60 := rfl
    have e00 : (0 : Int32).toInt = 0 := rfl
    obtain ⟨N, hN, eN⟩ := pu_ofInt (x := c) (b := 61) (by have := (pu_bt zc).1; omega) (by have := (pu_bt zc).2; omega) (by omega)
    subst eN
    refine p3_become pu_s33 pu_s21 (by decide) h.2.1 (fun σ1 h1 R1 => ?_)
    refine ⟨99 + 1, ?_⟩
    show F_X5_leastPot_49 _ (99 + 1) (nI t) b (nI N) (nI (10 * (0 + 1))) σ1
    refine p5_leastPot_loop h.1 ht8 (by omega) 99 0 σ1 (σ 75) (by omega) (h.2.1.ag (fun i x y => h1 i (by unfold pu_stX; omega))) R1 ⟨h.1, rfl, rfl, rfl, pu_tx.rf _⟩ (fun σ2 h2 => ?_)
    have f2 : σ2 75 = σ 75 := (h2 75 (by unfold pu_stX; omega)).trans (h1 75 (by unfold pu_stX; omega))
    show F_X6_leastPot _ _ _ _ _
    unfold F_X6_leastPot
    rw [e6_isThing_yes (by rw [f2]; exact h.1) (by rw [f2]; exact ht), if_neg (by decide), pu_yes6 zb, if_neg (by decide), pu_yes6 zc, if_neg (by decide)]
    refine p6_thinks (fun σ3 h3 e3 => ?_)
    rw [f2] at e3
    refine ⟨99 + 1, ?_⟩
    show F_X6_leastPot_41 _ (99 + 1) (nI t) b (nI N) (-1) (nI (10 * 0)) σ3
    refine p6_leastPot_loop (f := σ2 78) h.1 ht ht8 (by omega) 99 0 (-1) σ3 (by omega) ((h3 75 (by decide)).trans f2) e3 (fun σ4 h4 e4 => ?_)
    refine ⟨?_, pu_good.back h (((h1.u33.tr h2.u33).tr h3.u78).tr h4) e4⟩
    rw [if_pos]
    have hb := (pu_bt zb).1
    rw [fa_lt, show (-1 : Int32).toInt = -1 from rfl]
    omega
