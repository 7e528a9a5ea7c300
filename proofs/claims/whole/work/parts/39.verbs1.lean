/-! ===== verbs of the stock now ===== -/
theorem pu_good.up {σ : ovSt} (h : pu_I1 σ) {i sl c : Nat} {v : Int32} (hi : 21 ≤ i ∧ i ≤ 26) (hc : c < 40) (h7 : c ≠ 7) (h4 : c ≠ 4) (hg : pu_WG (upd (σ 75) c v)) (hR : pu_RS (ov_up σ i sl v) 21 (upd (σ 75) c v)) : pu_good σ (ov_up (ov_up σ i sl v) 75 c v) := by
  refine pu_good.mk h (upd (σ 75) c v) ?_ ?_ hg ?_ ?_ ?_
  · rw [pu_up_same, pu_up_ne (by omega)]
  · exact pu_ag.up (pu_ag.up1 (by unfold pu_XS; omega)) (by unfold pu_XS; omega)
  · exact hR.ag (fun j a b => pu_up_ne (by omega))
  · exact pu_tx.up (pu_tx.rf _) hc h7
  · rw [pu_un (fun z => h4 z.symm)]; exact h.2.2.2
theorem pu_s21 : ov_stk 21 := Or.inl rfl
theorem pu_s27 : ov_stk 27 := Or.inr (Or.inl rfl)
theorem pu_s33 : ov_stk 33 := Or.inr (Or.inr (Or.inl rfl))
theorem pu_s39 : ov_stk 39 := Or.inr (Or.inr (Or.inr rfl))
theorem e6_becomes {c : Nat} (hc : c < 1412) (v : Int32) (σ : ovSt) (k : Int32 → ovSt → Prop) : F_X6_becomes (nI c) v σ k = k (σ 75 c) (ov_up σ 75 c v) := by
  unfold F_X6_becomes
  rw [pu_cl (by omega)]
  exact propext ⟨fun h => h.2 _ rfl _ rfl, fun h => ⟨vp_in_nI hc (by omega), fun v1 h1 σ1 h2 => by rw [h1, h2]; exact h⟩⟩
theorem v_seed {σ : ovSt} (h : pu_I1 σ) (a : Int32) : F_X5_seed a σ (fun r σ1 => F_X6_seed a σ1 (fun r' σ2 => r = r' ∧ pu_good σ σ2)) := by
  unfold F_X5_seed
  intro v hv σ2 e2
  subst e2
  subst hv
  unfold F_X6_seed
  show F_X6_becomes (nI 0) a (ov_up σ 21 12 a) _
  rw [e6_becomes (by omega)]
  refine ⟨?_, pu_good.up h (by omega) (by omega) (by omega) (by omega) (h.1.up0 a) (h.2.1.up12 a)⟩
  rw [pu_up_ne (by omega)]
  exact h.2.1.1.1
theorem v_pot {σ : ovSt} (h : pu_I1 σ) (a b : Int32) : F_X5_pot a b σ (fun r σ1 => F_X6_pot a b σ1 (fun r' σ2 => r = r' ∧ pu_good σ σ2)) := by
  have bad : (a < 0 ∨ 1 < a) ∨ (b < 1 - a ∨ 999 < b) → F_X6_pot a b σ (fun r' σ2 => (-1000000001) = r' ∧ pu_good σ σ2) := by
    intro hb
    unfold F_X6_pot F_X6_pot_33 F_X6_pot_35
    by_cases z : a < 0 ∨ 1 < a
    · rw [pu_no6 z, if_pos rfl]; exact ⟨rfl, pu_good.rf h⟩
    · rw [pu_yes6 z, if_neg (by decide), pu_no6 (hb.resolve_left z), if_pos rfl]; exact ⟨rfl, pu_good.rf h⟩
  unfold F_X5_pot F_X5_pot_34 F_X5_pot_69 F_X5_pot_72
  by_cases z0 : a = 0
  · subst z0
    rw [if_pos rfl]
    by_cases zb : b < 1 ∨ 999 < b
    · rw [pu_no5 zb, if_pos rfl, if_neg (by decide)]
      exact bad (Or.inr zb)
    · rw [pu_yes5 zb, if_neg (by decide)]
      intro v hv σ8 e8
      subst e8
      subst hv
      show F_X6_pot _ _ _ _
      unfold F_X6_pot F_X6_pot_33 F_X6_pot_35
      rw [pu_yes6 (x := 0) (a := 0) (b := 1) (by decide), if_neg (by decide), pu_yes6 (show ¬ (b < 1 - 0 ∨ 999 < b) from zb), if_neg (by decide)]
      show F_X6_becomes (nI 2) b (ov_up σ 21 7 b) _
      rw [e6_becomes (by omega)]
      refine ⟨?_, pu_good.up h (by omega) (by omega) (by omega) (by omega) (h.1.up2 (pu_bt zb)) (h.2.1.up7 b)⟩
      rw [pu_up_ne (by omega)]
      exact h.2.1.1.2.2.1
  · rw [if_neg z0]
    by_cases z1 : a = 1
    · subst z1
      rw [if_pos rfl]
      by_cases zb : b < 0 ∨ 999 < b
      · rw [pu_no5 zb, if_pos rfl]
        exact bad (Or.inr zb)
      · rw [pu_yes5 zb, if_neg (by decide)]
        intro v hv σ8 e8
        subst e8
        subst hv
        show F_X6_pot _ _ _ _
        unfold F_X6_pot F_X6_pot_33 F_X6_pot_35
        rw [pu_yes6 (x := 1) (a := 0) (b := 1) (by decide), if_neg (by decide), pu_yes6 (show ¬ (b < 1 - 1 ∨ 999 < b) from zb), if_neg (by decide)]
        show F_X6_becomes (nI 3) b (ov_up σ 21 8 b) _
        rw [e6_becomes (by omega)]
        refine ⟨?_, pu_good.up h (by omega) (by omega) (by omega) (by omega) (h.1.up3 (pu_bt zb)) (h.2.1.up8 b)⟩
        rw [pu_up_ne (by omega)]
        exact h.2.1.1.2.2.2.1
    · rw [if_neg z1]
      refine bad (Or.inl ?_)
      have e0 : (0 : Int32).toInt = 0 := rfl
      have e1 : (1 : Int32).toInt = 1 := rfl
      rw [fa_eq] at z0 z1
      rw [fa_lt, fa_lt]
      omega
theorem v_taste {σ : ovSt} (h : pu_I1 σ) : F_X5_taste σ (fun r σ1 => F_X6_taste σ1 (fun r' σ2 => r = r' ∧ pu_good σ σ2)) := by
  unfold F_X5_taste
  refine p3_tasteOfAll pu_s21 h.1 h.2.1 h.2.2.1 (fun σ1 ha => ?_)
  show F_X6_taste _ _
  unfold F_X6_taste
  have e1 : σ1 75 = σ 75 := ha 75 (by decide)
  refine p6_tasteAll (by rw [e1]; exact h.1) (fun σ2 hb => ?_)
  refine ⟨by rw [e1], pu_good.sc h ((ha.mono (fun i hi => by unfold pu_XT; omega)).tr (hb.mono (fun i hi => by unfold pu_XT; omega)))⟩
theorem v_grams {σ : ovSt} (h : pu_I1 σ) (a : Int32) : F_X5_grams a σ (fun r σ1 => F_X6_grams a σ1 (fun r' σ2 => r = r' ∧ pu_good σ σ2)) := by
  unfold F_X5_grams
  by_cases z0 : a = 0
  · subst z0
    rw [if_pos rfl]
    show F_X6_grams _ _ _
    unfold F_X6_grams F_X6_grams_34
    rw [pu_yes6 (x := 0) (a := 0) (b := 2) (by decide), if_neg (by decide), if_neg (by decide)]
    exact ⟨vp_in_nI (n := 5) (by decide) (by decide), h.2.1.1.2.2.2.2.2.1, pu_good.rf h⟩
  · rw [if_neg z0]
    by_cases z1 : a = 1
    · subst z1
      rw [if_pos rfl]
      show F_X6_grams _ _ _
      unfold F_X6_grams F_X6_grams_34
      rw [pu_yes6 (x := 1) (a := 0) (b := 2) (by decide), if_neg (by decide), if_neg (by decide)]
      exact ⟨vp_in_nI (n := 6) (by decide) (by decide), h.2.1.1.2.2.2.2.2.2.1, pu_good.rf h⟩
    · rw [if_neg z1]
      by_cases z2 : a = 2
      · subst z2
        rw [if_pos rfl]
        refine p3_amountOfAll pu_s21 h.1 h.2.1 ?_
        show F_X6_grams _ _ _
        unfold F_X6_grams F_X6_grams_34
        rw [pu_yes6 (x := 2) (a := 0) (b := 2) (by decide), if_neg (by decide), if_pos (by decide)]
        exact p6_amountAll h.1 ⟨rfl, pu_good.rf h⟩
      · rw [if_neg z2]
        show F_X6_grams _ _ _
        unfold F_X6_grams F_X6_grams_34
        rw [pu_no6, if_pos rfl]
        · exact ⟨rfl, pu_good.rf h⟩
        · have e0 : (0 : Int32).toInt = 0 := rfl
          have e1 : (1 : Int32).toInt = 1 := rfl
          have e2 : (2 : Int32).toInt = 2 := rfl
          rw [fa_eq] at z0 z1 z2
          rw [fa_lt, fa_lt]
          omega
theorem v_turns {σ : ovSt} (h : pu_I1 σ) (a b : Int32) : F_X5_turns a b σ (fun r σ1 => F_X6_turns a b σ1 (fun r' σ2 => r = r' ∧ pu_good σ σ2)) := by
  unfold F_X5_turns F_X5_turns_20
  rcases pu_hasx h.1 a with ha | ⟨t, ht, ht8, ea⟩
  · rw [e3_has_no pu_s21 h.2.1 ha, if_pos rfl]
    show F_X6_turns _ _ _ _
    unfold F_X6_turns F_X6_turns_31 F_X6_turns_33
    rw [e6_isThing_no h.1 ha, if_pos rfl]
    exact ⟨rfl, pu_good.rf h⟩
  · subst ea
    rw [e3_has_yes pu_s21 h.1 h.2.1 ht, if_neg (by decide)]
    by_cases zb : b < 0 ∨ 5 < b
    · rw [pu_no5 zb, if_pos rfl]
      show F_X6_turns _ _ _ _
      unfold F_X6_turns F_X6_turns_31 F_X6_turns_33
      rw [e6_isThing_yes h.1 ht, if_neg (by decide), pu_no6 zb, if_pos rfl]
      exact ⟨rfl, pu_good.rf h⟩
    · rw [pu_yes5 zb, if_neg (by decide)]
      refine ⟨vp_in_nI ht8 (by omega), ?_⟩
      rw [pu_cl (by omega)]
      intro v hv σ7 e7
      subst e7
      subst hv
      show F_X6_turns _ _ _ _
      unfold F_X6_turns F_X6_turns_31 F_X6_turns_33
      have q : ov_up σ 22 t b 75 = σ 75 := pu_up_ne (by omega)
      rw [e6_isThing_yes (by rw [q]; exact h.1) (by rw [q]; exact ht), if_neg (by decide), pu_yes6 zb, if_neg (by decide)]
      rw [show 8 + 4 * nI t = nI (8 + 4 * t) by rw [show (8 : Int32) = nI 8 from rfl, show (4 : Int32) = nI 4 from rfl, pk_mul, nI_add], e6_becomes (by omega)]
      refine ⟨?_, pu_good.up h (by omega) (by omega) (by omega) (by omega) (h.1.upt0 ht8 (pu_bt zb)) (h.2.1.upt0 ht8 b)⟩
      rw [q]
      exact (h.2.1.2.1 t ht8).1
