/-! ===== toss, set, as, thing, tasted ===== -/
theorem v_toss {σ : ovSt} (h : pu_I1 σ) (a b : Int32) : F_X5_toss a b σ (fun r σ1 => F_X6_toss a b σ1 (fun r' σ2 => r = r' ∧ pu_good σ σ2)) := by
  unfold F_X5_toss F_X5_toss_22
  rcases pu_hasx h.1 a with ha | ⟨t, ht, ht8, ea⟩
  · rw [e3_has_no pu_s21 h.2.1 ha, if_pos rfl]
    show F_X6_toss _ _ _ _
    unfold F_X6_toss F_X6_toss_19
    rw [e6_isThing_no h.1 ha, if_pos rfl]
    exact ⟨rfl, pu_good.rf h⟩
  · subst ea
    rw [e3_has_yes pu_s21 h.1 h.2.1 ht, if_neg (by decide)]
    by_cases zb : b < 1 ∨ 9999 < b
    · rw [pu_no5 zb, if_pos rfl]
      show F_X6_toss _ _ _ _
      unfold F_X6_toss F_X6_toss_19
      rw [e6_isThing_yes h.1 ht, if_neg (by decide), pu_no6 zb, if_pos rfl]
      exact ⟨rfl, pu_good.rf h⟩
    rw [pu_yes5 zb, if_neg (by decide)]
    unfold F_X3_throwIn
    refine ⟨pu_s21, vp_in_nI ht8 (by omega), ?_⟩
    rw [pu_cl (by omega)]
    intro σ1 e1
    refine ⟨vp_in_nI ht8 (by omega), ?_⟩
    show F_X6_toss _ _ _ _
    have hbt := pu_bt zb
    have hA := (h.1.2.2.2.2 t ht8).2.2.1
    have e1' : (1 : Int32).toInt = 1 := rfl
    have e9 : (9999 : Int32).toInt = 9999 := rfl
    have e99 : (99999 : Int32).toInt = 99999 := rfl
    have hadd : 0 ≤ (σ 75 (8 + 4 * t + 2) + b).toInt := by
      have h1 := hA.1
      have h2 := hA.2
      have h3 := hbt.1
      have h4 := hbt.2
      rw [fb_addI (by omega) (by omega)]
      omega
    rw [show σ (21 + 3) t = σ 75 (8 + 4 * t + 2) from (h.2.1.2.1 t ht8).2.2.1, pu_min_within hadd] at e1
    subst e1
    have q : ∀ v, ov_up σ (21 + 3) t v 75 = σ 75 := fun v => pu_up_ne (by omega)
    have q24 : ∀ v, ov_up σ (21 + 3) t v 24 t = v := fun v => by rw [show 24 = 21 + 3 from rfl, pu_up_same, pu_ue]
    unfold F_X6_toss F_X6_tosses
    rw [e6_isThing_yes (by rw [q]; exact h.1) (by rw [q]; exact ht), if_neg (by decide), pu_yes6 zb, if_neg (by decide), e6_of2 ht8, e6_within, e6_put2 ht8]
    show F_X6_of _ _ _ _
    rw [e6_of2 ht8, q, q24, pu_up_same, pu_ue]
    exact ⟨rfl, pu_good.up h (by omega) (by omega) (by omega) (by omega) (h.1.upt2 ht8 (pu_within_in (lo := 0) (hi := 99999) (by decide))) (h.2.1.upt2 ht8 _)⟩
theorem e5_exch {j : Nat} (hj : j = 23 ∨ j = 24 ∨ j = 25) {t : Nat} (ht : t < 8) (v : Int32) (σ : ovSt) (k : Int32 → ovSt → Prop) : F_X5_exchange j (nI t) v σ k = k (σ j t) (ov_up σ j t v) := by
  unfold F_X5_exchange
  rw [pu_cl (by omega)]
  refine propext ⟨fun h => h.2.2 _ rfl _ rfl, fun h => ⟨?_, vp_in_nI ht (by omega), fun v1 h1 σ1 h2 => by rw [h1, h2]; exact h⟩⟩
  rcases hj with e | e | e <;> (rw [e]; rfl)
theorem v_set {σ : ovSt} (h : pu_I1 σ) (a b c : Int32) : F_X5_set a b c σ (fun r σ1 => F_X6_set a b c σ1 (fun r' σ2 => r = r' ∧ pu_good σ σ2)) := by
  unfold F_X5_set F_X5_set_67 F_X5_set_95 F_X5_set_124
  rcases pu_hasx h.1 a with ha | ⟨t, ht, ht8, ea⟩
  · rw [e3_has_no pu_s21 h.2.1 ha, if_pos rfl]
    show F_X6_set _ _ _ _ _
    unfold F_X6_set F_X6_set_61 F_X6_set_62 F_X6_set_87
    rw [e6_isThing_no h.1 ha, if_pos rfl, if_pos rfl]
    exact ⟨rfl, pu_good.rf h⟩
  · subst ea
    rw [e3_has_yes pu_s21 h.1 h.2.1 ht, if_neg (by decide)]
    have bec : ∀ (j : Nat) (x : Int32), x = nI j → j < 4 → (8 + (4 * nI t)) + x = nI (8 + 4 * t + j) := by
      intro j x hx hj
      rw [hx]; exact pu_ix t j
    by_cases b1 : b = 1
    · subst b1
      rw [if_pos rfl]
      by_cases zc : c < 1 ∨ 9 < c
      · rw [pu_no5 zc, if_pos rfl]
        show F_X6_set _ _ _ _ _
        unfold F_X6_set F_X6_set_28 F_X6_set_51 F_X6_set_61 F_X6_set_62 F_X6_set_87
        rw [e6_isThing_yes h.1 ht, if_neg (by decide), pu_yes6 (x := 1) (a := 1) (b := 3) (by decide), if_neg (by decide), if_pos rfl, if_pos rfl, pu_no6 zc, if_pos rfl, if_pos rfl]
        exact ⟨rfl, pu_good.rf h⟩
      · rw [pu_yes5 zc, if_neg (by decide), e5_exch (Or.inl rfl) ht8]
        show F_X6_set _ _ _ _ _
        have q : ov_up σ 23 t c 75 = σ 75 := pu_up_ne (by omega)
        unfold F_X6_set F_X6_set_28 F_X6_set_51 F_X6_set_61 F_X6_set_62 F_X6_set_87
        rw [e6_isThing_yes (by rw [q]; exact h.1) (by rw [q]; exact ht), if_neg (by decide), pu_yes6 (x := 1) (a := 1) (b := 3) (by decide), if_neg (by decide), if_pos rfl, if_pos rfl, pu_yes6 zc, if_neg (by decide), if_neg (by decide), bec 1 1 rfl (by decide), e6_becomes (by omega), q]
        exact ⟨(h.2.1.2.1 t ht8).2.1, pu_good.up h (by omega) (by omega) (by omega) (by omega) (h.1.upt1 ht8 ((pu_bt zc).elim (fun x y => ⟨Int.le_trans (by decide) x, y⟩))) (h.2.1.upt1 ht8 c)⟩
    rw [if_neg b1]
    by_cases b2 : b = 2
    · subst b2
      rw [if_pos rfl]
      by_cases zc : c < 0 ∨ 99999 < c
      · rw [pu_no5 zc, if_pos rfl]
        show F_X6_set _ _ _ _ _
        unfold F_X6_set F_X6_set_28 F_X6_set_51 F_X6_set_61 F_X6_set_62 F_X6_set_87
        rw [e6_isThing_yes h.1 ht, if_neg (by decide), pu_yes6 (x := 2) (a := 1) (b := 3) (by decide), if_neg (by decide), if_neg (by decide), if_neg (by decide), if_pos rfl, pu_no6 zc, if_pos rfl, if_pos rfl]
        exact ⟨rfl, pu_good.rf h⟩
      · rw [pu_yes5 zc, if_neg (by decide), e5_exch (Or.inr (Or.inl rfl)) ht8]
        show F_X6_set _ _ _ _ _
        have q : ov_up σ 24 t c 75 = σ 75 := pu_up_ne (by omega)
        unfold F_X6_set F_X6_set_28 F_X6_set_51 F_X6_set_61 F_X6_set_62 F_X6_set_87
        rw [e6_isThing_yes (by rw [q]; exact h.1) (by rw [q]; exact ht), if_neg (by decide), pu_yes6 (x := 2) (a := 1) (b := 3) (by decide), if_neg (by decide), if_neg (by decide), if_neg (by decide), if_pos rfl, pu_yes6 zc, if_neg (by decide), if_neg (by decide), bec 2 2 rfl (by decide), e6_becomes (by omega), q]
        exact ⟨(h.2.1.2.1 t ht8).2.2.1, pu_good.up h (by omega) (by omega) (by omega) (by omega) (h.1.upt2 ht8 (pu_bt zc)) (h.2.1.upt2 ht8 c)⟩
    rw [if_neg b2]
    by_cases b3 : b = 3
    · subst b3
      rw [if_pos rfl]
      by_cases zc : c < 0 ∨ 9999 < c
      · rw [pu_no5 zc, if_pos rfl]
        show F_X6_set _ _ _ _ _
        unfold F_X6_set F_X6_set_28 F_X6_set_51 F_X6_set_61 F_X6_set_62 F_X6_set_87
        rw [e6_isThing_yes h.1 ht, if_neg (by decide), pu_yes6 (x := 3) (a := 1) (b := 3) (by decide), if_neg (by decide), if_neg (by decide), if_neg (by decide), if_neg (by decide), pu_no6 zc, if_pos rfl, if_pos rfl]
        exact ⟨rfl, pu_good.rf h⟩
      · rw [pu_yes5 zc, if_neg (by decide), e5_exch (Or.inr (Or.inr rfl)) ht8]
        show F_X6_set _ _ _ _ _
        have q : ov_up σ 25 t c 75 = σ 75 := pu_up_ne (by omega)
        unfold F_X6_set F_X6_set_28 F_X6_set_51 F_X6_set_61 F_X6_set_62 F_X6_set_87
        rw [e6_isThing_yes (by rw [q]; exact h.1) (by rw [q]; exact ht), if_neg (by decide), pu_yes6 (x := 3) (a := 1) (b := 3) (by decide), if_neg (by decide), if_neg (by decide), if_neg (by decide), if_neg (by decide), pu_yes6 zc, if_neg (by decide), if_neg (by decide), bec 3 3 rfl (by decide), e6_becomes (by omega), q]
        exact ⟨(h.2.1.2.1 t ht8).2.2.2, pu_good.up h (by omega) (by omega) (by omega) (by omega) (h.1.upt3 ht8 (pu_bt zc)) (h.2.1.upt3 ht8 c)⟩
    rw [if_neg b3]
    show F_X6_set _ _ _ _ _
    unfold F_X6_set F_X6_set_61 F_X6_set_62 F_X6_set_87
    rw [e6_isThing_yes h.1 ht, if_neg (by decide), pu_no6, if_pos rfl, if_pos rfl]
    · exact ⟨rfl, pu_good.rf h⟩
    · have e1 : (1 : Int32).toInt = 1 := rfl
      have e2 : (2 : Int32).toInt = 2 := rfl
      have e3 : (3 : Int32).toInt = 3 := rfl
      rw [fa_eq] at b1 b2 b3
      rw [fa_lt, fa_lt]
      omega
