/-! ===== leastPot ===== -/
theorem pu_dt_at {g : Nat → Int32} {t c : Nat} (h2 : c ≠ 8 + 4 * t + 2) (h3 : c ≠ 8 + 4 * t + 3) (h5 : c ≠ 5) (h6 : c ≠ 6) : ∀ (n : Nat), pu_dt g t n c = g c
  | 0 => rfl
  | n + 1 => by
    show pu_W1 (pu_E1 (pu_dt g t n) t) t c = g c
    rw [pu_W1_at h2 h6 h3, pu_E1_at h2 h5, pu_dt_at h2 h3 h5 h6 n]
theorem pu_eqt_dt {t : Nat} (ht : t < 8) {a b : Nat → Int32} (h : pu_eqt t a b) : ∀ (n : Nat), pu_eqt t (pu_dt a t n) (pu_dt b t n)
  | 0 => h
  | n + 1 => pu_eqt_W1 ht (pu_eqt_E1 ht (pu_eqt_dt ht h n))
def pu_am (g : Nat → Int32) (t N i : Nat) : Int32 := pu_dt (upd g 2 (nI (10 * i))) t N (8 + 4 * t + 2)
def pu_lp (g : Nat → Int32) (t N : Nat) (x : Int32) : Nat → Nat → Int32
  | 0, _ => -1000000005
  | m + 1, i => if pu_am g t N (i + 1) < x then pu_lp g t N x m (i + 1) else nI (10 * (i + 1))
def pu_lq (t : Nat) (g r : Nat → Int32) : Prop := pu_WG r ∧ r (8 + 4 * t) = g (8 + 4 * t) ∧ r (8 + 4 * t + 1) = g (8 + 4 * t + 1) ∧ r 3 = g 3 ∧ pu_tx g r
theorem pu_10 {i : Nat} (hi : i ≤ 99) : pu_in (nI (10 * (i + 1))) 1 1000 := by
  unfold pu_in
  rw [nI_toInt (by omega)]
  omega
theorem p5_leastPot_loop {k : Int32 → ovSt → Prop} {g : Nat → Int32} (hg : pu_WG g) {t N : Nat} (ht : t < 8) (hN : N < 2 ^ 31) {x : Int32} : ∀ (m i : Nat) (σ : ovSt) (r : Nat → Int32), i + m = 99 → pu_RS σ 21 g → pu_RS σ 33 r → pu_lq t g r → (∀ σ', pu_ag (pu_stX 33) σ σ' → k (pu_lp g t N x m i) σ') → F_X5_leastPot_49 k (m + 1) (nI t) x (nI N) (nI (10 * (i + 1))) σ
  | 0, i, σ, r, hi, hR, hr, hq, h => by
    have ei : i = 99 := by omega
    subst ei
    unfold F_X5_leastPot_49
    rw [if_pos (by decide)]
    exact h σ (pu_ag.rf _ σ)
  | m + 1, i, σ, r, hi, hR, hr, hq, h => by
    unfold F_X5_leastPot_49 F_X3_resetThing
    rw [if_neg (by rw [show (990 : Int32) = nI 990 from rfl, nI_ltI (by omega) (by omega)]; omega)]
    refine ⟨pu_s33, pu_s21, vp_in_nI ht (by omega), ?_⟩
    rw [pu_cl (by omega)]
    intro σ2 e2 σ3 e3 σ4 e4
    obtain ⟨hw, q0, q1, q3, qx⟩ := hq
    obtain ⟨b0, b1, b2, b3⟩ := hg.2.2.2.2 t ht
    have c2 : σ (21 + 3) t = g (8 + 4 * t + 2) := (hR.2.1 t ht).2.2.1
    have c3 : σ2 (21 + 4) t = g (8 + 4 * t + 3) := by rw [e2, pu_up_ne (by omega)]; exact (hR.2.1 t ht).2.2.2
    rw [c2] at e2
    rw [c3] at e3
    have R2 := hr.upt2 ht (g (8 + 4 * t + 2))
    rw [← e2] at R2
    have R3 := R2.upt3 ht (g (8 + 4 * t + 3))
    rw [← e3] at R3
    have R4 := R3.up7 (nI (10 * (i + 1)))
    rw [← e4] at R4
    have W4 := ((hw.upt2 ht b2).upt3 ht b3).up2 (v := nI (10 * (i + 1))) ((pu_10 (i := i) (by omega)).elim (fun a b => ⟨a, by rw [nI_toInt (by omega)]; omega⟩))
    have a4 : pu_ag (pu_stX 33) σ σ4 := by
      rw [e4]
      refine pu_ag.up ?_ (by unfold pu_stX; omega)
      rw [e3]
      refine pu_ag.up ?_ (by unfold pu_stX; omega)
      rw [e2]
      exact pu_ag.up1 (by unfold pu_stX; omega)
    generalize hr' : upd (upd (upd r (8 + 4 * t + 2) (g (8 + 4 * t + 2))) (8 + 4 * t + 3) (g (8 + 4 * t + 3))) 2 (nI (10 * (i + 1))) = r' at R4 W4
    have E : pu_eqt t (upd g 2 (nI (10 * (i + 1)))) r' := by
      intro c hc
      rw [← hr']
      by_cases z2 : c = 2
      · rw [z2, pu_ue, pu_ue]
      rw [pu_un z2, pu_un z2]
      by_cases z3 : c = 8 + 4 * t + 3
      · rw [z3, pu_ue]
      rw [pu_un z3]
      by_cases z4 : c = 8 + 4 * t + 2
      · rw [z4, pu_ue]
      rw [pu_un z4]
      by_cases z5 : c = 3
      · rw [z5]; exact q3
      by_cases z6 : c = 8 + 4 * t
      · rw [z6]; exact q0
      by_cases z7 : c = 8 + 4 * t + 1
      · rw [z7]; exact q1
      by_cases z8 : c = 7
      · rw [z8]; exact qx.1
      · exact qx.2 c (by omega)
    refine p3_passDaysOf pu_s33 ht W4 hN R4 (fun σ5 h5 R5 => ?_)
    refine ⟨vp_in_nI ht (by omega), ?_⟩
    have am : σ5 36 t = pu_am g t N (i + 1) := by
      have s1 : σ5 (33 + 3) t = _ := (R5.2.1 t ht).2.2.1
      rw [show σ5 36 t = σ5 (33 + 3) t from rfl, s1]
      exact pu_eqt_dt ht E N (8 + 4 * t + 2) (by omega)
    rw [am]
    unfold pu_lp at h
    by_cases z : pu_am g t N (i + 1) < x
    · rw [if_pos z] at h ⊢
      rw [show nI (10 * (i + 1)) + 10 = nI (10 * (i + 1 + 1)) from nI_add (10 * (i + 1)) 10]
      have T4 : pu_tx g r' := by
        have t1 : pu_tx g (upd g 2 (nI (10 * (i + 1)))) := pu_tx.up (pu_tx.rf g) (by omega) (by omega)
        exact t1.tr E.tx
      refine p5_leastPot_loop hg ht hN m (i + 1) σ5 (pu_dt r' t N) (by omega) (hR.ag (fun j a b => by rw [h5 j (by unfold pu_stX; omega), a4 j (by unfold pu_stX; omega)])) R5 ⟨pu_WG_dt W4 ht N, ?_, ?_, ?_, T4.tr (pu_tx_dt ht N)⟩ (fun σ6 h6 => h σ6 ((a4.tr h5).tr h6))
      · rw [pu_dt_at (by omega) (by omega) (by omega) (by omega), E _ (by omega), pu_un (by omega)]
      · rw [pu_dt_at (by omega) (by omega) (by omega) (by omega), E _ (by omega), pu_un (by omega)]
      · rw [pu_dt_at (by omega) (by omega) (by omega) (by omega), E _ (by omega), pu_un (by omega)]
    · rw [if_neg z] at h ⊢
      exact h σ5 (a4.tr h5)
