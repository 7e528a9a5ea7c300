/-! ===== as, thing ===== -/
theorem pu_isk_in {k : Int32 → ovSt → Prop} {n : Nat} {x1 x2 x3 : Int32} {σ : ovSt} (h3 : ¬ (6 : Int32) ≤ x3) (h2 : ¬ (x2 < 0 ∨ 5 < x2)) (hv : vp_in x2 6) : F_X5_isOfKind_4 k (n + 1) x1 x2 x3 σ = (if x2 = x1 then k 1 σ else F_X5_isOfKind_4 k n x1 (ov_abv x2.toNatClampNeg) (x3 + 1) σ) := by
  show (if (6 : Int32) ≤ x3 then _ else _) = _
  rw [if_neg h3, pu_yes5 h2, if_neg (by decide)]
  by_cases z : x2 = x1
  · rw [if_pos z, if_pos z]
  · rw [if_neg z, if_neg z]
    exact propext ⟨fun h => h.2 _ rfl, fun h => ⟨hv, fun v e => by rw [e]; exact h⟩⟩
theorem pu_isk_out {k : Int32 → ovSt → Prop} {n : Nat} {x1 x3 : Int32} {σ : ovSt} (h3 : ¬ (6 : Int32) ≤ x3) : F_X5_isOfKind_4 k (n + 1) x1 (-1) x3 σ = k 0 σ := by
  show (if (6 : Int32) ≤ x3 then _ else _) = _
  rw [if_neg h3, pu_no5 (by decide), if_pos rfl]
  rfl
def pu_isk (kd x : Int32) : Int32 := if x = 0 then 1 else if kd = x then 1 else if x = 1 then (if kd = 3 then 1 else 0) else if x = 2 then (if kd = 4 then 1 else 0) else 0
theorem e6_isUnder (kd x : Int32) (σ : ovSt) (k : Int32 → ovSt → Prop) : F_X6_isUnder kd x σ k = k (pu_isk kd x) σ := by
  unfold F_X6_isUnder F_X6_isUnder_19 F_X6_isUnder_29 F_X6_isUnder_33 F_X6_isUnder_34 pu_isk
  rw [pu_and pu_bl0, pu_and pu_bl1]
  by_cases z0 : x = 0
  · rw [if_pos z0, if_pos z0]
  rw [if_neg z0, if_neg z0]
  by_cases z1 : kd = x
  · rw [if_pos z1, if_pos z1]
  rw [if_neg z1, if_neg z1]
  by_cases z2 : x = 1
  · rw [if_pos z2, if_pos z2]
    by_cases z3 : kd = 3
    · rw [if_pos z3, if_pos z3]
    · rw [if_neg z3, if_neg z3, if_neg (by rw [z2]; decide)]
  rw [if_neg z2, if_neg z2]
  by_cases z3 : x = 2
  · rw [if_pos z3, if_pos z3]
    by_cases z4 : kd = 4
    · rw [if_pos z4, if_pos z4]
    · rw [if_neg z4, if_neg z4]
  · rw [if_neg z3, if_neg z3]
theorem pu_six {x : Int32} (h : pu_in x 0 5) : x = 0 ∨ x = 1 ∨ x = 2 ∨ x = 3 ∨ x = 4 ∨ x = 5 := by
  have e0 : (0 : Int32).toInt = 0 := rfl
  have e1 : (1 : Int32).toInt = 1 := rfl
  have e2 : (2 : Int32).toInt = 2 := rfl
  have e3 : (3 : Int32).toInt = 3 := rfl
  have e4 : (4 : Int32).toInt = 4 := rfl
  have e5 : (5 : Int32).toInt = 5 := rfl
  rw [fa_eq, fa_eq, fa_eq, fa_eq, fa_eq, fa_eq]
  have h1 := h.1
  have h2 := h.2
  omega
theorem p5_isOfKind {kd x : Int32} (hk : pu_in kd 0 5) (hx : pu_in x 0 5) {σ : ovSt} {k : Int32 → ovSt → Prop} (h : k (pu_isk kd x) σ) : F_X5_isOfKind kd x σ k := by
  unfold F_X5_isOfKind
  refine ⟨4, ?_⟩
  have r0 : ∀ {n : Nat} {x3 : Int32}, ¬ (6 : Int32) ≤ x3 → ¬ (6 : Int32) ≤ x3 + 1 → F_X5_isOfKind_4 k (n + 2) x 0 x3 σ = (if 0 = x then k 1 σ else k 0 σ) := by
    intro n x3 a b
    rw [pu_isk_in (n := n + 1) (x2 := 0) (x3 := x3) a (by decide) (vp_in_nI (n := 0) (by decide) (by decide)), show ov_abv (Int32.toNatClampNeg 0) = -1 from rfl, pu_isk_out (n := n) b]
  rcases pu_six hk with e | e | e | e | e | e <;> subst e
  · rw [r0 (n := 2) (x3 := 0) (by decide) (by decide)]
    rcases pu_six hx with e | e | e | e | e | e <;> subst e <;> exact h
  · rw [pu_isk_in (n := 3) (x2 := 1) (x3 := 0) (by decide) (by decide) (vp_in_nI (n := 1) (by decide) (by decide)), show ov_abv (Int32.toNatClampNeg 1) = 0 from rfl, r0 (n := 1) (x3 := 0 + 1) (by decide) (by decide)]
    rcases pu_six hx with e | e | e | e | e | e <;> subst e <;> exact h
  · rw [pu_isk_in (n := 3) (x2 := 2) (x3 := 0) (by decide) (by decide) (vp_in_nI (n := 2) (by decide) (by decide)), show ov_abv (Int32.toNatClampNeg 2) = 0 from rfl, r0 (n := 1) (x3 := 0 + 1) (by decide) (by decide)]
    rcases pu_six hx with e | e | e | e | e | e <;> subst e <;> exact h
  · rw [pu_isk_in (n := 3) (x2 := 3) (x3 := 0) (by decide) (by decide) (vp_in_nI (n := 3) (by decide) (by decide)), show ov_abv (Int32.toNatClampNeg 3) = 1 from rfl, pu_isk_in (n := 2) (x2 := 1) (x3 := 0 + 1) (by decide) (by decide) (vp_in_nI (n := 1) (by decide) (by decide)), show ov_abv (Int32.toNatClampNeg 1) = 0 from rfl, r0 (n := 0) (x3 := 0 + 1 + 1) (by decide) (by decide)]
    rcases pu_six hx with e | e | e | e | e | e <;> subst e <;> exact h
  · rw [pu_isk_in (n := 3) (x2 := 4) (x3 := 0) (by decide) (by decide) (vp_in_nI (n := 4) (by decide) (by decide)), show ov_abv (Int32.toNatClampNeg 4) = 2 from rfl, pu_isk_in (n := 2) (x2 := 2) (x3 := 0 + 1) (by decide) (by decide) (vp_in_nI (n := 2) (by decide) (by decide)), show ov_abv (Int32.toNatClampNeg 2) = 0 from rfl, r0 (n := 0) (x3 := 0 + 1 + 1) (by decide) (by decide)]
    rcases pu_six hx with e | e | e | e | e | e <;> subst e <;> exact h
  · rw [pu_isk_in (n := 3) (x2 := 5) (x3 := 0) (by decide) (by decide) (vp_in_nI (n := 5) (by decide) (by decide)), show ov_abv (Int32.toNatClampNeg 5) = 0 from rfl, r0 (n := 1) (x3 := 0 + 1) (by decide) (by decide)]
    rcases pu_six hx with e | e | e | e | e | e <;> subst e <;> exact h
theorem v_as {σ : ovSt} (h : pu_I1 σ) (a b : Int32) : F_X5_as a b σ (fun r σ1 => F_X6_as a b σ1 (fun r' σ2 => r = r' ∧ pu_good σ σ2)) := by
  unfold F_X5_as F_X5_as_20 F_X5_as_53
  rcases pu_hasx h.1 a with ha | ⟨t, ht, ht8, ea⟩
  · rw [e3_has_no pu_s21 h.2.1 ha, if_pos rfl]
    show F_X6_as _ _ _ _
    unfold F_X6_as F_X6_as_17
    rw [e6_isThing_no h.1 ha, if_pos rfl]
    exact ⟨rfl, pu_good.rf h⟩
  · subst ea
    rw [e3_has_yes pu_s21 h.1 h.2.1 ht, if_neg (by decide)]
    by_cases zb : b < 0 ∨ 5 < b
    · rw [pu_no5 zb, if_pos rfl]
      show F_X6_as _ _ _ _
      unfold F_X6_as F_X6_as_17
      rw [e6_isThing_yes h.1 ht, if_neg (by decide), pu_no6 zb, if_pos rfl]
      exact ⟨rfl, pu_good.rf h⟩
    rw [pu_yes5 zb, if_neg (by decide)]
    refine ⟨vp_in_nI ht8 (by omega), ?_⟩
    obtain ⟨q0, q1, -, -⟩ := h.2.1.2.1 t ht8
    rw [pu_cl (by omega), show σ 22 t = σ 75 (8 + 4 * t) from q0]
    refine p5_isOfKind (h.1.2.2.2.2 t ht8).1 (pu_bt zb) ?_
    have hm : ∀ r, r = (if pu_isk (σ 75 (8 + 4 * t)) b = 0 then (-1000000012) else σ 75 (8 + 4 * t + 1)) → F_X6_as (nI t) b σ (fun r' σ2 => r = r' ∧ pu_good σ σ2) := by
      intro r hr
      unfold F_X6_as F_X6_as_44
      rw [e6_isThing_yes h.1 ht, if_neg (by decide), pu_yes6 zb, if_neg (by decide), e6_of0 ht8, e6_isUnder]
      by_cases z : pu_isk (σ 75 (8 + 4 * t)) b = 0
      · rw [if_pos z] at hr ⊢; exact ⟨hr, pu_good.rf h⟩
      · rw [if_neg z] at hr ⊢
        rw [e6_of1 ht8]
        exact ⟨hr, pu_good.rf h⟩
    by_cases z : pu_isk (σ 75 (8 + 4 * t)) b = 0
    · rw [if_pos z]
      exact hm _ (by rw [if_pos z])
    · rw [if_neg z]
      exact hm _ (by rw [if_neg z]; exact q1)
/-- a thing comes -/
def pu_addr (g : Nat → Int32) (a b c : Int32) : Nat → Int32 :=
  upd (upd (upd (upd (upd g (8 + 4 * pu_n g + 0) a) (8 + 4 * pu_n g + 1) b) (8 + 4 * pu_n g + 2) c) (8 + 4 * pu_n g + 3) 0) 1 (nI (pu_n g + 1))
theorem pu_WG_addr {g : Nat → Int32} (hg : pu_WG g) (hn : pu_n g < 8) {a b c : Int32} (ha : pu_in a 0 5) (hb : pu_in b 0 9) (hc : pu_in c 0 99999) : pu_WG (pu_addr g a b c) :=
  ((((hg.upt0 hn ha).upt1 hn hb).upt2 hn hc).upt3 hn ⟨by decide, by decide⟩).up1 (by omega)
theorem pu_tx_addr (g : Nat → Int32) (hn : pu_n g < 8) (a b c : Int32) : pu_tx g (pu_addr g a b c) :=
  pu_tx.up (pu_tx.up (pu_tx.up (pu_tx.up (pu_tx.up (pu_tx.rf g) (by omega) (by omega)) (by omega) (by omega)) (by omega) (by omega)) (by omega) (by omega)) (by omega) (by omega)
theorem p3_addThing {g : Nat → Int32} (hg : pu_WG g) (hn : pu_n g < 8) {σ : ovSt} (hR : pu_RS σ 21 g) (a b c : Int32) {k : Int32 → ovSt → Prop} (h : ∀ σ', pu_ag (pu_stX 21) σ σ' → pu_RS σ' 21 (pu_addr g a b c) → k (nI (pu_n g)) σ') : F_X3_addThing 21 a b c σ k := by
  have hb := pu_WG_n hg
  unfold F_X3_addThing
  refine ⟨pu_s21, ?_⟩
  rw [hR.1.2.1, hb.2]
  intro v hv
  subst hv
  refine ⟨vp_in_nI hn (by omega), ?_⟩
  rw [pu_cl (by omega)]
  intro σ3 e3 σ4 e4 σ5 e5 σ6 e6 σ7 e7
  have R3 := hR.upt0 hn a
  rw [← e3] at R3
  have R4 := R3.upt1 hn b
  rw [← e4] at R4
  have R5 := R4.upt2 hn c
  rw [← e5] at R5
  have R6 := R5.upt3 hn 0
  rw [← e6] at R6
  have c6 : σ6 21 6 = nI (pu_n g) := by
    rw [R6.1.2.1, pu_un (by omega), pu_un (by omega), pu_un (by omega), pu_un (by omega)]; exact hb.2
  rw [c6, ← nI_succ] at e7
  have R7 := R6.up6 (nI (pu_n g + 1))
  rw [← e7] at R7
  refine h σ7 (fun i hi => ?_) R7
  unfold pu_stX at hi
  rw [e7, pu_up_ne (by omega), e6, pu_up_ne (by omega), e5, pu_up_ne (by omega), e4, pu_up_ne (by omega), e3, pu_up_ne (by omega)]
theorem p6_comes {σ : ovSt} (hg : pu_WG (σ 75)) (hn : pu_n (σ 75) < 8) (a b c : Int32) {k : Int32 → ovSt → Prop} (h : ∀ σ', pu_ag (fun i => i = 75) σ σ' → σ' 75 = pu_addr (σ 75) a b c → k (nI (pu_n (σ 75))) σ') : F_X6_comes a b c σ k := by
  have hb := pu_WG_n hg
  unfold F_X6_comes
  refine ⟨vp_in_nI (n := 1) (by decide) (by decide), ?_⟩
  intro v hv
  rw [show σ 75 (Int32.toNatClampNeg 1) = nI (pu_n (σ 75)) from hb.2] at hv
  subst hv
  rw [show (0 : Int32) = nI 0 from rfl, e6_put hn 0 (by decide)]
  show F_X6_put _ (nI 1) _ _ _
  rw [e6_put hn 1 (by decide)]
  show F_X6_put _ (nI 2) _ _ _
  rw [e6_put hn 2 (by decide)]
  show F_X6_put _ (nI 3) _ _ _
  rw [e6_put hn 3 (by decide)]
  intro σ7 e7
  refine h σ7 (fun i hi => ?_) ?_
  · rw [e7, pu_up_ne hi, pu_up_ne hi, pu_up_ne hi, pu_up_ne hi, pu_up_ne hi]
  · rw [e7, pu_up_same, pu_up_same, pu_up_same, pu_up_same, pu_up_same, show Int32.toNatClampNeg 1 = 1 from rfl, pu_un (i := 8 + 4 * pu_n (σ 75) + 3) (j := 1) (by omega), pu_un (i := 8 + 4 * pu_n (σ 75) + 2) (j := 1) (by omega), pu_un (i := 8 + 4 * pu_n (σ 75) + 1) (j := 1) (by omega), pu_un (i := 8 + 4 * pu_n (σ 75) + 0) (j := 1) (by omega)]
    unfold pu_addr
    rw [nI_succ, ← hb.2]
    rfl
