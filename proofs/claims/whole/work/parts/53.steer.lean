/-! ===== steer ===== -/
def pu_tos (g : Nat → Int32) (t : Nat) (x : Int32) : Nat → Int32 := upd g (8 + 4 * t + 2) (pu_within (g (8 + 4 * t + 2) + x) 0 99999)
theorem pu_WG_tos {g : Nat → Int32} (hg : pu_WG g) {t : Nat} (ht : t < 8) (x : Int32) : pu_WG (pu_tos g t x) := hg.upt2 ht (pu_within_in (lo := 0) (hi := 99999) (by decide))
theorem pu_tx_tos (g : Nat → Int32) {t : Nat} (ht : t < 8) (x : Int32) : pu_tx g (pu_tos g t x) := pu_tx.up (pu_tx.rf g) (by omega) (by omega)
theorem pu_n_tos (g : Nat → Int32) (t : Nat) (x : Int32) : pu_n (pu_tos g t x) = pu_n g := by
  unfold pu_n pu_tos
  rw [pu_un (by omega)]
theorem pu_tos0 {g : Nat → Int32} (hg : pu_WG g) {t : Nat} (ht : t < 8) : pu_tos g t 0 = g := by
  have hA := (hg.2.2.2.2 t ht).2.2.1
  funext c
  unfold pu_tos
  by_cases z : c = 8 + 4 * t + 2
  · rw [z, pu_ue, Int32.add_zero, pu_within_id (show (0 : Int32).toInt ≤ _ from hA.1) (show _ ≤ (99999 : Int32).toInt from hA.2)]
  · rw [pu_un z]
theorem e6_tosses {t : Nat} (ht : t < 8) (x : Int32) (σ : ovSt) (k : ovSt → Prop) : F_X6_tosses (nI t) x σ k = k (ov_up σ 75 (8 + 4 * t + 2) (pu_within (σ 75 (8 + 4 * t + 2) + x) 0 99999)) := by
  unfold F_X6_tosses
  rw [e6_of2 ht, e6_within, e6_put2 ht]
theorem p6_tosses {t : Nat} (ht : t < 8) {x : Int32} {σ : ovSt} {k : ovSt → Prop} (h : ∀ σ', pu_ag (fun i => i = 75) σ σ' → σ' 75 = pu_tos (σ 75) t x → k σ') : F_X6_tosses (nI t) x σ k := by
  rw [e6_tosses ht]
  refine h _ (pu_ag.up1 rfl) ?_
  rw [pu_up_same]
  rfl
theorem p3_throwIn {s : Nat} (hs : ov_stk s) {t : Nat} (ht : t < 8) {g : Nat → Int32} (hg : pu_WG g) {x : Int32} (hx : pu_in x 0 9999) {σ : ovSt} (hR : pu_RS σ s g) {k : ovSt → Prop} (h : ∀ σ', pu_ag (pu_stX s) σ σ' → pu_RS σ' s (pu_tos g t x) → k σ') : F_X3_throwIn s (nI t) x σ k := by
  have hA := (hg.2.2.2.2 t ht).2.2.1
  unfold F_X3_throwIn
  refine ⟨hs, vp_in_nI ht (by omega), ?_⟩
  rw [pu_cl (by omega), (hR.2.1 t ht).2.2.1]
  have hadd : 0 ≤ (g (8 + 4 * t + 2) + x).toInt := by
    have h1 := hA.1
    have h2 := hA.2
    have h3 := hx.1
    have h4 := hx.2
    rw [fb_addI (by omega) (by omega)]
    omega
  rw [pu_min_within hadd]
  intro σ2 e2
  refine h σ2 (by rw [e2]; exact pu_ag.up1 (by unfold pu_stX; omega)) ?_
  rw [e2]
  exact hR.upt2 ht _
theorem pu_eqt.sy {t : Nat} {a b : Nat → Int32} (h : pu_eqt t a b) : pu_eqt t b a := fun c hc => (h c hc).symm
theorem pu_eqt_dd {t : Nat} {a b : Nat → Int32} (ha : pu_WG a) (hb : pu_WG b) (h1 : t < pu_n a) (h2 : t < pu_n b) (h : pu_eqt t a b) (N : Nat) : pu_eqt t (pu_dn a N) (pu_dn b N) := by
  have q := pu_WG_n ha
  exact ((pu_eqt_dn ha h1 N).sy.tr (pu_eqt_dt (by omega) h N)).tr (pu_eqt_dn hb h2 N)
theorem pu_eqt_tos_other {t i : Nat} (g : Nat → Int32) (x : Int32) (ht : t < 8) (hne : i ≠ t) : pu_eqt i g (pu_tos g t x) := by
  intro c hc
  unfold pu_tos
  rw [pu_un (by omega)]
theorem pu_eqt_tos {t : Nat} {a b : Nat → Int32} (x : Int32) (h : pu_eqt t a b) : pu_eqt t (pu_tos a t x) (pu_tos b t x) := by
  intro c hc
  unfold pu_tos
  by_cases z : c = 8 + 4 * t + 2
  · rw [z, pu_ue, pu_ue, h (8 + 4 * t + 2) (by omega)]
  · rw [pu_un z, pu_un z, h c hc]
theorem pu_sum_same {f f' : Nat → Int32} : ∀ (n : Nat), (∀ i, i < n → f' i = f i) → pu_sum f' n = pu_sum f n
  | 0, _ => rfl
  | n + 1, h => by
    unfold pu_sum
    rw [pu_sum_same n (fun i hi => h i (by omega)), h n (by omega)]
theorem pu_sum_one {f f' : Nat → Int32} {t : Nat} : ∀ (n : Nat), t < n → (∀ i, i < n → i ≠ t → f' i = f i) → pu_sum f' n = pu_sum f n - f t + f' t
  | 0, ht, _ => absurd ht (by omega)
  | n + 1, ht, h => by
    unfold pu_sum
    by_cases z : t = n
    · subst z
      rw [pu_sum_same t (fun i hi => h i (by omega) (by omega)), Int32.add_sub_cancel]
    · rw [pu_sum_one n (by omega) (fun i hi hne => h i (by omega) hne), h n (by omega) (fun q => z q.symm)]
      simp only [Int32.sub_eq_add_neg]
      ac_rfl
def pu_tot (g : Nat → Int32) (N t i : Nat) : Int32 := pu_tall (pu_dn (pu_tos g t (nI (50 * i))) N)
theorem pu_tot_eq {g : Nat → Int32} (hg : pu_WG g) {t : Nat} (ht : t < pu_n g) (N i : Nat) : (pu_tall (pu_dn g N) - pu_taste (pu_dn g N) t) + pu_taste (pu_dt (pu_tos g t (nI (50 * i))) t N) t = pu_tot g N t i := by
  have q := pu_WG_n hg
  have hT := pu_WG_tos hg (t := t) (by omega) (nI (50 * i))
  have nT := pu_n_tos g t (nI (50 * i))
  have e1 : pu_taste (pu_dt (pu_tos g t (nI (50 * i))) t N) t = pu_taste (pu_dn (pu_tos g t (nI (50 * i))) N) t := (pu_eqt_taste (pu_eqt_dn hT (by rw [nT]; exact ht) N)).symm
  rw [e1]
  unfold pu_tot pu_tall
  rw [pu_n_dn, pu_n_dn, nT]
  refine (pu_sum_one (pu_n g) ht (fun j hj hne => ?_)).symm
  exact pu_eqt_taste (pu_eqt_dd hg hT hj (by rw [nT]; exact hj) (pu_eqt_tos_other g _ (by omega) hne) N)
/-- a stock to try with -/
def pu_sq (g r : Nat → Int32) : Prop := pu_WG r ∧ (∀ t, t < 8 → r (8 + 4 * t) = g (8 + 4 * t) ∧ r (8 + 4 * t + 1) = g (8 + 4 * t + 1)) ∧ r 2 = g 2 ∧ r 3 = g 3 ∧ pu_tx g r
def pu_XV (i : Nat) : Prop := i = 20 ∨ (39 ≤ i ∧ i ≤ 44)
theorem p5_tasteTried {g : Nat → Int32} (hg : pu_WG g) {t N : Nat} (ht : t < 8) (hN : N < 2 ^ 31) {x : Int32} (hx : pu_in x 0 9999) {σ : ovSt} {r : Nat → Int32} (hR : pu_RS σ 21 g) (hr : pu_RS σ 39 r) (hq : pu_sq g r) (hL : pu_LS σ g) {k : Int32 → ovSt → Prop} (h : ∀ σ' r', pu_ag pu_XV σ σ' → pu_RS σ' 39 r' → pu_sq g r' → k (pu_taste (pu_dt (pu_tos g t x) t N) t) σ') : F_X5_tasteTried (nI t) x (nI N) σ k := by
  unfold F_X5_tasteTried F_X3_resetThing
  refine ⟨pu_s39, pu_s21, vp_in_nI ht (by omega), ?_⟩
  rw [pu_cl (by omega)]
  intro σ2 e2 σ3 e3
  obtain ⟨hw, q0, q2, q3, qx⟩ := hq
  obtain ⟨b0, b1, b2, b3⟩ := hg.2.2.2.2 t ht
  have c2 : σ (21 + 3) t = g (8 + 4 * t + 2) := (hR.2.1 t ht).2.2.1
  have c3 : σ2 (21 + 4) t = g (8 + 4 * t + 3) := by rw [e2, pu_up_ne (by omega)]; exact (hR.2.1 t ht).2.2.2
  rw [c2] at e2
  rw [c3] at e3
  have R2 := hr.upt2 ht (g (8 + 4 * t + 2))
  rw [← e2] at R2
  have R3 := R2.upt3 ht (g (8 + 4 * t + 3))
  rw [← e3] at R3
  have W3 := (hw.upt2 ht b2).upt3 ht b3
  have a3 : pu_ag pu_XV σ σ3 := by
    rw [e3]
    refine pu_ag.up ?_ (by unfold pu_XV; omega)
    rw [e2]
    exact pu_ag.up1 (by unfold pu_XV; omega)
  generalize hr' : upd (upd r (8 + 4 * t + 2) (g (8 + 4 * t + 2))) (8 + 4 * t + 3) (g (8 + 4 * t + 3)) = r' at R3 W3
  have E : pu_eqt t g r' := by
    intro c hc
    rw [← hr']
    by_cases z3 : c = 8 + 4 * t + 3
    · rw [z3, pu_ue]
    rw [pu_un z3]
    by_cases z4 : c = 8 + 4 * t + 2
    · rw [z4, pu_ue]
    rw [pu_un z4]
    by_cases z5 : c = 3
    · rw [z5]; exact q3
    by_cases z2 : c = 2
    · rw [z2]; exact q2
    by_cases z6 : c = 8 + 4 * t
    · rw [z6]; exact (q0 t ht).1
    by_cases z7 : c = 8 + 4 * t + 1
    · rw [z7]; exact (q0 t ht).2
    by_cases z8 : c = 7
    · rw [z8]; exact qx.1
    · exact qx.2 c (by omega)
  have at' : ∀ c, c ≠ 8 + 4 * t + 2 → c ≠ 8 + 4 * t + 3 → r' c = r c := by
    intro c z2 z3
    rw [← hr', pu_un z3, pu_un z2]
  have hxv : ∀ σa σb : ovSt, pu_ag (pu_stX 39) σa σb → pu_ag pu_XV σa σb := fun σa σb ha => ha.mono (fun i hi => by unfold pu_stX at hi; unfold pu_XV; omega)
  refine p3_throwIn pu_s39 ht W3 hx R3 (fun σ4 h4 R4 => ?_)
  have W4 := pu_WG_tos W3 ht x
  refine p3_passDaysOf pu_s39 ht W4 hN R4 (fun σ5 h5 R5 => ?_)
  have T4 : pu_tx g (pu_tos r' t x) := E.tx.tr (pu_tx_tos r' ht x)
  have T5 : pu_tx g (pu_dt (pu_tos r' t x) t N) := T4.tr (pu_tx_dt ht N)
  have W5 := pu_WG_dt W4 ht N
  have a5 : pu_ag pu_XV σ σ5 := (a3.tr (hxv _ _ h4)).tr (hxv _ _ h5)
  have L5 : pu_LS σ5 (pu_dt (pu_tos r' t x) t N) := pu_tx_LS T5 (hL.ag hg (fun i a b => a5 i (by unfold pu_XV; omega)))
  refine p3_tasteOf pu_s39 ht W5 R5 L5 (fun σ6 h6 => ?_)
  rw [pu_eqt_taste (pu_eqt_dt ht (pu_eqt_tos x E) N)]
  have at5 : ∀ c, c ≠ 8 + 4 * t + 2 → c ≠ 8 + 4 * t + 3 → c ≠ 5 → c ≠ 6 → pu_dt (pu_tos r' t x) t N c = r c := by
    intro c z2 z3 z5 z6
    rw [pu_dt_at z2 z3 z5 z6]
    unfold pu_tos
    rw [pu_un z2, at' c z2 z3]
  refine h σ6 _ (a5.tr (h6.mono (fun i hi => by unfold pu_XV; omega))) (R5.ag (fun i a b => h6 i (by omega))) ⟨W5, fun j hj => ?_, ?_, ?_, T5⟩
  · rw [at5 _ (by omega) (by omega) (by omega) (by omega), at5 _ (by omega) (by omega) (by omega) (by omega)]
    exact q0 j hj
  · rw [at5 _ (by omega) (by omega) (by omega) (by omega)]; exact q2
  · rw [at5 _ (by omega) (by omega) (by omega) (by omega)]; exact q3
