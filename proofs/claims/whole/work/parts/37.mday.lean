/-! ===== the model's day, its copies ===== -/
def pu_one (a i : Nat) : Prop := i = a
theorem pu_ag.up1 {X : Nat → Prop} {σ : ovSt} {i k : Nat} {v : Int32} (hi : X i) : pu_ag X σ (ov_up σ i k v) := pu_ag.up (pu_ag.rf X σ) hi
theorem e6_put2 {t : Nat} (ht : t < 8) (v : Int32) (σ : ovSt) (k : ovSt → Prop) : F_X6_put (nI t) 2 v σ k = k (ov_up σ 75 (8 + 4 * t + 2) v) := e6_put ht 2 (by decide) v σ k
theorem e6_put3 {t : Nat} (ht : t < 8) (v : Int32) (σ : ovSt) (k : ovSt → Prop) : F_X6_put (nI t) 3 v σ k = k (ov_up σ 75 (8 + 4 * t + 3) v) := e6_put ht 3 (by decide) v σ k
theorem p6_day81 {k : ovSt → Prop} {g : Nat → Int32} (hg : pu_WG g) {n : Nat} (hn : pu_n g = n) : ∀ (m j : Nat) (σ : ovSt), j + m = n → σ 75 = pu_itW g j → (∀ σ', pu_ag (fun i => i = 75) σ σ' → σ' 75 = upd (pu_itW g n) 4 (pu_itW g n 4 + 1) → k σ') → F_X6_day_81 k (m + 1) (nI j) σ
  | 0, j, σ, hj, e, h => by
    have hb := pu_WG_n hg
    rw [hn] at hb
    have ej : j = n := by omega
    subst ej
    unfold F_X6_day_81
    refine ⟨vp_in_nI (n := 1) (by decide) (by decide), ?_⟩
    rw [show σ 75 (Int32.toNatClampNeg 1) = nI j from by rw [e]; exact (pu_itW_1 g j).trans hb.2, if_pos (Int32.le_refl _)]
    refine ⟨vp_in_nI (n := 4) (by decide) (by decide), ?_⟩
    intro σ9 e9
    refine h σ9 (by rw [e9]; exact pu_ag.up1 rfl) ?_
    rw [e9, pu_up_same, e]
    rfl
  | m + 1, j, σ, hj, e, h => by
    have hb := pu_WG_n hg
    rw [hn] at hb
    have hj8 : j < 8 := by omega
    unfold F_X6_day_81
    refine ⟨vp_in_nI (n := 1) (by decide) (by decide), ?_⟩
    rw [show σ 75 (Int32.toNatClampNeg 1) = nI n from by rw [e]; exact (pu_itW_1 g j).trans hb.2, if_neg (by rw [nI_leI (by omega) (by omega)]; omega), e6_wearsOf hj8, e6_of2 hj8, e6_put2 hj8]
    refine ⟨vp_in_nI (n := 6) (by decide) (by decide), ?_⟩
    intro σ17 e17
    have s17 : σ17 75 = upd (upd (pu_itW g j) (8 + 4 * j + 2) (pu_itW g j (8 + 4 * j + 2) - pu_wr (pu_itW g j) j)) 6 (pu_itW g j 6 + pu_wr (pu_itW g j) j) := by
      rw [e17, pu_up_same, pu_up_same, e, pu_un (show Int32.toNatClampNeg 6 ≠ 8 + 4 * j + 2 by rw [show Int32.toNatClampNeg 6 = 6 from rfl]; omega)]
      rfl
    have a17 : pu_ag (fun i => i = 75) σ σ17 := by rw [e17]; exact pu_ag.up (pu_ag.up1 rfl) rfl
    rw [e6_of2 hj8]
    have c2 : σ17 75 (8 + 4 * j + 2) = pu_itW g j (8 + 4 * j + 2) - pu_wr (pu_itW g j) j := by
      rw [s17, pu_un (by omega), pu_ue]
    have c3 : σ17 75 (8 + 4 * j + 3) = pu_itW g j (8 + 4 * j + 3) := by
      rw [s17, pu_un (by omega), pu_un (by omega)]
    have fin : ∀ v, v = pu_age1 (pu_itW g j (8 + 4 * j + 2) - pu_wr (pu_itW g j) j) (pu_itW g j (8 + 4 * j + 3)) → F_X6_day_153 (F_X6_day_81 k (m + 1)) k (nI j) v 3 (nI j) σ17 := by
      intro v hv
      unfold F_X6_day_153
      rw [e6_put3 hj8, ← nI_succ]
      have a18 : pu_ag (fun i => i = 75) σ (ov_up σ17 75 (8 + 4 * j + 3) v) := pu_ag.up a17 rfl
      refine p6_day81 hg hn m (j + 1) _ (by omega) ?_ (fun σ2 ha2 => h σ2 (a18.tr ha2))
      rw [pu_up_same, s17, hv]
      rfl
    rw [c2]
    by_cases z : pu_itW g j (8 + 4 * j + 2) - pu_wr (pu_itW g j) j = 0
    · rw [if_pos z]
      refine fin 0 ?_
      unfold pu_age1
      rw [if_pos z]
    · rw [if_neg z, e6_of3 hj8, e6_within, c3]
      refine fin _ ?_
      unfold pu_age1
      rw [if_neg z]
theorem p6_day2 {k : ovSt → Prop} {g : Nat → Int32} (hg : pu_WG g) {n : Nat} (hn : pu_n g = n) : ∀ (m j : Nat) (σ : ovSt), j + m = n → σ 75 = pu_itE g j → (∀ σ', pu_ag (fun i => i = 75) σ σ' → σ' 75 = pu_day g → k σ') → F_X6_day_2 k (m + 1) (nI j) σ
  | 0, j, σ, hj, e, h => by
    have hb := pu_WG_n hg
    rw [hn] at hb
    have ej : j = n := by omega
    subst ej
    unfold F_X6_day_2
    refine ⟨vp_in_nI (n := 1) (by decide) (by decide), ?_⟩
    rw [show σ 75 (Int32.toNatClampNeg 1) = nI j from by rw [e]; exact (pu_itE_1 g j).trans hb.2, if_pos (Int32.le_refl _)]
    have hE := pu_WG_itE hg j hb.1
    have hnE : pu_n (pu_itE g j) = j := by unfold pu_n; rw [pu_itE_1]; exact hn
    refine ⟨j + 1, p6_day81 hE hnE j 0 σ (by omega) e (fun σ' ha e' => h σ' ha ?_)⟩
    rw [e']
    unfold pu_day
    rw [hn, pu_itD_eq]
  | m + 1, j, σ, hj, e, h => by
    have hb := pu_WG_n hg
    rw [hn] at hb
    have hj8 : j < 8 := by omega
    have hE := pu_WG_itE hg j (by omega)
    unfold F_X6_day_2
    refine ⟨vp_in_nI (n := 1) (by decide) (by decide), ?_⟩
    rw [show σ 75 (Int32.toNatClampNeg 1) = nI n from by rw [e]; exact (pu_itE_1 g j).trans hb.2, if_neg (by rw [nI_leI (by omega) (by omega)]; omega), e6_of2 hj8]
    refine ⟨vp_in_nI (n := 3) (by decide) (by decide), vp_in_nI (n := 2) (by decide) (by decide), ?_⟩
    rw [show σ 75 (Int32.toNatClampNeg 3) = pu_itE g j 3 from by rw [e]; rfl, show σ 75 (Int32.toNatClampNeg 2) = pu_itE g j 2 from by rw [e]; rfl, e]
    have fin : ∀ v, v = pu_eat (pu_itE g j) j → F_X6_day_53 (F_X6_day_2 k (m + 1)) k (nI j) (pu_itE g j (8 + 4 * j + 2)) v σ := by
      intro v hv
      unfold F_X6_day_53
      rw [e6_put2 hj8]
      refine ⟨vp_in_nI (n := 5) (by decide) (by decide), ?_⟩
      intro σ4 e4
      rw [← nI_succ]
      have a4 : pu_ag (fun i => i = 75) σ σ4 := by rw [e4]; exact pu_ag.up (pu_ag.up1 rfl) rfl
      refine p6_day2 hg hn m (j + 1) σ4 (by omega) ?_ (fun σ2 ha2 => h σ2 (a4.tr ha2))
      rw [e4, pu_up_same, pu_up_same, pu_un (show Int32.toNatClampNeg 5 ≠ 8 + 4 * j + 2 by rw [show Int32.toNatClampNeg 5 = 5 from rfl]; omega), e, hv]
      rfl
    by_cases z : pu_itE g j 3 < pu_itE g j 2
    · rw [if_pos z]
      refine ⟨fun z0 => ?_, fin _ ?_⟩
      · have p1 := hE.2.2.1.1
        rw [z0] at p1
        exact absurd p1 (by decide)
      · unfold pu_eat
        rw [if_pos z]
    · rw [if_neg z]
      refine fin _ ?_
      unfold pu_eat
      rw [if_neg z]
theorem p6_day {k : ovSt → Prop} {σ : ovSt} (hg : pu_WG (σ 75)) (h : ∀ σ', pu_ag (fun i => i = 75) σ σ' → σ' 75 = pu_day (σ 75) → k σ') : F_X6_day σ k := by
  unfold F_X6_day
  exact ⟨pu_n (σ 75) + 1, p6_day2 hg rfl (pu_n (σ 75)) 0 σ (by omega) rfl h⟩
theorem p6_goesOn_loop {k : ovSt → Prop} {g : Nat → Int32} (hg : pu_WG g) {N : Nat} (hN : N < 2 ^ 31) : ∀ (m j : Nat) (σ : ovSt), j + m = N → σ 75 = pu_dn g j → (∀ σ', pu_ag (fun i => i = 75) σ σ' → σ' 75 = pu_dn g N → k σ') → F_X6_goesOn_2 k (m + 1) (nI N) (nI j) σ
  | 0, j, σ, hj, e, h => by
    have ej : j = N := by omega
    subst ej
    unfold F_X6_goesOn_2
    rw [if_pos (Int32.le_refl _)]
    exact h σ (pu_ag.rf _ σ) e
  | m + 1, j, σ, hj, e, h => by
    unfold F_X6_goesOn_2
    rw [if_neg (by rw [nI_leI (by omega) (by omega)]; omega)]
    refine p6_day (by rw [e]; exact pu_WG_dn hg j) (fun σ' ha e' => ?_)
    rw [← nI_succ]
    exact p6_goesOn_loop hg hN m (j + 1) σ' (by omega) (by rw [e', e]; rfl) (fun σ2 ha2 => h σ2 (ha.tr ha2))
theorem p6_goesOn {k : ovSt → Prop} {σ : ovSt} (hg : pu_WG (σ 75)) {N : Nat} (hN : N < 2 ^ 31) (h : ∀ σ', pu_ag (fun i => i = 75) σ σ' → σ' 75 = pu_dn (σ 75) N → k σ') : F_X6_goesOn (nI N) σ k := by
  unfold F_X6_goesOn
  exact ⟨N + 1, p6_goesOn_loop hg hN N 0 σ (by omega) rfl h⟩
/-- the first m cells of b over a -/
def pu_ov (a b : Nat → Int32) (m : Nat) : Nat → Int32 := fun c => if c < m then b c else a c
theorem pu_ov_up (a b : Nat → Int32) (m : Nat) : upd (pu_ov a b m) m (b m) = pu_ov a b (m + 1) := by
  funext c
  unfold pu_ov
  by_cases z : c = m
  · rw [z, pu_ue, if_pos (by omega)]
  · rw [pu_un z]
    by_cases z2 : c < m
    · rw [if_pos z2, if_pos (by omega)]
    · rw [if_neg z2, if_neg (by omega)]
theorem pu_ov0 (a b : Nat → Int32) : pu_ov a b 0 = a := by
  funext c
  unfold pu_ov
  rw [if_neg (by omega)]
theorem p6_thinks_loop {k : ovSt → Prop} {f : Nat → Int32} : ∀ (m j : Nat) (σ : ovSt), j + m = 40 → σ 78 = pu_ov f (σ 75) j → (∀ σ', pu_ag (fun i => i = 78) σ σ' → σ' 78 = pu_ov f (σ 75) 40 → k σ') → F_X6_thinks_2 k (m + 1) (nI j) σ
  | 0, j, σ, hj, e, h => by
    have ej : j = 40 := by omega
    subst ej
    unfold F_X6_thinks_2
    rw [if_pos (by decide)]
    exact h σ (pu_ag.rf _ σ) e
  | m + 1, j, σ, hj, e, h => by
    unfold F_X6_thinks_2
    rw [if_neg (by rw [show (40 : Int32) = nI 40 from rfl, nI_leI (by omega) (by omega)]; omega)]
    refine ⟨vp_in_nI (by omega) (by omega), vp_in_nI (by omega) (by omega), ?_⟩
    rw [pu_cl (by omega), ← nI_succ]
    intro σ3 e3
    have a3 : pu_ag (fun i => i = 78) σ σ3 := by rw [e3]; exact pu_ag.up1 rfl
    have q : σ3 75 = σ 75 := a3 75 (by decide)
    refine p6_thinks_loop (f := f) m (j + 1) σ3 (by omega) ?_ (fun σ2 ha2 => ?_)
    · rw [q, e3, pu_up_same, e, pu_ov_up]
    · rw [q]; exact h σ2 (a3.tr ha2)
theorem p6_thinks {k : ovSt → Prop} {σ : ovSt} (h : ∀ σ', pu_ag (fun i => i = 78) σ σ' → σ' 78 = pu_ov (σ 78) (σ 75) 40 → k σ') : F_X6_thinks σ k := by
  unfold F_X6_thinks
  exact ⟨41, p6_thinks_loop (f := σ 78) 40 0 σ (by omega) (pu_ov0 _ _).symm h⟩
theorem p6_putsBack_loop {k : ovSt → Prop} {f : Nat → Int32} : ∀ (m j : Nat) (σ : ovSt), j + m = 40 → σ 75 = pu_ov f (σ 78) j → (∀ σ', pu_ag (fun i => i = 75) σ σ' → σ' 75 = pu_ov f (σ 78) 40 → k σ') → F_X6_putsBack_2 k (m + 1) (nI j) σ
  | 0, j, σ, hj, e, h => by
    have ej : j = 40 := by omega
    subst ej
    unfold F_X6_putsBack_2
    rw [if_pos (by decide)]
    exact h σ (pu_ag.rf _ σ) e
  | m + 1, j, σ, hj, e, h => by
    unfold F_X6_putsBack_2
    rw [if_neg (by rw [show (40 : Int32) = nI 40 from rfl, nI_leI (by omega) (by omega)]; omega)]
    refine ⟨vp_in_nI (by omega) (by omega), vp_in_nI (by omega) (by omega), ?_⟩
    rw [pu_cl (by omega), ← nI_succ]
    intro σ3 e3
    have a3 : pu_ag (fun i => i = 75) σ σ3 := by rw [e3]; exact pu_ag.up1 rfl
    have q : σ3 78 = σ 78 := a3 78 (by decide)
    refine p6_putsBack_loop (f := f) m (j + 1) σ3 (by omega) ?_ (fun σ2 ha2 => ?_)
    · rw [q, e3, pu_up_same, e, pu_ov_up]
    · rw [q]; exact h σ2 (a3.tr ha2)
theorem p6_putsBack {k : ovSt → Prop} {σ : ovSt} (h : ∀ σ', pu_ag (fun i => i = 75) σ σ' → σ' 75 = pu_ov (σ 75) (σ 78) 40 → k σ') : F_X6_putsBack σ k := by
  unfold F_X6_putsBack
  exact ⟨41, p6_putsBack_loop (f := σ 75) 40 0 σ (by omega) (pu_ov0 _ _).symm h⟩
/-- what was thought is put back -/
theorem pu_ov_back {g g' f : Nat → Int32} (h : pu_tx g g') : pu_ov g' (pu_ov f g 40) 40 = g := by
  funext c
  unfold pu_ov
  by_cases z : c < 40
  · rw [if_pos z, if_pos z]
  · rw [if_neg z]; exact h.2 c (by omega)
theorem p6_copyAll_loop {k : ovSt → Prop} {a0 a1 : Nat} (hne : a0 ≠ a1) {f : Nat → Int32} : ∀ (m j : Nat) (σ : ovSt), j + m = 1412 → σ a1 = pu_ov f (σ a0) j → (∀ σ', pu_ag (fun i => i = a1) σ σ' → σ' a1 = pu_ov f (σ a0) 1412 → k σ') → F_X6_copyAll_2 a0 a1 k (m + 1) (nI j) σ
  | 0, j, σ, hj, e, h => by
    have ej : j = 1412 := by omega
    subst ej
    unfold F_X6_copyAll_2
    rw [if_pos (by decide)]
    exact h σ (pu_ag.rf _ σ) e
  | m + 1, j, σ, hj, e, h => by
    unfold F_X6_copyAll_2
    rw [if_neg (by rw [show (1412 : Int32) = nI 1412 from rfl, nI_leI (by omega) (by omega)]; omega)]
    refine ⟨vp_in_nI (by omega) (by omega), ?_⟩
    rw [pu_cl (by omega), ← nI_succ]
    intro σ3 e3
    have a3 : pu_ag (fun i => i = a1) σ σ3 := by rw [e3]; exact pu_ag.up1 rfl
    have q : σ3 a0 = σ a0 := a3 a0 hne
    refine p6_copyAll_loop hne (f := f) m (j + 1) σ3 (by omega) ?_ (fun σ2 ha2 => ?_)
    · rw [q, e3, pu_up_same, e, pu_ov_up]
    · rw [q]; exact h σ2 (a3.tr ha2)
