/-! ===== days and sums, on both sides ===== -/
theorem pu_RS.up9 {σ : ovSt} {s : Nat} {g : Nat → Int32} (h : pu_RS σ s g) (v : Int32) : pu_RS (ov_up σ s 9 v) s (upd g 4 v) := by
  obtain ⟨⟨y0, y1, y2, y3, y4, y5, y6, y7⟩, r2, r3⟩ := h
  refine ⟨?_, fun t ht => ?_, fun key hk => ?_⟩
  · rw [pu_up_same]
    refine ⟨?_, ?_, ?_, ?_, ?_, ?_, ?_, ?_⟩
    · rw [pu_un (by omega), pu_un (by omega), y0]
    · rw [pu_un (by omega), pu_un (by omega), y1]
    · rw [pu_un (by omega), pu_un (by omega), y2]
    · rw [pu_un (by omega), pu_un (by omega), y3]
    · rw [pu_ue, pu_ue]
    · rw [pu_un (by omega), pu_un (by omega), y5]
    · rw [pu_un (by omega), pu_un (by omega), y6]
    · rw [pu_un (by omega), pu_un (by omega), y7]
  · rw [pu_up_ne (by omega), pu_up_ne (by omega), pu_up_ne (by omega), pu_up_ne (by omega), pu_un (by omega), pu_un (by omega), pu_un (by omega), pu_un (by omega)]
    exact r2 t ht
  · rw [pu_up_ne (by omega), pu_tx_law (pu_tx.up (pu_tx.rf g) (by omega) (by omega))]
    exact r3 key hk
theorem p3_passDay_loop {s : Nat} (hs : ov_stk s) {k : ovSt → Prop} {g : Nat → Int32} (hg : pu_WG g) {n : Nat} (hn : pu_n g = n) : ∀ (m j : Nat) (σ : ovSt), j + m = n → pu_RS σ s (pu_itD g j) → (∀ σ', pu_ag (pu_stX s) σ σ' → pu_RS σ' s (pu_day g) → k σ') → F_X3_passDay_2 s k (m + 1) (nI j) σ
  | 0, j, σ, hj, hR, h => by
    have hb := pu_WG_n hg
    rw [hn] at hb
    have ej : j = n := by omega
    subst ej
    unfold F_X3_passDay_2
    rw [hR.1.2.1, pu_itD_1, hb.2, if_pos (Int32.le_refl _)]
    intro σ1 e1
    refine h σ1 (fun i hi => ?_) ?_
    · unfold pu_stX at hi
      rw [e1, pu_up_ne (by omega)]
    · rw [e1, hR.1.2.2.2.2.1]
      unfold pu_day
      rw [hn]
      exact hR.up9 _
  | m + 1, j, σ, hj, hR, h => by
    have hb := pu_WG_n hg
    rw [hn] at hb
    unfold F_X3_passDay_2
    rw [hR.1.2.1, pu_itD_1, hb.2, if_neg (by rw [nI_leI (by omega) (by omega)]; omega)]
    refine p3_passDayOf hs (by omega) (pu_WG_itD hg j (by omega)) hR (fun σ' ha hR' => ?_)
    rw [← nI_succ]
    exact p3_passDay_loop hs hg hn m (j + 1) σ' (by omega) hR' (fun σ2 ha2 => h σ2 (ha.tr ha2))
theorem p3_passDay {s : Nat} (hs : ov_stk s) {k : ovSt → Prop} {g : Nat → Int32} (hg : pu_WG g) {σ : ovSt} (hR : pu_RS σ s g) (h : ∀ σ', pu_ag (pu_stX s) σ σ' → pu_RS σ' s (pu_day g) → k σ') : F_X3_passDay s σ k := by
  unfold F_X3_passDay
  exact ⟨hs, pu_n g + 1, p3_passDay_loop hs hg rfl (pu_n g) 0 σ (by omega) hR h⟩
def pu_dn (g : Nat → Int32) : Nat → Nat → Int32
  | 0 => g
  | n + 1 => pu_day (pu_dn g n)
theorem pu_WG_dn {g : Nat → Int32} (hg : pu_WG g) : ∀ (n : Nat), pu_WG (pu_dn g n)
  | 0 => hg
  | n + 1 => pu_WG_day (pu_WG_dn hg n)
theorem pu_tx_dn {g : Nat → Int32} (hg : pu_WG g) : ∀ (n : Nat), pu_tx g (pu_dn g n)
  | 0 => pu_tx.rf g
  | n + 1 => (pu_tx_dn hg n).tr (pu_tx_day (pu_WG_dn hg n))
theorem pu_n_dn {g : Nat → Int32} : ∀ (n : Nat), pu_n (pu_dn g n) = pu_n g
  | 0 => rfl
  | n + 1 => pu_n_day.trans (pu_n_dn n)
theorem p3_passDays_loop {s : Nat} (hs : ov_stk s) {k : ovSt → Prop} {g : Nat → Int32} (hg : pu_WG g) {N : Nat} (hN : N < 2 ^ 31) : ∀ (m j : Nat) (σ : ovSt), j + m = N → pu_RS σ s (pu_dn g j) → (∀ σ', pu_ag (pu_stX s) σ σ' → pu_RS σ' s (pu_dn g N) → k σ') → F_X3_passDays_2 s k (m + 1) (nI N) (nI j) σ
  | 0, j, σ, hj, hR, h => by
    have ej : j = N := by omega
    subst ej
    unfold F_X3_passDays_2
    rw [if_pos (Int32.le_refl _)]
    exact h σ (pu_ag.rf _ σ) hR
  | m + 1, j, σ, hj, hR, h => by
    unfold F_X3_passDays_2
    rw [if_neg (by rw [nI_leI (by omega) (by omega)]; omega)]
    refine p3_passDay hs (pu_WG_dn hg j) hR (fun σ' ha hR' => ?_)
    rw [← nI_succ]
    exact p3_passDays_loop hs hg hN m (j + 1) σ' (by omega) hR' (fun σ2 ha2 => h σ2 (ha.tr ha2))
theorem p3_passDays {s : Nat} (hs : ov_stk s) {k : ovSt → Prop} {g : Nat → Int32} (hg : pu_WG g) {N : Nat} (hN : N < 2 ^ 31) {σ : ovSt} (hR : pu_RS σ s g) (h : ∀ σ', pu_ag (pu_stX s) σ σ' → pu_RS σ' s (pu_dn g N) → k σ') : F_X3_passDays s (nI N) σ k := by
  unfold F_X3_passDays
  exact ⟨hs, N + 1, p3_passDays_loop hs hg hN N 0 σ (by omega) hR h⟩
/-- one thing's days -/
def pu_dt (g : Nat → Int32) (t : Nat) : Nat → Nat → Int32
  | 0 => g
  | n + 1 => pu_W1 (pu_E1 (pu_dt g t n) t) t
theorem pu_WG_dt {g : Nat → Int32} (hg : pu_WG g) {t : Nat} (ht : t < 8) : ∀ (n : Nat), pu_WG (pu_dt g t n)
  | 0 => hg
  | n + 1 => pu_WG_W1 (pu_WG_E1 (pu_WG_dt hg ht n) ht) ht
theorem pu_tx_dt {g : Nat → Int32} {t : Nat} (ht : t < 8) : ∀ (n : Nat), pu_tx g (pu_dt g t n)
  | 0 => pu_tx.rf g
  | n + 1 => ((pu_tx_dt ht n).tr (pu_tx_E1 _ ht)).tr (pu_tx_W1 _ ht)
theorem p3_passDaysOf_loop {s : Nat} (hs : ov_stk s) {k : ovSt → Prop} {t : Nat} (ht : t < 8) {g : Nat → Int32} (hg : pu_WG g) {N : Nat} (hN : N < 2 ^ 31) : ∀ (m j : Nat) (σ : ovSt), j + m = N → pu_RS σ s (pu_dt g t j) → (∀ σ', pu_ag (pu_stX s) σ σ' → pu_RS σ' s (pu_dt g t N) → k σ') → F_X3_passDaysOf_2 s k (m + 1) (nI t) (nI N) (nI j) σ
  | 0, j, σ, hj, hR, h => by
    have ej : j = N := by omega
    subst ej
    unfold F_X3_passDaysOf_2
    rw [if_pos (Int32.le_refl _)]
    exact h σ (pu_ag.rf _ σ) hR
  | m + 1, j, σ, hj, hR, h => by
    unfold F_X3_passDaysOf_2
    rw [if_neg (by rw [nI_leI (by omega) (by omega)]; omega)]
    refine p3_passDayOf hs ht (pu_WG_dt hg ht j) hR (fun σ' ha hR' => ?_)
    rw [← nI_succ]
    exact p3_passDaysOf_loop hs ht hg hN m (j + 1) σ' (by omega) hR' (fun σ2 ha2 => h σ2 (ha.tr ha2))
theorem p3_passDaysOf {s : Nat} (hs : ov_stk s) {k : ovSt → Prop} {t : Nat} (ht : t < 8) {g : Nat → Int32} (hg : pu_WG g) {N : Nat} (hN : N < 2 ^ 31) {σ : ovSt} (hR : pu_RS σ s g) (h : ∀ σ', pu_ag (pu_stX s) σ σ' → pu_RS σ' s (pu_dt g t N) → k σ') : F_X3_passDaysOf s (nI t) (nI N) σ k := by
  unfold F_X3_passDaysOf
  exact ⟨hs, N + 1, p3_passDaysOf_loop hs ht hg hN N 0 σ (by omega) hR h⟩
/-- sums -/
def pu_sum (f : Nat → Int32) : Nat → Int32
  | 0 => 0
  | n + 1 => pu_sum f n + f n
def pu_tall (g : Nat → Int32) : Int32 := pu_sum (pu_taste g) (pu_n g)
def pu_aall (g : Nat → Int32) : Int32 := pu_sum (fun t => g (8 + 4 * t + 2)) (pu_n g)
theorem pu_stk_rng {s : Nat} (hs : ov_stk s) : 21 ≤ s ∧ s + 5 ≤ 44 := by
  rcases hs with h | h | h | h <;> omega
theorem p3_tasteOfAll_loop {s : Nat} (hs : ov_stk s) {k : Int32 → ovSt → Prop} {g : Nat → Int32} (hg : pu_WG g) {n : Nat} (hn : pu_n g = n) : ∀ (m j : Nat) (σ : ovSt), j + m = n → pu_RS σ s g → pu_LS σ g → (∀ σ', pu_ag (fun i => i = 20) σ σ' → k (pu_tall g) σ') → F_X3_tasteOfAll_4 s k (m + 1) (pu_sum (pu_taste g) j) (nI j) σ
  | 0, j, σ, hj, hR, hL, h => by
    have hb := pu_WG_n hg
    rw [hn] at hb
    have ej : j = n := by omega
    subst ej
    unfold F_X3_tasteOfAll_4
    rw [hR.1.2.1, hb.2, if_pos (Int32.le_refl _)]
    have h0 := h σ (pu_ag.rf _ σ)
    unfold pu_tall at h0
    rw [hn] at h0
    exact h0
  | m + 1, j, σ, hj, hR, hL, h => by
    have hb := pu_WG_n hg
    rw [hn] at hb
    have hr := pu_stk_rng hs
    unfold F_X3_tasteOfAll_4
    rw [hR.1.2.1, hb.2, if_neg (by rw [nI_leI (by omega) (by omega)]; omega)]
    refine p3_tasteOf hs (by omega) hg hR hL (fun σ' ha => ?_)
    intro v hv
    subst hv
    rw [← nI_succ]
    exact p3_tasteOfAll_loop hs hg hn m (j + 1) σ' (by omega) (hR.ag (fun i h1 h2 => ha i (by omega))) (hL.ag hg (fun i h1 h2 => ha i (by omega))) (fun σ2 ha2 => h σ2 (ha.tr ha2))
theorem p3_tasteOfAll {s : Nat} (hs : ov_stk s) {k : Int32 → ovSt → Prop} {g : Nat → Int32} (hg : pu_WG g) {σ : ovSt} (hR : pu_RS σ s g) (hL : pu_LS σ g) (h : ∀ σ', pu_ag (fun i => i = 20) σ σ' → k (pu_tall g) σ') : F_X3_tasteOfAll s σ k := by
  unfold F_X3_tasteOfAll
  exact ⟨hs, pu_n g + 1, p3_tasteOfAll_loop hs hg rfl (pu_n g) 0 σ (by omega) hR hL h⟩
theorem p3_amountOfAll_loop {s : Nat} {k : Int32 → ovSt → Prop} {g : Nat → Int32} (hg : pu_WG g) {n : Nat} (hn : pu_n g = n) {σ : ovSt} (hR : pu_RS σ s g) (h : k (pu_aall g) σ) : ∀ (m j : Nat), j + m = n → F_X3_amountOfAll_4 s k (m + 1) (pu_sum (fun t => g (8 + 4 * t + 2)) j) (nI j) σ
  | 0, j, hj => by
    have hb := pu_WG_n hg
    rw [hn] at hb
    have ej : j = n := by omega
    subst ej
    unfold F_X3_amountOfAll_4
    rw [hR.1.2.1, hb.2, if_pos (Int32.le_refl _)]
    unfold pu_aall at h
    rw [hn] at h
    exact h
  | m + 1, j, hj => by
    have hb := pu_WG_n hg
    rw [hn] at hb
    unfold F_X3_amountOfAll_4
    rw [hR.1.2.1, hb.2, if_neg (by rw [nI_leI (by omega) (by omega)]; omega)]
    refine ⟨vp_in_nI (by omega) (by omega), ?_⟩
    rw [pu_cl (by omega), (hR.2.1 j (by omega)).2.2.1]
    intro v hv
    subst hv
    rw [← nI_succ]
    exact p3_amountOfAll_loop hg hn hR h m (j + 1) (by omega)
theorem p3_amountOfAll {s : Nat} (hs : ov_stk s) {k : Int32 → ovSt → Prop} {g : Nat → Int32} (hg : pu_WG g) {σ : ovSt} (hR : pu_RS σ s g) (h : k (pu_aall g) σ) : F_X3_amountOfAll s σ k := by
  unfold F_X3_amountOfAll
  exact ⟨hs, pu_n g + 1, p3_amountOfAll_loop hg rfl hR h (pu_n g) 0 (by omega)⟩

/-! ===== the model's ===== -/
theorem p6_tasteAll_loop {k : Int32 → ovSt → Prop} {g : Nat → Int32} (hg : pu_WG g) {n : Nat} (hn : pu_n g = n) : ∀ (m j : Nat) (σ : ovSt), j + m = n → σ 75 = g → (∀ σ', pu_ag (fun i => i = 87 ∨ i = 88) σ σ' → k (pu_tall g) σ') → F_X6_tasteAll_4 k (m + 1) (pu_sum (pu_taste g) j) (nI j) σ
  | 0, j, σ, hj, e, h => by
    have hb := pu_WG_n hg
    rw [hn] at hb
    have ej : j = n := by omega
    subst ej
    unfold F_X6_tasteAll_4
    refine ⟨vp_in_nI (n := 1) (by decide) (by decide), ?_⟩
    rw [e, show g (Int32.toNatClampNeg 1) = nI j from hb.2, if_pos (Int32.le_refl _)]
    have h0 := h σ (pu_ag.rf _ σ)
    unfold pu_tall at h0
    rw [hn] at h0
    exact h0
  | m + 1, j, σ, hj, e, h => by
    have hb := pu_WG_n hg
    rw [hn] at hb
    unfold F_X6_tasteAll_4
    refine ⟨vp_in_nI (n := 1) (by decide) (by decide), ?_⟩
    rw [show σ 75 (Int32.toNatClampNeg 1) = nI n from by rw [e]; exact hb.2, if_neg (by rw [nI_leI (by omega) (by omega)]; omega)]
    refine p6_tasteOf (t := j) (by rw [e]; exact hg) (by omega) (fun σ' ha => ?_)
    intro v hv
    subst hv
    rw [← nI_succ, e]
    exact p6_tasteAll_loop hg hn m (j + 1) σ' (by omega) ((ha 75 (by decide)).trans e) (fun σ2 ha2 => h σ2 (ha.tr ha2))
theorem p6_tasteAll {k : Int32 → ovSt → Prop} {σ : ovSt} (hg : pu_WG (σ 75)) (h : ∀ σ', pu_ag (fun i => i = 87 ∨ i = 88) σ σ' → k (pu_tall (σ 75)) σ') : F_X6_tasteAll σ k := by
  unfold F_X6_tasteAll
  exact ⟨pu_n (σ 75) + 1, p6_tasteAll_loop hg rfl (pu_n (σ 75)) 0 σ (by omega) rfl h⟩
theorem p6_amountAll_loop {k : Int32 → ovSt → Prop} {σ : ovSt} (hg : pu_WG (σ 75)) {n : Nat} (hn : pu_n (σ 75) = n) (h : k (pu_aall (σ 75)) σ) : ∀ (m j : Nat), j + m = n → F_X6_amountAll_4 k (m + 1) (pu_sum (fun t => σ 75 (8 + 4 * t + 2)) j) (nI j) σ
  | 0, j, hj => by
    have hb := pu_WG_n hg
    rw [hn] at hb
    have ej : j = n := by omega
    subst ej
    unfold F_X6_amountAll_4
    refine ⟨vp_in_nI (n := 1) (by decide) (by decide), ?_⟩
    rw [show σ 75 (Int32.toNatClampNeg 1) = nI j from hb.2, if_pos (Int32.le_refl _)]
    unfold pu_aall at h
    rw [hn] at h
    exact h
  | m + 1, j, hj => by
    have hb := pu_WG_n hg
    rw [hn] at hb
    unfold F_X6_amountAll_4
    refine ⟨vp_in_nI (n := 1) (by decide) (by decide), ?_⟩
    rw [show σ 75 (Int32.toNatClampNeg 1) = nI n from hb.2, if_neg (by rw [nI_leI (by omega) (by omega)]; omega), e6_of2 (by omega)]
    intro v hv
    subst hv
    rw [← nI_succ]
    exact p6_amountAll_loop hg hn h m (j + 1) (by omega)
theorem p6_amountAll {k : Int32 → ovSt → Prop} {σ : ovSt} (hg : pu_WG (σ 75)) (h : k (pu_aall (σ 75)) σ) : F_X6_amountAll σ k := by
  unfold F_X6_amountAll
  exact ⟨pu_n (σ 75) + 1, p6_amountAll_loop hg rfl h (pu_n (σ 75)) 0 (by omega)⟩
