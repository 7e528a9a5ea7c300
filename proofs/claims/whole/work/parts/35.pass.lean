/-! ===== a day, on both sides ===== -/
def pu_stX (s : Nat) (i : Nat) : Prop := s ≤ i ∧ i ≤ s + 5
theorem pu_sub_le {a : Int32} (h : pu_in a 0 99999) : (a ≤ 0) = (a = 0) := by
  have e : (0 : Int32).toInt = 0 := rfl
  have h1 := h.1
  exact propext ⟨fun z => by rw [fa_le] at z; rw [fa_eq]; omega, fun z => by rw [z]; exact Int32.le_refl _⟩
theorem p3_passDayOf {s : Nat} (hs : ov_stk s) {t : Nat} (ht : t < 8) {g : Nat → Int32} (hg : pu_WG g) {σ : ovSt} (hR : pu_RS σ s g) {k : ovSt → Prop} (h : ∀ σ', pu_ag (pu_stX s) σ σ' → pu_RS σ' s (pu_W1 (pu_E1 g t) t) → k σ') : F_X3_passDayOf s (nI t) σ k := by
  have key : F_X3_passDayOf_42 s k (nI t) (pu_eat g t) σ := by
    unfold F_X3_passDayOf_42
    refine ⟨vp_in_nI ht (by omega), ?_⟩
    rw [pu_cl (by omega)]
    intro σ4 e4 σ5 e5
    have hE := pu_WG_E1 hg ht
    obtain ⟨r1, r2, r3⟩ := hR
    obtain ⟨q1, q2, q3, q4⟩ := r2 t ht
    have x3 : σ5 (s + 3) t = pu_E1 g t (8 + 4 * t + 2) := by
      rw [e5, pu_up_ne (by omega), e4, pu_up_same, pu_ue, q3, pu_E1_2]
    have x1 : σ5 (s + 1) t = g (8 + 4 * t) := by
      rw [e5, pu_up_ne (by omega), e4, pu_up_ne (by omega), q1]
    have hin := (hE.2.2.2.2 t ht).2.2.1
    rw [e3_wearsOf hs ht (by rw [x3]; exact hin)]
    have ew : pu_wears (σ5 (s + 1) t) (σ5 (s + 3) t) = pu_wr (pu_E1 g t) t := by
      unfold pu_wr
      rw [x1, x3, pu_E1_at (c := 8 + 4 * t) (by omega) (by omega)]
    rw [ew]
    intro σ8 e8 σ9 e9
    have x9 : σ9 (s + 3) t = pu_W1 (pu_E1 g t) t (8 + 4 * t + 2) := by
      rw [e9, pu_up_ne (by omega), e8, pu_up_same, pu_ue, x3, pu_W1_2]
    have x94 : σ9 (s + 4) t = g (8 + 4 * t + 3) := by
      rw [e9, pu_up_ne (by omega), e8, pu_up_ne (by omega), e5, pu_up_ne (by omega), e4, pu_up_ne (by omega), q4]
    have hW := pu_WG_W1 hE ht
    have hin2 := (hW.2.2.2.2 t ht).2.2.1
    have fin : ∀ v, v = pu_W1 (pu_E1 g t) t (8 + 4 * t + 3) → F_X3_passDayOf_120 s k v (nI t) σ9 := by
      intro v hv
      unfold F_X3_passDayOf_120
      refine ⟨vp_in_nI ht (by omega), ?_⟩
      rw [pu_cl (by omega)]
      intro σ10 e10
      refine h σ10 (fun i hi => ?_) ⟨?_, fun i hi => ?_, fun key hk => ?_⟩
      · unfold pu_stX at hi
        rw [e10, pu_up_ne (by omega), e9, pu_up_ne (by omega), e8, pu_up_ne (by omega), e5, pu_up_ne (by omega), e4, pu_up_ne (by omega)]
      · have b10 : σ10 s = upd (upd (σ s) 10 (σ s 10 + pu_eat g t)) 11 (σ s 11 + pu_wr (pu_E1 g t) t) := by
          rw [e10, pu_up_ne (by omega), e9, pu_up_same, e8, pu_up_ne (by omega), e5, pu_up_same, e4, pu_up_ne (by omega), pu_un (by omega)]
        obtain ⟨y0, y1, y2, y3, y4, y5, y6, y7⟩ := r1
        rw [b10]
        refine ⟨?_, ?_, ?_, ?_, ?_, ?_, ?_, ?_⟩
        · rw [pu_un (by omega), pu_un (by omega), pu_W1_at (by omega) (by omega) (by omega), pu_E1_at (by omega) (by omega), y0]
        · rw [pu_un (by omega), pu_un (by omega), pu_W1_at (by omega) (by omega) (by omega), pu_E1_at (by omega) (by omega), y1]
        · rw [pu_un (by omega), pu_un (by omega), pu_W1_at (by omega) (by omega) (by omega), pu_E1_at (by omega) (by omega), y2]
        · rw [pu_un (by omega), pu_un (by omega), pu_W1_at (by omega) (by omega) (by omega), pu_E1_at (by omega) (by omega), y3]
        · rw [pu_un (by omega), pu_un (by omega), pu_W1_at (by omega) (by omega) (by omega), pu_E1_at (by omega) (by omega), y4]
        · rw [pu_un (by omega), pu_ue, pu_W1_at (by omega) (by omega) (by omega), pu_E1_5, y5]
        · rw [pu_ue, pu_W1_6, pu_E1_at (by omega) (by omega), y6]
        · rw [pu_un (by omega), pu_un (by omega), pu_W1_at (by omega) (by omega) (by omega), pu_E1_at (by omega) (by omega), y7]
      · obtain ⟨z1, z2, z3, z4⟩ := r2 i hi
        refine ⟨?_, ?_, ?_, ?_⟩
        · rw [e10, pu_up_ne (by omega), e9, pu_up_ne (by omega), e8, pu_up_ne (by omega), e5, pu_up_ne (by omega), e4, pu_up_ne (by omega), pu_W1_at (by omega) (by omega) (by omega), pu_E1_at (by omega) (by omega), z1]
        · rw [e10, pu_up_ne (by omega), e9, pu_up_ne (by omega), e8, pu_up_ne (by omega), e5, pu_up_ne (by omega), e4, pu_up_ne (by omega), pu_W1_at (by omega) (by omega) (by omega), pu_E1_at (by omega) (by omega), z2]
        · by_cases zz : i = t
          · rw [zz, e10, pu_up_ne (by omega), x9]
          · rw [e10, pu_up_ne (by omega), e9, pu_up_ne (by omega), e8, pu_up_same, pu_un zz, e5, pu_up_ne (by omega), e4, pu_up_same, pu_un zz, pu_W1_at (by omega) (by omega) (by omega), pu_E1_at (by omega) (by omega), z3]
        · by_cases zz : i = t
          · rw [zz, e10, pu_up_same, pu_ue, hv]
          · rw [e10, pu_up_same, pu_un zz, e9, pu_up_ne (by omega), e8, pu_up_ne (by omega), e5, pu_up_ne (by omega), e4, pu_up_ne (by omega), pu_W1_at (by omega) (by omega) (by omega), pu_E1_at (by omega) (by omega), z4]
      · rw [e10, pu_up_ne (by omega), e9, pu_up_ne (by omega), e8, pu_up_ne (by omega), e5, pu_up_ne (by omega), e4, pu_up_ne (by omega), r3 key hk, pu_tx_law (pu_tx_W1 _ ht), pu_tx_law (pu_tx_E1 _ ht)]
    rw [x9, x94]
    have ha := (hg.2.2.2.2 t ht).2.2.2
    have hadd : 0 ≤ (g (8 + 4 * t + 3) + 1).toInt := by
      have h1 := ha.1
      have h2 := ha.2
      have e1 : (1 : Int32).toInt = 1 := rfl
      rw [fb_addI (by omega) (by omega)]
      omega
    have e3 : pu_W1 (pu_E1 g t) t (8 + 4 * t + 3) = if pu_W1 (pu_E1 g t) t (8 + 4 * t + 2) = 0 then 0 else pu_within (g (8 + 4 * t + 3) + 1) 0 9999 := by
      rw [pu_W1_3, pu_W1_2]
      unfold pu_age1
      rw [pu_E1_at (c := 8 + 4 * t + 3) (by omega) (by omega)]
    by_cases z : pu_W1 (pu_E1 g t) t (8 + 4 * t + 2) = 0
    · rw [if_pos (by rw [pu_sub_le hin2]; exact z)]
      exact fin 0 (by rw [e3, if_pos z])
    · rw [if_neg (by rw [pu_sub_le hin2]; exact z)]
      exact fin _ (by rw [e3, if_neg z, pu_min_within hadd])
  unfold F_X3_passDayOf
  refine ⟨hs, vp_in_nI ht (by omega), ?_⟩
  rw [pu_cl (by omega), (hR.2.1 t ht).2.2.1, hR.1.2.2.1, hR.1.2.2.2.1]
  intro v hv
  subst hv
  have p1 := hg.2.2.1.1
  rw [if_neg (by rw [fa_le]; have e : (0 : Int32).toInt = 0 := rfl; omega)]
  unfold pu_eat at key
  by_cases z : g 3 < g 2
  · rw [if_pos z] at key
    rw [if_neg (by rw [fa_le]; rw [fa_lt] at z; omega)]
    refine ⟨fun z0 => ?_, fun v hv => ?_⟩
    · rw [z0] at p1; exact absurd p1 (by decide)
    · rw [hv]; exact key
  · rw [if_neg z] at key
    rw [if_pos (by rw [fa_le]; rw [fa_lt] at z; omega)]
    exact key
theorem pu_WG_itD {g : Nat → Int32} (hg : pu_WG g) : ∀ (n : Nat), n ≤ 8 → pu_WG (pu_itD g n)
  | 0, _ => hg
  | n + 1, h => pu_WG_W1 (pu_WG_E1 (pu_WG_itD hg n (by omega)) (by omega)) (by omega)
theorem pu_WG_itE {g : Nat → Int32} (hg : pu_WG g) : ∀ (n : Nat), n ≤ 8 → pu_WG (pu_itE g n)
  | 0, _ => hg
  | n + 1, h => pu_WG_E1 (pu_WG_itE hg n (by omega)) (by omega)
theorem pu_WG_itW {g : Nat → Int32} (hg : pu_WG g) : ∀ (n : Nat), n ≤ 8 → pu_WG (pu_itW g n)
  | 0, _ => hg
  | n + 1, h => pu_WG_W1 (pu_WG_itW hg n (by omega)) (by omega)
theorem pu_itD_1 (g : Nat → Int32) : ∀ (n : Nat), pu_itD g n 1 = g 1
  | 0 => rfl
  | n + 1 => by
    show pu_W1 (pu_E1 (pu_itD g n) n) n 1 = g 1
    rw [pu_W1_at (by omega) (by omega) (by omega), pu_E1_at (by omega) (by omega), pu_itD_1 g n]
theorem pu_itE_1 (g : Nat → Int32) : ∀ (n : Nat), pu_itE g n 1 = g 1
  | 0 => rfl
  | n + 1 => by
    show pu_E1 (pu_itE g n) n 1 = g 1
    rw [pu_E1_at (by omega) (by omega), pu_itE_1 g n]
theorem pu_itW_1 (g : Nat → Int32) : ∀ (n : Nat), pu_itW g n 1 = g 1
  | 0 => rfl
  | n + 1 => by
    show pu_W1 (pu_itW g n) n 1 = g 1
    rw [pu_W1_at (by omega) (by omega) (by omega), pu_itW_1 g n]
theorem pu_tx_itD (g : Nat → Int32) : ∀ (n : Nat), n ≤ 8 → pu_tx g (pu_itD g n)
  | 0, _ => pu_tx.rf g
  | n + 1, h => ((pu_tx_itD g n (by omega)).tr (pu_tx_E1 _ (by omega))).tr (pu_tx_W1 _ (by omega))
theorem pu_WG_4 {g : Nat → Int32} (hg : pu_WG g) (v : Int32) : pu_WG (upd g 4 v) :=
  pu_WG.mk hg (pu_tx.up (pu_tx.rf g) (by omega) (by omega)) (by rw [pu_un (by omega)]; exact hg.1) (by rw [pu_un (by omega)]; exact hg.2.2.1) (by rw [pu_un (by omega)]; exact hg.2.2.2.1)
    (fun t ht => by rw [pu_un (by omega), pu_un (by omega), pu_un (by omega), pu_un (by omega)]; exact hg.2.2.2.2 t ht)
theorem pu_WG_n {g : Nat → Int32} (hg : pu_WG g) : pu_n g ≤ 8 ∧ g 1 = nI (pu_n g) := by
  obtain ⟨⟨n, hn, h1⟩, -⟩ := hg
  have e : pu_n g = n := by unfold pu_n; rw [h1]; exact pu_cl (by omega)
  rw [e]; exact ⟨hn, h1⟩
theorem pu_WG_day {g : Nat → Int32} (hg : pu_WG g) : pu_WG (pu_day g) := pu_WG_4 (pu_WG_itD hg _ (pu_WG_n hg).1) _
theorem pu_tx_day {g : Nat → Int32} (hg : pu_WG g) : pu_tx g (pu_day g) := pu_tx.up (pu_tx_itD g _ (pu_WG_n hg).1) (by omega) (by omega)
theorem pu_n_day {g : Nat → Int32} : pu_n (pu_day g) = pu_n g := by
  have e : pu_day g 1 = g 1 := by
    unfold pu_day
    rw [pu_un (by omega), pu_itD_1]
  unfold pu_n
  rw [e]
theorem pu_stX_ag {s : Nat} {σ σ' : ovSt} {X : Nat → Prop} (h : pu_ag X σ σ') (hX : ∀ i, s ≤ i → i ≤ s + 5 → ¬ X i) : ∀ i, s ≤ i → i ≤ s + 5 → σ' i = σ i := fun i h1 h2 => h i (hX i h1 h2)
