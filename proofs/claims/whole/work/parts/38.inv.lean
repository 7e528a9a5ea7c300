/-! ===== one cell changed ===== -/
theorem pu_RS.up12 {σ : ovSt} {s : Nat} {g : Nat → Int32} (h : pu_RS σ s g) (v : Int32) : pu_RS (ov_up σ s 12 v) s (upd g 0 v) := by
  obtain ⟨⟨y0, y1, y2, y3, y4, y5, y6, y7⟩, r2, r3⟩ := h
  refine ⟨?_, fun t ht => ?_, fun key hk => ?_⟩
  · rw [pu_up_same]
    refine ⟨?_, ?_, ?_, ?_, ?_, ?_, ?_, ?_⟩
    · rw [pu_ue, pu_ue]
    · rw [pu_un (by omega), pu_un (by omega), y1]
    · rw [pu_un (by omega), pu_un (by omega), y2]
    · rw [pu_un (by omega), pu_un (by omega), y3]
    · rw [pu_un (by omega), pu_un (by omega), y4]
    · rw [pu_un (by omega), pu_un (by omega), y5]
    · rw [pu_un (by omega), pu_un (by omega), y6]
    · rw [pu_un (by omega), pu_un (by omega), y7]
  · rw [pu_up_ne (by omega), pu_up_ne (by omega), pu_up_ne (by omega), pu_up_ne (by omega), pu_un (by omega), pu_un (by omega), pu_un (by omega), pu_un (by omega)]
    exact r2 t ht
  · rw [pu_up_ne (by omega), pu_tx_law (pu_tx.up (pu_tx.rf g) (by omega) (by omega))]
    exact r3 key hk
theorem pu_RS.up6 {σ : ovSt} {s : Nat} {g : Nat → Int32} (h : pu_RS σ s g) (v : Int32) : pu_RS (ov_up σ s 6 v) s (upd g 1 v) := by
  obtain ⟨⟨y0, y1, y2, y3, y4, y5, y6, y7⟩, r2, r3⟩ := h
  refine ⟨?_, fun t ht => ?_, fun key hk => ?_⟩
  · rw [pu_up_same]
    refine ⟨?_, ?_, ?_, ?_, ?_, ?_, ?_, ?_⟩
    · rw [pu_un (by omega), pu_un (by omega), y0]
    · rw [pu_ue, pu_ue]
    · rw [pu_un (by omega), pu_un (by omega), y2]
    · rw [pu_un (by omega), pu_un (by omega), y3]
    · rw [pu_un (by omega), pu_un (by omega), y4]
    · rw [pu_un (by omega), pu_un (by omega), y5]
    · rw [pu_un (by omega), pu_un (by omega), y6]
    · rw [pu_un (by omega), pu_un (by omega), y7]
  · rw [pu_up_ne (by omega), pu_up_ne (by omega), pu_up_ne (by omega), pu_up_ne (by omega), pu_un (by omega), pu_un (by omega), pu_un (by omega), pu_un (by omega)]
    exact r2 t ht
  · rw [pu_up_ne (by omega), pu_tx_law (pu_tx.up (pu_tx.rf g) (by omega) (by omega))]
    exact r3 key hk
theorem pu_RS.up7 {σ : ovSt} {s : Nat} {g : Nat → Int32} (h : pu_RS σ s g) (v : Int32) : pu_RS (ov_up σ s 7 v) s (upd g 2 v) := by
  obtain ⟨⟨y0, y1, y2, y3, y4, y5, y6, y7⟩, r2, r3⟩ := h
  refine ⟨?_, fun t ht => ?_, fun key hk => ?_⟩
  · rw [pu_up_same]
    refine ⟨?_, ?_, ?_, ?_, ?_, ?_, ?_, ?_⟩
    · rw [pu_un (by omega), pu_un (by omega), y0]
    · rw [pu_un (by omega), pu_un (by omega), y1]
    · rw [pu_ue, pu_ue]
    · rw [pu_un (by omega), pu_un (by omega), y3]
    · rw [pu_un (by omega), pu_un (by omega), y4]
    · rw [pu_un (by omega), pu_un (by omega), y5]
    · rw [pu_un (by omega), pu_un (by omega), y6]
    · rw [pu_un (by omega), pu_un (by omega), y7]
  · rw [pu_up_ne (by omega), pu_up_ne (by omega), pu_up_ne (by omega), pu_up_ne (by omega), pu_un (by omega), pu_un (by omega), pu_un (by omega), pu_un (by omega)]
    exact r2 t ht
  · rw [pu_up_ne (by omega), pu_tx_law (pu_tx.up (pu_tx.rf g) (by omega) (by omega))]
    exact r3 key hk
theorem pu_RS.up8 {σ : ovSt} {s : Nat} {g : Nat → Int32} (h : pu_RS σ s g) (v : Int32) : pu_RS (ov_up σ s 8 v) s (upd g 3 v) := by
  obtain ⟨⟨y0, y1, y2, y3, y4, y5, y6, y7⟩, r2, r3⟩ := h
  refine ⟨?_, fun t ht => ?_, fun key hk => ?_⟩
  · rw [pu_up_same]
    refine ⟨?_, ?_, ?_, ?_, ?_, ?_, ?_, ?_⟩
    · rw [pu_un (by omega), pu_un (by omega), y0]
    · rw [pu_un (by omega), pu_un (by omega), y1]
    · rw [pu_un (by omega), pu_un (by omega), y2]
    · rw [pu_ue, pu_ue]
    · rw [pu_un (by omega), pu_un (by omega), y4]
    · rw [pu_un (by omega), pu_un (by omega), y5]
    · rw [pu_un (by omega), pu_un (by omega), y6]
    · rw [pu_un (by omega), pu_un (by omega), y7]
  · rw [pu_up_ne (by omega), pu_up_ne (by omega), pu_up_ne (by omega), pu_up_ne (by omega), pu_un (by omega), pu_un (by omega), pu_un (by omega), pu_un (by omega)]
    exact r2 t ht
  · rw [pu_up_ne (by omega), pu_tx_law (pu_tx.up (pu_tx.rf g) (by omega) (by omega))]
    exact r3 key hk
theorem pu_RS.up10 {σ : ovSt} {s : Nat} {g : Nat → Int32} (h : pu_RS σ s g) (v : Int32) : pu_RS (ov_up σ s 10 v) s (upd g 5 v) := by
  obtain ⟨⟨y0, y1, y2, y3, y4, y5, y6, y7⟩, r2, r3⟩ := h
  refine ⟨?_, fun t ht => ?_, fun key hk => ?_⟩
  · rw [pu_up_same]
    refine ⟨?_, ?_, ?_, ?_, ?_, ?_, ?_, ?_⟩
    · rw [pu_un (by omega), pu_un (by omega), y0]
    · rw [pu_un (by omega), pu_un (by omega), y1]
    · rw [pu_un (by omega), pu_un (by omega), y2]
    · rw [pu_un (by omega), pu_un (by omega), y3]
    · rw [pu_un (by omega), pu_un (by omega), y4]
    · rw [pu_ue, pu_ue]
    · rw [pu_un (by omega), pu_un (by omega), y6]
    · rw [pu_un (by omega), pu_un (by omega), y7]
  · rw [pu_up_ne (by omega), pu_up_ne (by omega), pu_up_ne (by omega), pu_up_ne (by omega), pu_un (by omega), pu_un (by omega), pu_un (by omega), pu_un (by omega)]
    exact r2 t ht
  · rw [pu_up_ne (by omega), pu_tx_law (pu_tx.up (pu_tx.rf g) (by omega) (by omega))]
    exact r3 key hk
theorem pu_RS.up11 {σ : ovSt} {s : Nat} {g : Nat → Int32} (h : pu_RS σ s g) (v : Int32) : pu_RS (ov_up σ s 11 v) s (upd g 6 v) := by
  obtain ⟨⟨y0, y1, y2, y3, y4, y5, y6, y7⟩, r2, r3⟩ := h
  refine ⟨?_, fun t ht => ?_, fun key hk => ?_⟩
  · rw [pu_up_same]
    refine ⟨?_, ?_, ?_, ?_, ?_, ?_, ?_, ?_⟩
    · rw [pu_un (by omega), pu_un (by omega), y0]
    · rw [pu_un (by omega), pu_un (by omega), y1]
    · rw [pu_un (by omega), pu_un (by omega), y2]
    · rw [pu_un (by omega), pu_un (by omega), y3]
    · rw [pu_un (by omega), pu_un (by omega), y4]
    · rw [pu_un (by omega), pu_un (by omega), y5]
    · rw [pu_ue, pu_ue]
    · rw [pu_un (by omega), pu_un (by omega), y7]
  · rw [pu_up_ne (by omega), pu_up_ne (by omega), pu_up_ne (by omega), pu_up_ne (by omega), pu_un (by omega), pu_un (by omega), pu_un (by omega), pu_un (by omega)]
    exact r2 t ht
  · rw [pu_up_ne (by omega), pu_tx_law (pu_tx.up (pu_tx.rf g) (by omega) (by omega))]
    exact r3 key hk
theorem pu_RS.upt0 {σ : ovSt} {s : Nat} {g : Nat → Int32} (h : pu_RS σ s g) {t : Nat} (ht : t < 8) (v : Int32) : pu_RS (ov_up σ (s + 1) t v) s (upd g (8 + 4 * t + 0) v) := by
  obtain ⟨⟨y0, y1, y2, y3, y4, y5, y6, y7⟩, r2, r3⟩ := h
  refine ⟨?_, fun i hi => ?_, fun key hk => ?_⟩
  · rw [pu_up_ne (by omega), pu_un (by omega), pu_un (by omega), pu_un (by omega), pu_un (by omega), pu_un (by omega), pu_un (by omega), pu_un (by omega), pu_un (by omega)]
    exact ⟨y0, y1, y2, y3, y4, y5, y6, y7⟩
  · obtain ⟨z0, z1, z2, z3⟩ := r2 i hi
    by_cases zz : i = t
    · subst zz
      refine ⟨?_, ?_, ?_, ?_⟩
      · rw [pu_up_same, pu_ue]; exact (pu_ue _ _ _).symm
      · rw [pu_up_ne (by omega), z1]; exact (pu_un (by omega)).symm
      · rw [pu_up_ne (by omega), z2]; exact (pu_un (by omega)).symm
      · rw [pu_up_ne (by omega), z3]; exact (pu_un (by omega)).symm
    · refine ⟨?_, ?_, ?_, ?_⟩
      · rw [pu_up_same, pu_un zz, z0]; exact (pu_un (by omega)).symm
      · rw [pu_up_ne (by omega), z1]; exact (pu_un (by omega)).symm
      · rw [pu_up_ne (by omega), z2]; exact (pu_un (by omega)).symm
      · rw [pu_up_ne (by omega), z3]; exact (pu_un (by omega)).symm
  · rw [pu_up_ne (by omega), pu_tx_law (pu_tx.up (pu_tx.rf g) (by omega) (by omega))]
    exact r3 key hk
theorem pu_RS.upt1 {σ : ovSt} {s : Nat} {g : Nat → Int32} (h : pu_RS σ s g) {t : Nat} (ht : t < 8) (v : Int32) : pu_RS (ov_up σ (s + 2) t v) s (upd g (8 + 4 * t + 1) v) := by
  obtain ⟨⟨y0, y1, y2, y3, y4, y5, y6, y7⟩, r2, r3⟩ := h
  refine ⟨?_, fun i hi => ?_, fun key hk => ?_⟩
  · rw [pu_up_ne (by omega), pu_un (by omega), pu_un (by omega), pu_un (by omega), pu_un (by omega), pu_un (by omega), pu_un (by omega), pu_un (by omega), pu_un (by omega)]
    exact ⟨y0, y1, y2, y3, y4, y5, y6, y7⟩
  · obtain ⟨z0, z1, z2, z3⟩ := r2 i hi
    by_cases zz : i = t
    · subst zz
      refine ⟨?_, ?_, ?_, ?_⟩
      · rw [pu_up_ne (by omega), z0]; exact (pu_un (by omega)).symm
      · rw [pu_up_same, pu_ue]; exact (pu_ue _ _ _).symm
      · rw [pu_up_ne (by omega), z2]; exact (pu_un (by omega)).symm
      · rw [pu_up_ne (by omega), z3]; exact (pu_un (by omega)).symm
    · refine ⟨?_, ?_, ?_, ?_⟩
      · rw [pu_up_ne (by omega), z0]; exact (pu_un (by omega)).symm
      · rw [pu_up_same, pu_un zz, z1]; exact (pu_un (by omega)).symm
      · rw [pu_up_ne (by omega), z2]; exact (pu_un (by omega)).symm
      · rw [pu_up_ne (by omega), z3]; exact (pu_un (by omega)).symm
  · rw [pu_up_ne (by omega), pu_tx_law (pu_tx.up (pu_tx.rf g) (by omega) (by omega))]
    exact r3 key hk
theorem pu_RS.upt2 {σ : ovSt} {s : Nat} {g : Nat → Int32} (h : pu_RS σ s g) {t : Nat} (ht : t < 8) (v : Int32) : pu_RS (ov_up σ (s + 3) t v) s (upd g (8 + 4 * t + 2) v) := by
  obtain ⟨⟨y0, y1, y2, y3, y4, y5, y6, y7⟩, r2, r3⟩ := h
  refine ⟨?_, fun i hi => ?_, fun key hk => ?_⟩
  · rw [pu_up_ne (by omega), pu_un (by omega), pu_un (by omega), pu_un (by omega), pu_un (by omega), pu_un (by omega), pu_un (by omega), pu_un (by omega), pu_un (by omega)]
    exact ⟨y0, y1, y2, y3, y4, y5, y6, y7⟩
  · obtain ⟨z0, z1, z2, z3⟩ := r2 i hi
    by_cases zz : i = t
    · subst zz
      refine ⟨?_, ?_, ?_, ?_⟩
      · rw [pu_up_ne (by omega), z0]; exact (pu_un (by omega)).symm
      · rw [pu_up_ne (by omega), z1]; exact (pu_un (by omega)).symm
      · rw [pu_up_same, pu_ue]; exact (pu_ue _ _ _).symm
      · rw [pu_up_ne (by omega), z3]; exact (pu_un (by omega)).symm
    · refine ⟨?_, ?_, ?_, ?_⟩
      · rw [pu_up_ne (by omega), z0]; exact (pu_un (by omega)).symm
      · rw [pu_up_ne (by omega), z1]; exact (pu_un (by omega)).symm
      · rw [pu_up_same, pu_un zz, z2]; exact (pu_un (by omega)).symm
      · rw [pu_up_ne (by omega), z3]; exact (pu_un (by omega)).symm
  · rw [pu_up_ne (by omega), pu_tx_law (pu_tx.up (pu_tx.rf g) (by omega) (by omega))]
    exact r3 key hk
theorem pu_RS.upt3 {σ : ovSt} {s : Nat} {g : Nat → Int32} (h : pu_RS σ s g) {t : Nat} (ht : t < 8) (v : Int32) : pu_RS (ov_up σ (s + 4) t v) s (upd g (8 + 4 * t + 3) v) := by
  obtain ⟨⟨y0, y1, y2, y3, y4, y5, y6, y7⟩, r2, r3⟩ := h
  refine ⟨?_, fun i hi => ?_, fun key hk => ?_⟩
  · rw [pu_up_ne (by omega), pu_un (by omega), pu_un (by omega), pu_un (by omega), pu_un (by omega), pu_un (by omega), pu_un (by omega), pu_un (by omega), pu_un (by omega)]
    exact ⟨y0, y1, y2, y3, y4, y5, y6, y7⟩
  · obtain ⟨z0, z1, z2, z3⟩ := r2 i hi
    by_cases zz : i = t
    · subst zz
      refine ⟨?_, ?_, ?_, ?_⟩
      · rw [pu_up_ne (by omega), z0]; exact (pu_un (by omega)).symm
      · rw [pu_up_ne (by omega), z1]; exact (pu_un (by omega)).symm
      · rw [pu_up_ne (by omega), z2]; exact (pu_un (by omega)).symm
      · rw [pu_up_same, pu_ue]; exact (pu_ue _ _ _).symm
    · refine ⟨?_, ?_, ?_, ?_⟩
      · rw [pu_up_ne (by omega), z0]; exact (pu_un (by omega)).symm
      · rw [pu_up_ne (by omega), z1]; exact (pu_un (by omega)).symm
      · rw [pu_up_ne (by omega), z2]; exact (pu_un (by omega)).symm
      · rw [pu_up_same, pu_un zz, z3]; exact (pu_un (by omega)).symm
  · rw [pu_up_ne (by omega), pu_tx_law (pu_tx.up (pu_tx.rf g) (by omega) (by omega))]
    exact r3 key hk
theorem pu_WG.upt0 {g : Nat → Int32} (hg : pu_WG g) {t : Nat} (ht : t < 8) {v : Int32} (hv : pu_in v 0 5) : pu_WG (upd g (8 + 4 * t + 0) v) := by
  refine pu_WG.mk hg (pu_tx.up (pu_tx.rf g) (by omega) (by omega)) ?_ ?_ ?_ (fun i hi => ?_)
  · rw [pu_un (by omega)]; exact hg.1
  · rw [pu_un (by omega)]; exact hg.2.2.1
  · rw [pu_un (by omega)]; exact hg.2.2.2.1
  · obtain ⟨z0, z1, z2, z3⟩ := hg.2.2.2.2 i hi
    by_cases zz : i = t
    · subst zz
      refine ⟨?_, ?_, ?_, ?_⟩
      · show pu_in (upd g (8 + 4 * i) v (8 + 4 * i)) 0 5; rw [pu_ue]; exact hv
      · rw [pu_un (by omega)]; exact z1
      · rw [pu_un (by omega)]; exact z2
      · rw [pu_un (by omega)]; exact z3
    · rw [pu_un (by omega), pu_un (by omega), pu_un (by omega), pu_un (by omega)]; exact ⟨z0, z1, z2, z3⟩
theorem pu_WG.upt1 {g : Nat → Int32} (hg : pu_WG g) {t : Nat} (ht : t < 8) {v : Int32} (hv : pu_in v 0 9) : pu_WG (upd g (8 + 4 * t + 1) v) := by
  refine pu_WG.mk hg (pu_tx.up (pu_tx.rf g) (by omega) (by omega)) ?_ ?_ ?_ (fun i hi => ?_)
  · rw [pu_un (by omega)]; exact hg.1
  · rw [pu_un (by omega)]; exact hg.2.2.1
  · rw [pu_un (by omega)]; exact hg.2.2.2.1
  · obtain ⟨z0, z1, z2, z3⟩ := hg.2.2.2.2 i hi
    by_cases zz : i = t
    · subst zz
      refine ⟨?_, ?_, ?_, ?_⟩
      · rw [pu_un (by omega)]; exact z0
      · rw [pu_ue]; exact hv
      · rw [pu_un (by omega)]; exact z2
      · rw [pu_un (by omega)]; exact z3
    · rw [pu_un (by omega), pu_un (by omega), pu_un (by omega), pu_un (by omega)]; exact ⟨z0, z1, z2, z3⟩
theorem pu_WG.upt2 {g : Nat → Int32} (hg : pu_WG g) {t : Nat} (ht : t < 8) {v : Int32} (hv : pu_in v 0 99999) : pu_WG (upd g (8 + 4 * t + 2) v) := by
  refine pu_WG.mk hg (pu_tx.up (pu_tx.rf g) (by omega) (by omega)) ?_ ?_ ?_ (fun i hi => ?_)
  · rw [pu_un (by omega)]; exact hg.1
  · rw [pu_un (by omega)]; exact hg.2.2.1
  · rw [pu_un (by omega)]; exact hg.2.2.2.1
  · obtain ⟨z0, z1, z2, z3⟩ := hg.2.2.2.2 i hi
    by_cases zz : i = t
    · subst zz
      refine ⟨?_, ?_, ?_, ?_⟩
      · rw [pu_un (by omega)]; exact z0
      · rw [pu_un (by omega)]; exact z1
      · rw [pu_ue]; exact hv
      · rw [pu_un (by omega)]; exact z3
    · rw [pu_un (by omega), pu_un (by omega), pu_un (by omega), pu_un (by omega)]; exact ⟨z0, z1, z2, z3⟩
theorem pu_WG.upt3 {g : Nat → Int32} (hg : pu_WG g) {t : Nat} (ht : t < 8) {v : Int32} (hv : pu_in v 0 9999) : pu_WG (upd g (8 + 4 * t + 3) v) := by
  refine pu_WG.mk hg (pu_tx.up (pu_tx.rf g) (by omega) (by omega)) ?_ ?_ ?_ (fun i hi => ?_)
  · rw [pu_un (by omega)]; exact hg.1
  · rw [pu_un (by omega)]; exact hg.2.2.1
  · rw [pu_un (by omega)]; exact hg.2.2.2.1
  · obtain ⟨z0, z1, z2, z3⟩ := hg.2.2.2.2 i hi
    by_cases zz : i = t
    · subst zz
      refine ⟨?_, ?_, ?_, ?_⟩
      · rw [pu_un (by omega)]; exact z0
      · rw [pu_un (by omega)]; exact z1
      · rw [pu_un (by omega)]; exact z2
      · rw [pu_ue]; exact hv
    · rw [pu_un (by omega), pu_un (by omega), pu_un (by omega), pu_un (by omega)]; exact ⟨z0, z1, z2, z3⟩
theorem pu_WG.up0 {g : Nat → Int32} (hg : pu_WG g) (v : Int32) : pu_WG (upd g 0 v) :=
  pu_WG.mk hg (pu_tx.up (pu_tx.rf g) (by omega) (by omega)) (by rw [pu_un (by omega)]; exact hg.1) (by rw [pu_un (by omega)]; exact hg.2.2.1) (by rw [pu_un (by omega)]; exact hg.2.2.2.1)
    (fun t ht => by rw [pu_un (by omega), pu_un (by omega), pu_un (by omega), pu_un (by omega)]; exact hg.2.2.2.2 t ht)
theorem pu_WG.up1 {g : Nat → Int32} (hg : pu_WG g) {n : Nat} (hn : n ≤ 8) : pu_WG (upd g 1 (nI n)) :=
  pu_WG.mk hg (pu_tx.up (pu_tx.rf g) (by omega) (by omega)) ⟨n, hn, pu_ue _ _ _⟩ (by rw [pu_un (by omega)]; exact hg.2.2.1) (by rw [pu_un (by omega)]; exact hg.2.2.2.1)
    (fun t ht => by rw [pu_un (by omega), pu_un (by omega), pu_un (by omega), pu_un (by omega)]; exact hg.2.2.2.2 t ht)
theorem pu_WG.up2 {g : Nat → Int32} (hg : pu_WG g) {v : Int32} (hv : pu_in v 1 999) : pu_WG (upd g 2 v) :=
  pu_WG.mk hg (pu_tx.up (pu_tx.rf g) (by omega) (by omega)) (by rw [pu_un (by omega)]; exact hg.1) (by rw [pu_ue]; exact hv) (by rw [pu_un (by omega)]; exact hg.2.2.2.1)
    (fun t ht => by rw [pu_un (by omega), pu_un (by omega), pu_un (by omega), pu_un (by omega)]; exact hg.2.2.2.2 t ht)
theorem pu_WG.up3 {g : Nat → Int32} (hg : pu_WG g) {v : Int32} (hv : pu_in v 0 999) : pu_WG (upd g 3 v) :=
  pu_WG.mk hg (pu_tx.up (pu_tx.rf g) (by omega) (by omega)) (by rw [pu_un (by omega)]; exact hg.1) (by rw [pu_un (by omega)]; exact hg.2.2.1) (by rw [pu_ue]; exact hv)
    (fun t ht => by rw [pu_un (by omega), pu_un (by omega), pu_un (by omega), pu_un (by omega)]; exact hg.2.2.2.2 t ht)
/-! ===== the near part of the invariant ===== -/
def pu_I1 (σ : ovSt) : Prop := pu_WG (σ 75) ∧ pu_RS σ 21 (σ 75) ∧ pu_LS σ (σ 75) ∧ pu_in (σ 75 4) 0 9999
def pu_XS (i : Nat) : Prop := i = 20 ∨ (21 ≤ i ∧ i ≤ 26) ∨ (33 ≤ i ∧ i ≤ 44) ∨ i = 75 ∨ (77 ≤ i ∧ i ≤ 80) ∨ (84 ≤ i ∧ i ≤ 88) ∨ i = 96
def pu_goodA (σ σ2 : ovSt) : Prop := pu_I1 σ2 ∧ pu_ag pu_XS σ σ2 ∧ pu_tx (σ 75) (σ2 75)
theorem pu_I2.good {σ σ2 : ovSt} (h : pu_I2 σ) (hg : pu_goodA σ σ2) : pu_I2 σ2 := by
  obtain ⟨h1, h2, h3, h4, h5, h6⟩ := h
  obtain ⟨-, ha, ht⟩ := hg
  have q : ∀ i, ¬ pu_XS i → σ2 i = σ i := ha
  refine ⟨h1.cg (fun i hi => q i (by unfold pu_XS; omega)) ?_ ?_ ht, h2.cg ?_ ?_ ?_ ?_, h3.cg ?_ ?_ ?_ ?_, h4.cg (fun i hi => q i (by unfold pu_XS; omega)), h5.cg (fun i hi => q i (by unfold pu_XS; omega)), h6.cg ?_ ?_⟩
  · rw [q 0 (by unfold pu_XS; omega)]
  · rw [q 74 (by unfold pu_XS; omega)]
  · exact q 46 (by unfold pu_XS; omega)
  · exact q 81 (by unfold pu_XS; omega)
  · rw [q 45 (by unfold pu_XS; omega)]
  · rw [q 74 (by unfold pu_XS; omega)]
  · exact q 50 (by unfold pu_XS; omega)
  · exact q 97 (by unfold pu_XS; omega)
  · rw [q 0 (by unfold pu_XS; omega)]
  · rw [q 74 (by unfold pu_XS; omega)]
  · exact q 82 (by unfold pu_XS; omega)
  · exact q 83 (by unfold pu_XS; omega)
/-- a call has gone well: the near part holds; the far part is kept -/
def pu_good (σ σ2 : ovSt) : Prop := pu_I1 σ2 ∧ (pu_I2 σ → pu_I2 σ2)
theorem pu_goodA.of {σ σ2 : ovSt} (h : pu_goodA σ σ2) : pu_good σ σ2 := ⟨h.1, fun q => q.good h⟩
theorem pu_good.rf {σ : ovSt} (h : pu_I1 σ) : pu_good σ σ := ⟨h, fun q => q⟩
/-- only scratch changed -/
def pu_XT (i : Nat) : Prop := i = 20 ∨ (33 ≤ i ∧ i ≤ 44) ∨ (77 ≤ i ∧ i ≤ 80) ∨ (84 ≤ i ∧ i ≤ 88) ∨ i = 96
theorem pu_I1.ag {σ σ2 : ovSt} (h : pu_I1 σ) (ha : pu_ag pu_XT σ σ2) : pu_I1 σ2 := by
  obtain ⟨h1, h2, h3, h4⟩ := h
  have e : σ2 75 = σ 75 := ha 75 (by unfold pu_XT; omega)
  unfold pu_I1
  rw [e]
  exact ⟨h1, h2.ag (fun i a b => ha i (by unfold pu_XT; omega)), h3.ag h1 (fun i a b => ha i (by unfold pu_XT; omega)), h4⟩
theorem pu_goodA.sc {σ σ2 : ovSt} (h : pu_I1 σ) (ha : pu_ag pu_XT σ σ2) : pu_goodA σ σ2 := by
  have e : σ2 75 = σ 75 := ha 75 (by unfold pu_XT; omega)
  refine ⟨h.ag ha, ha.mono (fun i hi => by unfold pu_XT at hi; unfold pu_XS; omega), ?_⟩
  rw [e]; exact pu_tx.rf _
theorem pu_good.sc {σ σ2 : ovSt} (h : pu_I1 σ) (ha : pu_ag pu_XT σ σ2) : pu_good σ σ2 := (pu_goodA.sc h ha).of
/-- a state whose stock now is the row g -/
theorem pu_goodA.mk {σ σ2 : ovSt} (h : pu_I1 σ) (g : Nat → Int32) (e : σ2 75 = g) (ha : pu_ag pu_XS σ σ2) (hg : pu_WG g) (hR : pu_RS σ2 21 g) (ht : pu_tx (σ 75) g) (h4 : pu_in (g 4) 0 9999) : pu_goodA σ σ2 := by
  refine ⟨⟨by rw [e]; exact hg, by rw [e]; exact hR, ?_, by rw [e]; exact h4⟩, ha, by rw [e]; exact ht⟩
  rw [e]
  exact pu_tx_LS ht (h.2.2.1.ag h.1 (fun i a b => ha i (by unfold pu_XS; omega)))
theorem pu_good.mk {σ σ2 : ovSt} (h : pu_I1 σ) (g : Nat → Int32) (e : σ2 75 = g) (ha : pu_ag pu_XS σ σ2) (hg : pu_WG g) (hR : pu_RS σ2 21 g) (ht : pu_tx (σ 75) g) (h4 : pu_in (g 4) 0 9999) : pu_good σ σ2 := (pu_goodA.mk h g e ha hg hR ht h4).of
theorem pu_bl0 : ov_bl 0 := rfl
theorem pu_bl1 : ov_bl 1 := rfl
theorem pu_and {P Q : Prop} (h : P) : (P ∧ Q) = Q := propext ⟨fun x => x.2, fun x => ⟨h, x⟩⟩
theorem e5_in (x a b : Int32) (σ : ovSt) (k : Int32 → ovSt → Prop) : F_X5_within x a b σ k = (if x < a then k 0 σ else if b < x then k 0 σ else k 1 σ) := by
  unfold F_X5_within F_X5_within_14 F_X5_within_15
  rw [pu_and pu_bl0, pu_and pu_bl1]
theorem e6_in (x a b : Int32) (σ : ovSt) (k : Int32 → ovSt → Prop) : F_X6_in x a b σ k = (if x < a then k 0 σ else if b < x then k 0 σ else k 1 σ) := by
  unfold F_X6_in F_X6_in_14 F_X6_in_15
  rw [pu_and pu_bl0, pu_and pu_bl1]
theorem pu_no5 {x a b : Int32} (h : x < a ∨ b < x) (σ : ovSt) (k : Int32 → ovSt → Prop) : F_X5_within x a b σ k = k 0 σ := by
  rw [e5_in]
  by_cases z : x < a
  · rw [if_pos z]
  · rw [if_neg z, if_pos (h.resolve_left z)]
theorem pu_no6 {x a b : Int32} (h : x < a ∨ b < x) (σ : ovSt) (k : Int32 → ovSt → Prop) : F_X6_in x a b σ k = k 0 σ := by
  rw [e6_in]
  by_cases z : x < a
  · rw [if_pos z]
  · rw [if_neg z, if_pos (h.resolve_left z)]
theorem pu_yes5 {x a b : Int32} (h : ¬ (x < a ∨ b < x)) (σ : ovSt) (k : Int32 → ovSt → Prop) : F_X5_within x a b σ k = k 1 σ := by
  rw [e5_in, if_neg (fun z => h (Or.inl z)), if_neg (fun z => h (Or.inr z))]
theorem pu_yes6 {x a b : Int32} (h : ¬ (x < a ∨ b < x)) (σ : ovSt) (k : Int32 → ovSt → Prop) : F_X6_in x a b σ k = k 1 σ := by
  rw [e6_in, if_neg (fun z => h (Or.inl z)), if_neg (fun z => h (Or.inr z))]
theorem pu_bt {x a b : Int32} (h : ¬ (x < a ∨ b < x)) : pu_in x a.toInt b.toInt := by
  have h1 : ¬ x < a := fun z => h (Or.inl z)
  have h2 : ¬ b < x := fun z => h (Or.inr z)
  rw [fa_lt] at h1 h2
  unfold pu_in
  omega
theorem pu_ofInt {x : Int32} {b : Nat} (h0 : 0 ≤ x.toInt) (h1 : x.toInt < b) (hb : b ≤ 2 ^ 31) : ∃ t, t < b ∧ x = nI t := by
  refine ⟨x.toInt.toNat, by omega, ?_⟩
  rw [fa_eq, nI_toInt (by omega)]
  omega
theorem pu_hasx {g : Nat → Int32} (hg : pu_WG g) (x : Int32) : (x < 0 ∨ g 1 ≤ x) ∨ ∃ t, t < pu_n g ∧ t < 8 ∧ x = nI t := by
  have hb := pu_WG_n hg
  by_cases z : x < 0 ∨ g 1 ≤ x
  · exact Or.inl z
  · right
    have z1 : ¬ x < 0 := fun q => z (Or.inl q)
    have z2 : ¬ g 1 ≤ x := fun q => z (Or.inr q)
    rw [hb.2] at z2
    rw [fa_lt] at z1
    rw [fa_le, nI_toInt (by omega)] at z2
    have e : (0 : Int32).toInt = 0 := rfl
    obtain ⟨t, ht, ex⟩ := pu_ofInt (x := x) (b := pu_n g) (by omega) (by omega) (by omega)
    exact ⟨t, ht, by omega, ex⟩
theorem e3_has_no {s : Nat} (hs : ov_stk s) {g : Nat → Int32} {σ : ovSt} (hR : pu_RS σ s g) {x : Int32} (h : x < 0 ∨ g 1 ≤ x) (k : Int32 → ovSt → Prop) : F_X3_has s x σ k = k 0 σ := by
  unfold F_X3_has F_X3_has_16 F_X3_has_17
  rw [pu_and pu_bl0, pu_and pu_bl1, pu_and hs, hR.1.2.1]
  by_cases z : x < 0
  · rw [if_pos z]
  · rw [if_neg z, if_pos (h.resolve_left z)]
theorem e3_has_yes {s : Nat} (hs : ov_stk s) {g : Nat → Int32} (hg : pu_WG g) {σ : ovSt} (hR : pu_RS σ s g) {t : Nat} (ht : t < pu_n g) (k : Int32 → ovSt → Prop) : F_X3_has s (nI t) σ k = k 1 σ := by
  have hb := pu_WG_n hg
  unfold F_X3_has F_X3_has_16 F_X3_has_17
  rw [pu_and pu_bl0, pu_and pu_bl1, pu_and hs, hR.1.2.1, if_neg (nI_pos (by omega)), hb.2, if_neg (by rw [nI_leI (by omega) (by omega)]; omega)]
theorem e6_isThing_no {σ : ovSt} (hg : pu_WG (σ 75)) {x : Int32} (h : x < 0 ∨ σ 75 1 ≤ x) (k : Int32 → ovSt → Prop) : F_X6_isThing x σ k = k 0 σ := by
  have hb := pu_WG_n hg
  unfold F_X6_isThing
  rw [pu_and (show vp_in 1 1412 from vp_in_nI (n := 1) (by decide) (by decide)), pu_no6, pu_and pu_bl0]
  rcases h with h | h
  · exact Or.inl h
  · right
    show σ 75 1 - 1 < x
    rw [hb.2] at h ⊢
    rw [fa_le, nI_toInt (by omega)] at h
    have e := pk_sub_toInt (a := pu_n (σ 75)) (b := 1) (by omega) (by decide)
    rw [fa_lt, show (1 : Int32) = nI 1 from rfl, e]
    omega
theorem e6_isThing_yes {σ : ovSt} (hg : pu_WG (σ 75)) {t : Nat} (ht : t < pu_n (σ 75)) (k : Int32 → ovSt → Prop) : F_X6_isThing (nI t) σ k = k 1 σ := by
  have hb := pu_WG_n hg
  unfold F_X6_isThing
  rw [pu_and (show vp_in 1 1412 from vp_in_nI (n := 1) (by decide) (by decide)), pu_yes6, pu_and pu_bl1]
  rintro (h | h)
  · exact nI_pos (by omega) h
  · have h : σ 75 1 - 1 < nI t := h
    rw [hb.2] at h
    have e := pk_sub_toInt (a := pu_n (σ 75)) (b := 1) (by omega) (by decide)
    rw [fa_lt, show (1 : Int32) = nI 1 from rfl, e, nI_toInt (by omega)] at h
    omega
