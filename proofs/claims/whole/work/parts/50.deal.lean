/-! ===== deal ===== -/
def pu_zo (z : Int32) : Int32 := (Int32.toUInt32 z >>> (Int32.toUInt32 8 &&& Int32.toUInt32 31)).toInt32
theorem pu_zo_in (z : Int32) : ∃ w, w < 16777216 ∧ pu_zo z = nI w := by
  refine ⟨(Int32.toUInt32 z >>> (Int32.toUInt32 8 &&& Int32.toUInt32 31)).toNat, ?_, ?_⟩
  · rw [UInt32.toNat_shiftRight, show (Int32.toUInt32 8 &&& Int32.toUInt32 31).toNat % 32 = 8 from rfl, Nat.shiftRight_eq_div_pow]
    have h := UInt32.toNat_lt (Int32.toUInt32 z)
    omega
  · unfold pu_zo
    show Int32.ofUInt32 _ = Int32.ofUInt32 (UInt32.ofNat _)
    rw [UInt32.ofNat_toNat]
theorem pu_uu (f : Nat → Int32) (i : Nat) (x y : Int32) : upd (upd f i x) i y = upd f i y := by
  funext j
  by_cases z : j = i
  · rw [z, pu_ue, pu_ue]
  · rw [pu_un z, pu_un z, pu_un z]
def pu_z1 (z : Int32) : Int32 := z * 1103515245 + 12345
def pu_rm (z : Int32) (d : Int32) : Int32 := pu_zo z - pu_zo z / d * d
theorem pu_rm_in (z : Int32) (d : Nat) (h1 : 0 < d) (h2 : d ≤ 1000) : ∃ w, w < d ∧ pu_rm z (nI d) = nI w := by
  obtain ⟨w, hw, e⟩ := pu_zo_in z
  unfold pu_rm
  rw [e, pk_rem (by omega) (by omega) (by omega)]
  exact ⟨w % d, Nat.mod_lt _ h1, rfl⟩
def pu_dr (g : Nat → Int32) : Nat → Int32 := pu_addr (upd g 0 (pu_z1 (pu_z1 (pu_z1 (g 0))))) (pu_rm (pu_z1 (g 0)) 6) (1 + pu_rm (pu_z1 (pu_z1 (g 0))) 9) (pu_rm (pu_z1 (pu_z1 (pu_z1 (g 0)))) 1000)
theorem p3_draw {g : Nat → Int32} {σ : ovSt} (hR : pu_RS σ 21 g) {k : Int32 → ovSt → Prop} (h : ∀ σ', pu_ag (pu_stX 21) σ σ' → pu_RS σ' 21 (upd g 0 (pu_z1 (g 0))) → k (pu_zo (pu_z1 (g 0))) σ') : F_X3_draw 21 σ k := by
  unfold F_X3_draw
  refine ⟨pu_s21, ?_⟩
  intro σ1 e1
  have y : σ 21 12 = g 0 := hR.1.1
  rw [y] at e1
  have e2 : σ1 = ov_up σ 21 12 (pu_z1 (g 0)) := e1
  have R := hR.up12 (pu_z1 (g 0))
  rw [← e2] at R
  have v : σ1 21 12 = pu_z1 (g 0) := by rw [e2, pu_up_same, pu_ue]
  rw [v]
  exact h σ1 (by rw [e2]; exact pu_ag.up1 (by unfold pu_stX; omega)) R
theorem p3_drawThing {g : Nat → Int32} (hg : pu_WG g) (hn : pu_n g < 8) {σ : ovSt} (hR : pu_RS σ 21 g) {k : ovSt → Prop} (h : ∀ σ', pu_ag (pu_stX 21) σ σ' → pu_RS σ' 21 (pu_dr g) → k σ') : F_X3_drawThing 21 σ k := by
  unfold F_X3_drawThing
  refine ⟨pu_s21, p3_draw hR (fun σ1 h1 R1 => ?_)⟩
  intro v hv
  refine p3_draw R1 (fun σ2 h2 R2 => ?_)
  rw [pu_ue, pu_uu] at R2
  intro v2 hv2
  rw [pu_ue] at hv2
  refine p3_draw R2 (fun σ3 h3 R3 => ?_)
  rw [pu_ue, pu_uu] at R3
  intro v3 hv3
  rw [pu_ue] at hv3
  have n3 : ∀ z, pu_n (upd g 0 z) = pu_n g := fun z => by unfold pu_n; rw [pu_un (by omega)]
  refine p3_addThing (hg.up0 _) (by rw [n3]; exact hn) R3 v v2 v3 (fun σ4 h4 R4 => ?_)
  refine h σ4 (((h1.tr h2).tr h3).tr h4) ?_
  rw [hv, hv2, hv3] at R4
  exact R4
theorem p6_draw {σ : ovSt} {k : Int32 → ovSt → Prop} (h : ∀ σ', pu_ag (fun i => i = 75) σ σ' → σ' 75 = upd (σ 75) 0 (pu_z1 (σ 75 0)) → k (pu_zo (pu_z1 (σ 75 0))) σ') : F_X6_draw σ k := by
  unfold F_X6_draw
  refine ⟨vp_in_nI (n := 0) (by decide) (by decide), ?_⟩
  intro σ1 e1
  have e2 : σ1 = ov_up σ 75 0 (pu_z1 (σ 75 0)) := e1
  have v : σ1 75 (Int32.toNatClampNeg 0) = pu_z1 (σ 75 0) := by rw [e2, pu_up_same]; exact pu_ue _ _ _
  rw [v]
  exact h σ1 (by rw [e2]; exact pu_ag.up1 rfl) (by rw [e2, pu_up_same])
theorem pu_WG_dr {g : Nat → Int32} (hg : pu_WG g) (hn : pu_n g < 8) : pu_WG (pu_dr g) := by
  have n3 : ∀ z, pu_n (upd g 0 z) = pu_n g := fun z => by unfold pu_n; rw [pu_un (by omega)]
  obtain ⟨w1, h1, e1⟩ := pu_rm_in (pu_z1 (g 0)) 6 (by decide) (by decide)
  obtain ⟨w2, h2, e2⟩ := pu_rm_in (pu_z1 (pu_z1 (g 0))) 9 (by decide) (by decide)
  obtain ⟨w3, h3, e3⟩ := pu_rm_in (pu_z1 (pu_z1 (pu_z1 (g 0)))) 1000 (by decide) (by decide)
  unfold pu_dr
  rw [show (6 : Int32) = nI 6 from rfl, show (9 : Int32) = nI 9 from rfl, show (1000 : Int32) = nI 1000 from rfl, e1, e2, e3, show (1 : Int32) = nI 1 from rfl, nI_add]
  refine pu_WG_addr (hg.up0 _) (by rw [n3]; exact hn) ?_ ?_ ?_ <;> (unfold pu_in; rw [nI_toInt (by omega)]; omega)
theorem pu_n_dr {g : Nat → Int32} (hn : pu_n g < 8) : pu_n (pu_dr g) = pu_n g + 1 := by
  unfold pu_dr pu_addr
  have n3 : ∀ z, pu_n (upd g 0 z) = pu_n g := fun z => by unfold pu_n; rw [pu_un (by omega)]
  rw [n3]
  unfold pu_n at hn ⊢
  rw [pu_ue]
  exact pu_cl (by omega)
theorem pu_tx_dr {g : Nat → Int32} (hn : pu_n g < 8) : pu_tx g (pu_dr g) := by
  have n3 : ∀ z, pu_n (upd g 0 z) = pu_n g := fun z => by unfold pu_n; rw [pu_un (by omega)]
  exact pu_tx.tr (pu_tx.up (pu_tx.rf g) (by omega) (by omega)) (pu_tx_addr _ (by rw [n3]; exact hn) _ _ _)
