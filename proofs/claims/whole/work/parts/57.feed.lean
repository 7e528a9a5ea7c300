/-! ===== feed ===== -/
def pu_by (x : Int32) (j : Nat) : Int32 := vp_nar .byte (Int32.toInt8 (x >>> nI (24 - 8 * j))).toInt32
def pu_bm (x : Int32) (j : Nat) : Int32 := (x >>> nI (24 - 8 * j)) &&& 255
theorem pu_byte_rel (v : Int32) : ∃ b, b < 256 ∧ v &&& 255 = nI b ∧ vp_nar .byte (Int32.toInt8 v).toInt32 = pu_byte b := by
  have e := pk_and v (m := 255) 8 (by decide)
  refine ⟨v.toBitVec.toNat % 2 ^ 8, Nat.mod_lt _ (by decide), e, ?_⟩
  have hn : vp_nar .byte (Int32.toInt8 v).toInt32 = (Int32.toInt8 v).toInt32 := by
    have := pk_nb v
    unfold vp_nar
    rw [this]
  rw [hn, fa_eq, Int8.toInt_toInt32, Int32.toInt_toInt8]
  have hv : v.toInt = (v.toBitVec.toNat : Int).bmod (2 ^ 32) := BitVec.toInt_eq_toNat_bmod v.toBitVec
  rw [hv, Int.bmod_bmod_of_dvd (by decide)]
  have hb : ((v.toBitVec.toNat : Int).bmod (2 ^ 8)) = (((v.toBitVec.toNat % 2 ^ 8 : Nat) : Int)).bmod (2 ^ 8) := by
    rw [Int.natCast_emod]
    exact (Int.emod_bmod (x := (v.toBitVec.toNat : Int)) (n := 2 ^ 8)).symm
  rw [hb]
  have hlt : v.toBitVec.toNat % 2 ^ 8 < 256 := Nat.mod_lt _ (by decide)
  generalize v.toBitVec.toNat % 2 ^ 8 = b at hlt ⊢
  unfold pu_byte
  by_cases z : b < 128
  · rw [if_pos z, nI_toInt (by omega), Int.bmod_eq_of_le (by omega) (by omega)]
  · rw [if_neg z, show (256 : Int32) = nI 256 from rfl, pk_sub_toInt (by omega) (by decide)]
    rw [show ((b : Nat) : Int) = ((b : Int) - 256) + ((2 ^ 8 : Nat) : Int) by omega, Int.add_bmod_right, Int.bmod_eq_of_le (by omega) (by omega)]
    omega
theorem p4_addstep {k : ovSt → Prop} {m n : Nat} (hn : n < 96) {x sh : Int32} {σ : ovSt} (h45 : σ 45 2 = nI n) (hsh : ¬ sh < 0) (h : ∀ σ', pu_ag (fun i => i = 45 ∨ i = 46) σ σ' → σ' 45 2 = nI (n + 1) → σ' 46 = upd (σ 46) n (vp_nar .byte (Int32.toInt8 (x >>> (sh &&& 31))).toInt32) → F_X4_addNumber_3 k m x (sh + (-8)) σ') : F_X4_addNumber_3 k (m + 1) x sh σ := by
  unfold F_X4_addNumber_3 F_X4_addNumber_39
  rw [if_neg hsh, h45, if_neg (by rw [show (96 : Int32) = nI 96 from rfl, nI_leI (by omega) (by omega)]; omega)]
  refine ⟨vp_in_nI (by omega) (by omega), ?_⟩
  rw [pu_cl (by omega)]
  intro σ2 e2 σ3 e3
  have f2 : σ2 45 2 = nI n := by rw [e2, pu_up_ne (by omega), h45]
  rw [f2, ← nI_succ] at e3
  refine h σ3 ?_ ?_ ?_
  · rw [e3]; refine pu_ag.up ?_ (by omega)
    rw [e2]; exact pu_ag.up1 (by omega)
  · rw [e3, pu_up_same, pu_ue]
  · rw [e3, pu_up_ne (by omega), e2, pu_up_same]
theorem p4_addNumber {k : ovSt → Prop} {x : Int32} {n : Nat} (hn : n + 4 ≤ 96) {σ : ovSt} (h45 : σ 45 2 = nI n) (h : ∀ σ', pu_ag (fun i => i = 45 ∨ i = 46) σ σ' → σ' 45 2 = nI (n + 4) → (∀ j, j < 4 → σ' 46 (n + j) = pu_by x j) → (∀ i, i < n → σ' 46 i = σ 46 i) → k σ') : F_X4_addNumber x σ k := by
  unfold F_X4_addNumber
  refine ⟨5, ?_⟩
  refine p4_addstep (n := n) (by omega) h45 (by decide) (fun σ1 a1 b1 c1 => ?_)
  refine p4_addstep (n := n + 1) (by omega) b1 (by decide) (fun σ2 a2 b2 c2 => ?_)
  refine p4_addstep (n := n + 1 + 1) (by omega) b2 (by decide) (fun σ3 a3 b3 c3 => ?_)
  refine p4_addstep (n := n + 1 + 1 + 1) (by omega) b3 (by decide) (fun σ4 a4 b4 c4 => ?_)
  unfold F_X4_addNumber_3
  rw [if_pos (by decide)]
  refine h σ4 (((a1.tr a2).tr a3).tr a4) b4 (fun j hj => ?_) (fun i hi => ?_)
  · rw [c4, c3, c2, c1]
    rcases (show j = 0 ∨ j = 1 ∨ j = 2 ∨ j = 3 by omega) with q | q | q | q
    · subst q; rw [pu_un (by omega), pu_un (by omega), pu_un (by omega)]; exact pu_ue _ _ _
    · subst q; rw [pu_un (by omega), pu_un (by omega)]; exact pu_ue _ _ _
    · subst q; rw [pu_un (by omega)]; exact pu_ue _ _ _
    · subst q; exact pu_ue _ _ _
  · rw [c4, c3, c2, c1, pu_un (by omega), pu_un (by omega), pu_un (by omega), pu_un (by omega)]
def pu_fw (a b c : Int32) (k : Nat) : Int32 := if k < 4 then a else if k < 8 then b else c
theorem p6_feed_loop {k : Int32 → ovSt → Prop} {a b c : Int32} {n : Nat} (hn : n + 12 ≤ 96) {f : Nat → Int32} : ∀ (m j : Nat) (σ : ovSt), j + m = 12 → σ 74 8 = nI n → (∀ i, i < j → σ 81 (n + i) = pu_bm (pu_fw a b c i) (i % 4)) → (∀ i, i < n → σ 81 i = f i) →
    (∀ σ', pu_ag (fun i => i = 74 ∨ i = 81) σ σ' → σ' 74 8 = nI (n + 12) → (∀ q, q ≠ 8 → σ' 74 q = σ 74 q) → (∀ i, i < 12 → σ' 81 (n + i) = pu_bm (pu_fw a b c i) (i % 4)) → (∀ i, i < n → σ' 81 i = f i) → k (nI (n + 12)) σ') → F_X6_feed_18 k (m + 1) a b c (nI j) σ
  | 0, j, σ, hj, h8, h1, h2, h => by
    have ej : j = 12 := by omega
    subst ej
    unfold F_X6_feed_18
    rw [if_pos (by decide)]
    intro σ3 e3
    rw [h8, show nI n + 12 = nI (n + 12) from nI_add n 12] at e3
    have g8 : σ3 74 8 = nI (n + 12) := by rw [e3, pu_up_same, pu_ue]
    rw [g8]
    refine h σ3 (by rw [e3]; exact pu_ag.up1 (by omega)) g8 (fun q hq => by rw [e3, pu_up_same, pu_un hq]) (fun i hi => ?_) (fun i hi => ?_)
    · rw [e3, pu_up_ne (by omega)]; exact h1 i hi
    · rw [e3, pu_up_ne (by omega)]; exact h2 i hi
  | m + 1, j, σ, hj, h8, h1, h2, h => by
    unfold F_X6_feed_18
    rw [if_neg (by rw [show (12 : Int32) = nI 12 from rfl, nI_leI (by omega) (by omega)]; omega)]
    have key : ∀ t, t = pu_fw a b c j → F_X6_feed_47 (F_X6_feed_18 k (m + 1)) k a b c (nI j) t σ := by
      intro t ht
      unfold F_X6_feed_47
      rw [h8, nI_add]
      have es : (24 - (8 * (nI j - nI j / 4 * 4))) &&& 31 = nI (24 - 8 * (j % 4)) := by
        rw [show (4 : Int32) = nI 4 from rfl, pk_rem (by omega) (by decide) (by decide), show (8 : Int32) = nI 8 from rfl, pk_mul, show (24 : Int32) = nI 24 from rfl, pk_sub (by omega), pk_andN (by omega) 5 (by decide)]
        congr 1
        omega
      rw [es, pu_cl (by omega), ← nI_succ]
      refine ⟨vp_in_nI (by omega) (by omega), ?_⟩
      intro σ2 e2
      have a2 : pu_ag (fun i => i = 74 ∨ i = 81) σ σ2 := by rw [e2]; exact pu_ag.up1 (by omega)
      refine p6_feed_loop hn (f := f) m (j + 1) σ2 (by omega) (by rw [e2, pu_up_ne (by omega), h8]) (fun i hi => ?_) (fun i hi => ?_) (fun σ3 a3 b3 c3 => h σ3 (a2.tr a3) b3 (fun q hq => by rw [c3 q hq, e2, pu_up_ne (by omega)]))
      · rw [e2, pu_up_same]
        by_cases z : i = j
        · rw [z, pu_ue, ht]; rfl
        · rw [pu_un (by omega)]; exact h1 i (by omega)
      · rw [e2, pu_up_same, pu_un (by omega)]; exact h2 i hi
    by_cases z4 : 4 ≤ j
    · rw [if_pos (show (4 : Int32) ≤ nI j from nI_le (a := 4) z4 (by omega))]
      by_cases z8 : 8 ≤ j
      · rw [if_pos (show (8 : Int32) ≤ nI j from nI_le (a := 8) z8 (by omega))]
        exact key c (by unfold pu_fw; rw [if_neg (by omega), if_neg (by omega)])
      · rw [if_neg (by rw [show (8 : Int32) = nI 8 from rfl, nI_leI (by omega) (by omega)]; omega)]
        exact key b (by unfold pu_fw; rw [if_neg (by omega), if_pos (by omega)])
    · rw [if_neg (by rw [show (4 : Int32) = nI 4 from rfl, nI_leI (by omega) (by omega)]; omega)]
      exact key a (by unfold pu_fw; rw [if_pos (by omega)])
theorem v_feed {σ : ovSt} (h : ovInv σ) (a b c : Int32) : F_X5_feed a b c σ (fun r σ1 => F_X6_feed a b c σ1 (fun r' σ2 => r = r' ∧ ovInv σ2)) := by
  obtain ⟨w1, n, hn, w2, w3⟩ := h.2.2.1
  have w9 : σ 45 2 = nI n := w1.trans w2
  unfold F_X5_feed
  rw [w9]
  by_cases z : n ≤ 84
  · rw [if_pos (show nI n ≤ (84 : Int32) from nI_le (b := 84) z (by omega))]
    refine p4_addNumber (n := n) (by omega) w9 (fun σ1 a1 b1 c1 d1 => ?_)
    refine p4_addNumber (n := n + 4) (by omega) b1 (fun σ2 a2 b2 c2 d2 => ?_)
    refine p4_addNumber (n := n + 4 + 4) (by omega) b2 (fun σ3 a3 b3 c3 d3 => ?_)
    have ag3 : pu_ag (fun i => i = 45 ∨ i = 46) σ σ3 := (a1.tr a2).tr a3
    show F_X6_feed _ _ _ _ _
    unfold F_X6_feed
    have m8 : σ3 74 8 = nI n := by rw [ag3 74 (by omega), w2]
    rw [m8, if_pos (show nI n + 12 ≤ (96 : Int32) from by rw [show nI n + 12 = nI (n + 12) from nI_add n 12]; exact nI_le (b := 96) (by omega) (by omega))]
    refine ⟨13, p6_feed_loop (f := σ 81) (by omega) 12 0 σ3 (by omega) m8 (fun i hi => absurd hi (by omega)) (fun i hi => by rw [ag3 81 (by omega)]) (fun σ4 a4 b4 c4 d4 f4 => ?_)⟩
    have ag : pu_ag (fun i => i = 45 ∨ i = 46 ∨ i = 74 ∨ i = 81) σ σ4 := (ag3.mono (fun i hi => by omega)).tr (a4.mono (fun i hi => by omega))
    have q74 : ∀ q, q ≠ 8 → σ4 74 q = σ 74 q := fun q hq => by rw [c4 q hq, ag3 74 (by omega)]
    refine ⟨b3, h.fr (fun i hi => ag i (fun q => hi (by unfold pu_XF; omega))) (by rw [ag 0 (by omega)]) (q74 3 (by omega)) ?_ (h.2.2.2.1.cg (ag 50 (by omega)) (ag 97 (by omega)) (by rw [ag 0 (by omega)]) (q74 34 (by omega))) (h.2.2.2.2.1.cg (fun i hi => ag i (by omega))) (h.2.2.2.2.2.1.cg (fun i hi => ag i (by omega)))⟩
    refine ⟨by rw [a4 45 (by omega), b3, b4], n + 12, by omega, b4, fun i hi => ?_⟩
    rw [a4 46 (by omega)]
    by_cases zi : i < n
    · rw [f4 i zi, d3 i (by omega), d2 i (by omega), d1 i zi]
      exact w3 i zi
    · have ei : i = n + (i - n) := by omega
      rw [ei, d4 (i - n) (by omega)]
      generalize i - n = j at ei
      subst ei
      have hj : j < 12 := by omega
      obtain ⟨B, hB, q1, q2⟩ := pu_byte_rel (pu_fw a b c j >>> nI (24 - 8 * (j % 4)))
      refine ⟨B, hB, q1, ?_⟩
      rw [← q2]
      by_cases z4 : j < 4
      · rw [d3 (n + j) (by omega), d2 (n + j) (by omega), c1 j z4]
        unfold pu_by pu_fw
        rw [if_pos z4, show j % 4 = j by omega]
      · by_cases z8 : j < 8
        · rw [d3 (n + j) (by omega), show n + j = n + 4 + (j - 4) by omega, c2 (j - 4) (by omega)]
          unfold pu_by pu_fw
          rw [if_neg z4, if_pos z8, show j % 4 = j - 4 by omega]
        · rw [show n + j = n + 4 + 4 + (j - 8) by omega, c3 (j - 8) (by omega)]
          unfold pu_by pu_fw
          rw [if_neg z4, if_neg z8, show j % 4 = j - 8 by omega]
  · rw [if_neg (by rw [show (84 : Int32) = nI 84 from rfl, nI_leI (by omega) (by omega)]; exact z)]
    show F_X6_feed _ _ _ _ _
    unfold F_X6_feed
    rw [w2, if_neg (by rw [show nI n + 12 = nI (n + 12) from nI_add n 12, show (96 : Int32) = nI 96 from rfl, nI_leI (by omega) (by omega)]; omega)]
    exact ⟨rfl, h⟩
