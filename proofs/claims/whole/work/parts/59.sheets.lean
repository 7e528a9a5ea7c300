/-! ===== sheets ===== -/
theorem pu_shx (x : Int32) : (x < 0 ∨ 3 < x) ∨ ∃ s, s < 4 ∧ x = nI s := by
  by_cases z : x < 0 ∨ 3 < x
  · exact Or.inl z
  · right
    obtain ⟨x1, x2⟩ := pu_bt z
    have e0 : (0 : Int32).toInt = 0 := rfl
    have e3 : (3 : Int32).toInt = 3 := rfl
    obtain ⟨s, hs, es⟩ := pu_ofInt (x := x) (b := 4) (by omega) (by omega) (by omega)
    exact ⟨s, hs, es⟩
theorem pu_slx (x : Int32) : (x < 0 ∨ 4 < x) ∨ ∃ s, s < 5 ∧ x = nI s := by
  by_cases z : x < 0 ∨ 4 < x
  · exact Or.inl z
  · right
    obtain ⟨x1, x2⟩ := pu_bt z
    have e0 : (0 : Int32).toInt = 0 := rfl
    have e3 : (4 : Int32).toInt = 4 := rfl
    obtain ⟨s, hs, es⟩ := pu_ofInt (x := x) (b := 5) (by omega) (by omega) (by omega)
    exact ⟨s, hs, es⟩
theorem pu_inN {n m : Nat} (h : n ≤ m) (hm : m < 2 ^ 31) : ¬ (nI n < 0 ∨ nI m < nI n) := by
  rintro (q | q)
  · exact nI_pos (by omega) q
  · rw [nI_ltI hm (by omega)] at q; omega
theorem e5_sh_no {x : Int32} (h : x < 0 ∨ 3 < x) (σ : ovSt) (k : Int32 → ovSt → Prop) : F_X5_isSheet x σ k = k 0 σ := by
  unfold F_X5_isSheet
  rw [pu_no5 h, pu_and pu_bl0]
theorem e5_sh_yes {s : Nat} (h : s < 4) (σ : ovSt) (k : Int32 → ovSt → Prop) : F_X5_isSheet (nI s) σ k = k 1 σ := by
  unfold F_X5_isSheet
  rw [pu_yes5 (show ¬ (nI s < 0 ∨ 3 < nI s) from pu_inN (m := 3) (by omega) (by decide)), pu_and pu_bl1]
theorem e6_sh_no {x : Int32} (h : x < 0 ∨ 3 < x) (σ : ovSt) (k : Int32 → ovSt → Prop) : F_X6_isSheet x σ k = k 0 σ := by
  unfold F_X6_isSheet
  rw [pu_no6 h, pu_and pu_bl0]
theorem e6_sh_yes {s : Nat} (h : s < 4) (σ : ovSt) (k : Int32 → ovSt → Prop) : F_X6_isSheet (nI s) σ k = k 1 σ := by
  unfold F_X6_isSheet
  rw [pu_yes6 (show ¬ (nI s < 0 ∨ 3 < nI s) from pu_inN (m := 3) (by omega) (by decide)), pu_and pu_bl1]
theorem e5_sl_no {x : Int32} (h : x < 0 ∨ 4 < x) (σ : ovSt) (k : Int32 → ovSt → Prop) : F_X5_isSlot x σ k = k 0 σ := by
  unfold F_X5_isSlot
  rw [pu_no5 h, pu_and pu_bl0]
theorem e5_sl_yes {s : Nat} (h : s < 5) (σ : ovSt) (k : Int32 → ovSt → Prop) : F_X5_isSlot (nI s) σ k = k 1 σ := by
  unfold F_X5_isSlot
  rw [pu_yes5 (show ¬ (nI s < 0 ∨ 4 < nI s) from pu_inN (m := 4) (by omega) (by decide)), pu_and pu_bl1]
theorem e6_sl_no {x : Int32} (h : x < 0 ∨ 4 < x) (σ : ovSt) (k : Int32 → ovSt → Prop) : F_X6_isSlot x σ k = k 0 σ := by
  unfold F_X6_isSlot
  rw [pu_no6 h, pu_and pu_bl0]
theorem e6_sl_yes {s : Nat} (h : s < 5) (σ : ovSt) (k : Int32 → ovSt → Prop) : F_X6_isSlot (nI s) σ k = k 1 σ := by
  unfold F_X6_isSlot
  rw [pu_yes6 (show ¬ (nI s < 0 ∨ 4 < nI s) from pu_inN (m := 4) (by omega) (by decide)), pu_and pu_bl1]
theorem pu_isr {s : Nat} (h : s < 4) : ov_isr (51 + 2 * s) := by
  unfold ov_isr
  omega
theorem pu_isr2 {s : Nat} (h : s < 5) : ov_isr (59 + 3 * s + 1) := by
  unfold ov_isr
  omega
/-- missing or not -/
theorem pu_ms {σ : ovSt} {s : Nat} (h : pu_IS1 σ s) : (σ 89 s = -1 ∧ ¬ 0 ≤ σ 89 s ∧ σ 89 s < 0) ∨ (¬ σ 89 s = -1 ∧ 0 ≤ σ 89 s ∧ ¬ σ 89 s < 0) := by
  obtain ⟨-, -, ⟨h1, h2⟩, -⟩ := h
  have e0 : (0 : Int32).toInt = 0 := rfl
  have em : (-1 : Int32).toInt = -1 := rfl
  rw [fa_eq, fa_le, fa_lt, e0, em]
  omega
theorem e1_miss {σ : ovSt} {s : Nat} (hs : s < 4) (h : pu_IS1 σ s) (hm : σ 89 s = -1) (k : Int32 → ovSt → Prop) : F_X1_isMissing (51 + 2 * s) σ k = k 1 σ := by
  unfold F_X1_isMissing F_X1_isMissing_13
  rw [pu_and (pu_isr hs), h.1, if_pos hm, pu_and pu_bl1]
theorem e1_nmiss {σ : ovSt} {s : Nat} (hs : s < 4) (h : pu_IS1 σ s) (hm : ¬ σ 89 s = -1) (k : Int32 → ovSt → Prop) : F_X1_isMissing (51 + 2 * s) σ k = k 0 σ := by
  unfold F_X1_isMissing F_X1_isMissing_13
  rw [pu_and (pu_isr hs), h.1, if_neg hm, pu_and pu_bl0]
theorem e1_place_no {r : Nat} (hr : ov_isr r) {σ : ovSt} {x : Int32} (h : x < 0 ∨ σ r 2 ≤ x) (k : Int32 → ovSt → Prop) : F_X1_hasPlace r x σ k = k 0 σ := by
  unfold F_X1_hasPlace F_X1_hasPlace_16 F_X1_hasPlace_17
  rw [pu_and hr, pu_and pu_bl0, pu_and pu_bl1]
  by_cases z : x < 0
  · rw [if_pos z]
  · rw [if_neg z, if_pos (h.resolve_left z)]
theorem e1_place_yes {r : Nat} (hr : ov_isr r) {σ : ovSt} {x : Int32} (h : ¬ (x < 0 ∨ σ r 2 ≤ x)) (k : Int32 → ovSt → Prop) : F_X1_hasPlace r x σ k = k 1 σ := by
  unfold F_X1_hasPlace F_X1_hasPlace_16 F_X1_hasPlace_17
  rw [pu_and hr, pu_and pu_bl0, pu_and pu_bl1, if_neg (fun q => h (Or.inl q)), if_neg (fun q => h (Or.inr q))]
theorem e1_num {r : Nat} (hr : ov_isr r) {σ : ovSt} {p : Nat} (hp : p < 24) (k : Int32 → ovSt → Prop) : F_X1_isNumber r (nI p) σ k = (if σ (r + 1) p = -1000000005 then k 0 σ else k 1 σ) := by
  unfold F_X1_isNumber F_X1_isNumber_16
  rw [pu_and hr, pu_and (vp_in_nI hp (by decide)), pu_cl (by omega), pu_and pu_bl0, pu_and pu_bl1]
/-- a place, seen by both -/
theorem pu_plx {x v : Int32} {n : Nat} (hn : n ≤ 24) (hv : v = nI n) : ((x < 0 ∨ v ≤ x) ∧ (x < 0 ∨ v - 1 < x)) ∨ (¬ (x < 0 ∨ v ≤ x) ∧ ¬ (x < 0 ∨ v - 1 < x) ∧ ∃ p, p < n ∧ x = nI p) := by
  subst hv
  have es := pk_sub_toInt (a := n) (b := 1) (by omega) (by decide)
  have e0 : (0 : Int32).toInt = 0 := rfl
  have en : (nI n).toInt = n := nI_toInt (by omega)
  rw [fa_lt, fa_le, fa_lt, show (1 : Int32) = nI 1 from rfl, es, e0, en]
  by_cases z : x.toInt < 0 ∨ (n : Int) ≤ x.toInt
  · left; omega
  · right
    refine ⟨z, by omega, ?_⟩
    obtain ⟨p, hp, ep⟩ := pu_ofInt (x := x) (b := n) (by omega) (by omega) (by omega)
    exact ⟨p, hp, ep⟩
/-- one sheet changed -/
theorem pu_IS.set {σ σ' : ovSt} (h : pu_IS σ) {s : Nat} (e : ∀ i, ((51 ≤ i ∧ i ≤ 58) ∧ ¬ i = 51 + 2 * s ∧ ¬ i = 51 + 2 * s + 1) → σ' i = σ i) (h89 : ∀ c, c ≠ s → σ' 89 c = σ 89 c) (h90 : ∀ c, c ≠ s → σ' 90 c = σ 90 c) (h91 : ∀ c, (c < 24 * s ∨ 24 * s + 24 ≤ c) → σ' 91 c = σ 91 c) (hn : pu_IS1 σ' s) : pu_IS σ' := by
  intro q hq
  by_cases z : q = s
  · rw [z]; exact hn
  · unfold pu_IS1
    rw [e (51 + 2 * q) (by omega), e (51 + 2 * q + 1) (by omega), h89 q z, h90 q z]
    obtain ⟨r1, r2, r3, r4, r5⟩ := h q hq
    refine ⟨r1, r2, r3, r4, fun i hi => ?_⟩
    rw [h91 (24 * q + i) (by omega)]
    exact r5 i hi
theorem p1_begin_loop {r : Nat} {k : ovSt → Prop} : ∀ (m j : Nat) (σ : ovSt), j + m = 24 → (∀ i, i < j → σ (r + 1) i = 0) → (∀ σ', pu_ag (fun i => i = r + 1) σ σ' → (∀ i, i < 24 → σ' (r + 1) i = 0) → k σ') → F_X1_begin_12 r k (m + 1) (nI j) σ
  | 0, j, σ, hj, h0, h => by
    have ej : j = 24 := by omega
    subst ej
    unfold F_X1_begin_12
    rw [if_pos (by decide)]
    exact h σ (pu_ag.rf _ σ) h0
  | m + 1, j, σ, hj, h0, h => by
    unfold F_X1_begin_12
    rw [if_neg (by rw [show (24 : Int32) = nI 24 from rfl, nI_leI (by omega) (by omega)]; omega)]
    refine ⟨vp_in_nI (by omega) (by omega), ?_⟩
    rw [pu_cl (by omega), ← nI_succ]
    intro σ2 e2
    have a2 : pu_ag (fun i => i = r + 1) σ σ2 := by rw [e2]; exact pu_ag.up1 rfl
    refine p1_begin_loop m (j + 1) σ2 (by omega) (fun i hi => ?_) (fun σ3 h3 => h σ3 (a2.tr h3))
    rw [e2, pu_up_same]
    by_cases z : i = j
    · rw [z, pu_ue]
    · rw [pu_un z]; exact h0 i (by omega)
theorem p1_begin {r : Nat} (hr : ov_isr r) {x1 x2 : Int32} {k : ovSt → Prop} {σ : ovSt} (h : ∀ σ', pu_ag (fun i => i = r ∨ i = r + 1) σ σ' → σ' r = upd (upd (σ r) 1 x1) 2 x2 → (∀ i, i < 24 → σ' (r + 1) i = 0) → k σ') : F_X1_begin r x1 x2 σ k := by
  unfold F_X1_begin
  refine ⟨hr, ?_⟩
  intro σ3 e3 σ4 e4
  have a4 : pu_ag (fun i => i = r ∨ i = r + 1) σ σ4 := by
    rw [e4]; refine pu_ag.up ?_ (by omega)
    rw [e3]; exact pu_ag.up1 (by omega)
  refine ⟨25, p1_begin_loop 24 0 σ4 (by omega) (fun i hi => absurd hi (by omega)) (fun σ5 h5 z5 => ?_)⟩
  refine h σ5 (a4.tr (h5.mono (fun i hi => by omega))) ?_ z5
  rw [h5 r (by omega), e4, pu_up_same, e3, pu_up_same]
theorem pu_ix24 (s p : Nat) : (24 * nI s) + nI p = nI (24 * s + p) := by
  rw [show (24 : Int32) = nI 24 from rfl, pk_mul, nI_add]
theorem p6_sheet_loop {k : Int32 → ovSt → Prop} {s : Nat} (hs : s < 4) {f : Nat → Int32} : ∀ (m j : Nat) (σ : ovSt), j + m = 24 → (∀ i, i < j → σ 91 (24 * s + i) = 0) → (∀ c, (c < 24 * s ∨ 24 * s + 24 ≤ c) → σ 91 c = f c) → (∀ σ', pu_ag (fun i => i = 91) σ σ' → (∀ i, i < 24 → σ' 91 (24 * s + i) = 0) → (∀ c, (c < 24 * s ∨ 24 * s + 24 ≤ c) → σ' 91 c = f c) → k (σ' 90 s) σ') → F_X6_sheet_66 k (m + 1) (nI s) (nI j) σ
  | 0, j, σ, hj, h0, hf, h => by
    have ej : j = 24 := by omega
    subst ej
    unfold F_X6_sheet_66
    rw [if_pos (by decide)]
    refine ⟨vp_in_nI hs (by omega), ?_⟩
    rw [pu_cl (by omega)]
    exact h σ (pu_ag.rf _ σ) h0 hf
  | m + 1, j, σ, hj, h0, hf, h => by
    unfold F_X6_sheet_66
    rw [if_neg (by rw [show (24 : Int32) = nI 24 from rfl, nI_leI (by omega) (by omega)]; omega), pu_ix24, pu_cl (by omega), ← nI_succ]
    refine ⟨vp_in_nI (by omega) (by omega), ?_⟩
    intro σ2 e2
    have a2 : pu_ag (fun i => i = 91) σ σ2 := by rw [e2]; exact pu_ag.up1 rfl
    refine p6_sheet_loop hs (f := f) m (j + 1) σ2 (by omega) (fun i hi => ?_) (fun c hc => ?_) (fun σ3 h3 => h σ3 (a2.tr h3))
    · rw [e2, pu_up_same]
      by_cases z : i = j
      · rw [z, pu_ue]
      · rw [pu_un (by omega)]; exact h0 i (by omega)
    · rw [e2, pu_up_same, pu_un (by omega)]; exact hf c hc
theorem p6_sheet41 {k : Int32 → ovSt → Prop} {s : Nat} (hs : s < 4) {b c v : Int32} (hv : v = if 0 ≤ b then c else 0) {σ : ovSt} (h : ∀ σ', pu_ag (fun i => i = 89 ∨ i = 90 ∨ i = 91) σ σ' → σ' 89 = upd (σ 89) s b → σ' 90 = upd (σ 90) s v → (∀ i, i < 24 → σ' 91 (24 * s + i) = 0) → (∀ q, (q < 24 * s ∨ 24 * s + 24 ≤ q) → σ' 91 q = σ 91 q) → k v σ') : F_X6_sheet_41 k (nI s) b c σ := by
  have key : ∀ σ8, σ8 = ov_up σ 89 s b → F_X6_sheet_62 k (nI s) v (nI s) σ8 := by
    intro σ8 e8
    unfold F_X6_sheet_62
    refine ⟨vp_in_nI hs (by omega), ?_⟩
    rw [pu_cl (by omega)]
    intro σ5 e5
    have a5 : pu_ag (fun i => i = 89 ∨ i = 90 ∨ i = 91) σ σ5 := by
      rw [e5]; refine pu_ag.up ?_ (by omega)
      rw [e8]; exact pu_ag.up1 (by omega)
    refine ⟨25, p6_sheet_loop hs (f := σ 91) 24 0 σ5 (by omega) (fun i hi => absurd hi (by omega)) (fun q hq => ?_) (fun σ6 h6 z6 y6 => ?_)⟩
    · rw [e5, pu_up_ne (by omega), e8, pu_up_ne (by omega)]
    · have g90 : σ6 90 = upd (σ 90) s v := by rw [h6 90 (by omega), e5, pu_up_same, e8, pu_up_ne (by omega)]
      rw [g90, pu_ue]
      refine h σ6 (a5.tr (h6.mono (fun i hi => by omega))) ?_ g90 z6 y6
      rw [h6 89 (by omega), e5, pu_up_ne (by omega), e8, pu_up_same]
  unfold F_X6_sheet_41
  refine ⟨vp_in_nI hs (by omega), ?_⟩
  rw [pu_cl (by omega)]
  intro σ8 e8
  have := key σ8 e8
  by_cases z : 0 ≤ b
  · rw [if_pos z] at hv ⊢
    rw [hv] at this; exact this
  · rw [if_neg z] at hv ⊢
    rw [hv] at this; exact this
/-- both have begun a sheet -/
theorem pu_sheet_end {σ σ1 σ2 : ovSt} (h : ovInv σ) {s n : Nat} (hs : s < 4) (hn : n ≤ 24) {b : Int32} (hb : pu_in b (-1) 1) (a1 : pu_ag (fun i => i = 51 + 2 * s ∨ i = 51 + 2 * s + 1) σ σ1) (e1 : σ1 (51 + 2 * s) = upd (upd (σ (51 + 2 * s)) 1 b) 2 (nI n)) (z1 : ∀ i, i < 24 → σ1 (51 + 2 * s + 1) i = 0) (a2 : pu_ag (fun i => i = 89 ∨ i = 90 ∨ i = 91) σ1 σ2) (e89 : σ2 89 = upd (σ1 89) s b) (e90 : σ2 90 = upd (σ1 90) s (nI n)) (z2 : ∀ i, i < 24 → σ2 91 (24 * s + i) = 0) (y2 : ∀ q, (q < 24 * s ∨ 24 * s + 24 ≤ q) → σ2 91 q = σ1 91 q) : ovInv σ2 := by
  have ag : pu_ag (fun i => i = 51 + 2 * s ∨ i = 51 + 2 * s + 1 ∨ i = 89 ∨ i = 90 ∨ i = 91) σ σ2 := (a1.mono (fun i hi => by omega)).tr (a2.mono (fun i hi => by omega))
  refine h.fr (fun i hi => ag i (fun q => hi (by unfold pu_XF; omega))) (by rw [ag 0 (by omega)]) (by rw [ag 74 (by omega)]) (h.2.2.1.cg (ag 46 (by omega)) (ag 81 (by omega)) (by rw [ag 45 (by omega)]) (by rw [ag 74 (by omega)])) (h.2.2.2.1.cg (ag 50 (by omega)) (ag 97 (by omega)) (by rw [ag 0 (by omega)]) (by rw [ag 74 (by omega)])) ?_ (h.2.2.2.2.2.1.cg (fun i hi => ag i (by omega)))
  refine h.2.2.2.2.1.set (s := s) (fun i hi => ag i (by omega)) (fun c hc => ?_) (fun c hc => ?_) (fun c hc => ?_) ⟨?_, ?_, ?_, ?_, fun i hi => ?_⟩
  · rw [e89, pu_un hc, a1 89 (by omega)]
  · rw [e90, pu_un hc, a1 90 (by omega)]
  · rw [y2 c hc, a1 91 (by omega)]
  · rw [a2 (51 + 2 * s) (by omega), e1, pu_un (by omega), pu_ue, e89, pu_ue]
  · rw [a2 (51 + 2 * s) (by omega), e1, pu_ue, e90, pu_ue]
  · rw [e89, pu_ue]; exact hb
  · exact ⟨n, hn, by rw [e90, pu_ue]⟩
  · rw [a2 (51 + 2 * s + 1) (by omega), z1 i hi, z2 i hi]
    exact ⟨rfl, Or.inr ⟨by decide, by decide⟩⟩
theorem v_sheet {σ : ovSt} (h : ovInv σ) (a b c : Int32) : F_X5_sheet a b c σ (fun r σ1 => F_X6_sheet a b c σ1 (fun r' σ2 => r = r' ∧ ovInv σ2)) := by
  unfold F_X5_sheet F_X5_sheet_16
  rcases pu_shx a with ha | ⟨s, hs, es⟩
  · rw [e5_sh_no ha, if_pos rfl]
    show F_X6_sheet _ _ _ _ _
    unfold F_X6_sheet F_X6_sheet_26
    rw [e6_sh_no ha, if_pos rfl]
    exact ⟨rfl, h⟩
  subst es
  rw [e5_sh_yes hs, if_neg (by decide)]
  by_cases zb : b < (-1) ∨ 1 < b
  · rw [pu_no5 zb, if_pos rfl]
    show F_X6_sheet _ _ _ _ _
    unfold F_X6_sheet F_X6_sheet_26
    rw [e6_sh_yes hs, if_neg (by decide), pu_no6 zb, if_pos rfl]
    exact ⟨rfl, h⟩
  rw [pu_yes5 zb, if_neg (by decide), pu_cl (by omega)]
  have hb := pu_bt zb
  have em : (-1 : Int32).toInt = -1 := rfl
  have e0 : (0 : Int32).toInt = 0 := rfl
  have e1 : (1 : Int32).toInt = 1 := rfl
  by_cases z : b = -1
  · rw [if_pos z]
    refine ⟨vp_in_nI hs (by omega), ?_⟩
    refine p1_begin (pu_isr hs) (fun σ1 a1 q1 z1 => ?_)
    show F_X6_sheet _ _ _ _ _
    unfold F_X6_sheet F_X6_sheet_29
    have zn : b < 0 := by rw [z]; decide
    rw [e6_sh_yes hs, if_neg (by decide), pu_yes6 zb, if_neg (by decide), if_pos zn, if_pos zn]
    refine p6_sheet41 hs (v := 0) (by rw [z, if_neg (by decide)]) (fun σ2 a2 f89 f90 z2 y2 => ?_)
    refine ⟨rfl, pu_sheet_end h hs (n := 0) (by omega) hb a1 (by rw [q1, z]; rfl) z1 a2 f89 f90 z2 y2⟩
  · rw [if_neg z]
    have zn : ¬ b < 0 := by
      rw [fa_eq, em] at z
      rw [fa_lt, e0]
      have := hb.1
      omega
    by_cases zc : c ≤ 24
    · rw [if_pos zc]
      by_cases zd : 0 ≤ c
      · rw [if_pos zd]
        have hc : ∃ n, n < 25 ∧ c = nI n := by
          have e24 : (24 : Int32).toInt = 24 := rfl
          rw [fa_le] at zc zd
          exact pu_ofInt (by omega) (by omega) (by omega)
        obtain ⟨n, hn, ec⟩ := hc
        refine ⟨vp_in_nI hs (by omega), ?_⟩
        refine p1_begin (pu_isr hs) (fun σ1 a1 q1 z1 => ?_)
        show F_X6_sheet _ _ _ _ _
        unfold F_X6_sheet F_X6_sheet_29
        rw [e6_sh_yes hs, if_neg (by decide), pu_yes6 zb, if_neg (by decide), if_neg zn, if_pos zc, if_neg zn, if_pos zd]
        refine p6_sheet41 hs (v := c) (by rw [if_pos (by rw [fa_le]; rw [fa_lt] at zn; omega)]) (fun σ2 a2 f89 f90 z2 y2 => ?_)
        refine ⟨rfl, pu_sheet_end h hs (n := n) (by omega) hb a1 (by rw [q1, ec]) z1 a2 f89 (by rw [f90, ec]) z2 y2⟩
      · rw [if_neg zd]
        show F_X6_sheet _ _ _ _ _
        unfold F_X6_sheet F_X6_sheet_29
        rw [e6_sh_yes hs, if_neg (by decide), pu_yes6 zb, if_neg (by decide), if_neg zn, if_pos zc, if_neg zn, if_neg zd]
        exact ⟨rfl, h⟩
    · rw [if_neg zc]
      show F_X6_sheet _ _ _ _ _
      unfold F_X6_sheet F_X6_sheet_26
      rw [e6_sh_yes hs, if_neg (by decide), pu_yes6 zb, if_neg (by decide), if_neg zn, if_neg zc]
      exact ⟨rfl, h⟩
