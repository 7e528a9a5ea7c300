/-! ===== pour, reads ===== -/
def pu_po1 (P : Nat → Int32) (t : Nat) (g : Nat → Int32) : Nat → Int32 := if P t = -1000000005 then g else upd g (8 + 4 * t + 2) (pu_within (P t) 0 99999)
def pu_pc1 (P : Nat → Int32) (t : Nat) (g : Nat → Int32) (x : Int32) : Int32 := if P t = -1000000005 then x else if g (8 + 4 * t + 2) = pu_within (P t) 0 99999 then x else x + 1
def pu_pog (P : Nat → Int32) : Nat → Nat → (Nat → Int32) → Nat → Int32
  | 0, _, g => g
  | m + 1, t, g => pu_pog P m (t + 1) (pu_po1 P t g)
def pu_poc (P : Nat → Int32) : Nat → Nat → (Nat → Int32) → Int32 → Int32
  | 0, _, _, x => x
  | m + 1, t, g, x => pu_poc P m (t + 1) (pu_po1 P t g) (pu_pc1 P t g x)
theorem pu_po1_ok {P : Nat → Int32} {t : Nat} (ht : t < 8) {g : Nat → Int32} (hg : pu_WG g) : pu_WG (pu_po1 P t g) ∧ pu_n (pu_po1 P t g) = pu_n g ∧ pu_tx g (pu_po1 P t g) ∧ pu_po1 P t g 4 = g 4 := by
  unfold pu_po1
  by_cases z : P t = -1000000005
  · rw [if_pos z]; exact ⟨hg, rfl, pu_tx.rf g, rfl⟩
  · rw [if_neg z]
    refine ⟨hg.upt2 ht (pu_within_in (lo := 0) (hi := 99999) (by decide)), ?_, pu_tx.up (pu_tx.rf g) (by omega) (by omega), pu_un (by omega)⟩
    unfold pu_n
    rw [pu_un (by omega)]
theorem pu_pog_ok {P : Nat → Int32} : ∀ (m t : Nat) (g : Nat → Int32), t + m ≤ 8 → pu_WG g → pu_WG (pu_pog P m t g) ∧ pu_tx g (pu_pog P m t g) ∧ pu_pog P m t g 4 = g 4
  | 0, _, g, _, hg => ⟨hg, pu_tx.rf g, rfl⟩
  | m + 1, t, g, ht, hg => by
    obtain ⟨h1, -, h3, h4⟩ := pu_po1_ok (P := P) (t := t) (by omega) hg
    obtain ⟨q1, q2, q3⟩ := pu_pog_ok (P := P) m (t + 1) _ (by omega) h1
    exact ⟨q1, h3.tr q2, q3.trans h4⟩
theorem p5_pour_loop {k : Int32 → ovSt → Prop} {P : Nat → Int32} {s n S : Nat} (hs : s < 4) (hS : S ≤ 24) : ∀ (m t : Nat) (g : Nat → Int32) (x : Int32) (σ : ovSt), t + m = min n S → pu_WG g → pu_n g = n → pu_RS σ 21 g → σ (51 + 2 * s) 2 = nI S → (∀ i, i < 24 → σ (51 + 2 * s + 1) i = P i) → (∀ σ', pu_ag (pu_stX 21) σ σ' → pu_RS σ' 21 (pu_pog P m t g) → k (pu_poc P m t g x) σ') → F_X5_pour_32 k (m + 1) (51 + 2 * s) x (nI t) σ
  | 0, t, g, x, σ, ht, hg, hn, hR, h2, hP, h => by
    have hb := pu_WG_n hg
    rw [hn] at hb
    unfold F_X5_pour_32 F_X5_pour_117
    rw [hR.1.2.1, hb.2, h2]
    have h0 := h σ (pu_ag.rf _ σ) hR
    by_cases z : n ≤ t
    · rw [if_pos (nI_le z (by omega))]; exact h0
    · rw [if_neg (by rw [nI_leI (by omega) (by omega)]; exact z), if_pos (nI_le (by omega) (by omega))]; exact h0
  | m + 1, t, g, x, σ, ht, hg, hn, hR, h2, hP, h => by
    have hb := pu_WG_n hg
    rw [hn] at hb
    have ht8 : t < 8 := by omega
    have ht24 : t < 24 := by omega
    obtain ⟨o1, o2, o3, o4⟩ := pu_po1_ok (P := P) ht8 hg
    have nx := fun (x1 : Int32) (σ2 : ovSt) (a2 : pu_ag (pu_stX 21) σ σ2) (R2 : pu_RS σ2 21 (pu_po1 P t g)) (hx : x1 = pu_pc1 P t g x) => p5_pour_loop (k := k) (P := P) (n := n) hs hS m (t + 1) (pu_po1 P t g) x1 σ2 (by omega) o1 (o2.trans hn) R2 (by rw [a2 _ (by unfold pu_stX; omega), h2]) (fun i hi => by rw [a2 _ (by unfold pu_stX; omega)]; exact hP i hi) (fun σ3 h3 R3 => by rw [hx]; exact h σ3 (a2.tr h3) R3)
    unfold F_X5_pour_32
    rw [hR.1.2.1, hb.2, h2, if_neg (by rw [nI_leI (by omega) (by omega)]; omega), if_neg (by rw [nI_leI (by omega) (by omega)]; omega), e1_num (pu_isr hs) ht24, hP t ht24]
    by_cases z : P t = -1000000005
    · rw [if_pos z, if_pos rfl]
      unfold F_X5_pour_111
      rw [← nI_succ]
      refine nx x σ (pu_ag.rf _ _) ?_ (by unfold pu_pc1; rw [if_pos z])
      unfold pu_po1
      rw [if_pos z]
      exact hR
    · rw [if_neg z, if_neg (by decide)]
      refine ⟨vp_in_nI ht24 (by omega), ?_⟩
      rw [pu_cl (by omega), hP t ht24]
      unfold F_X5_held
      rw [pu_held_within (by decide)]
      refine ⟨vp_in_nI ht8 (by omega), ?_⟩
      rw [show σ 24 t = g (8 + 4 * t + 2) from (hR.2.1 t ht8).2.2.1]
      have fin : ∀ (v : Int32), x + v = pu_pc1 P t g x → F_X5_pour_97 (F_X5_pour_32 k (m + 1)) k (51 + 2 * s) (nI t) (pu_within (P t) 0 99999) v x σ := by
        intro v hv
        unfold F_X5_pour_97 F_X5_pour_111
        intro v1 hv1
        refine ⟨vp_in_nI ht8 (by omega), ?_⟩
        rw [pu_cl (by omega), ← nI_succ]
        intro σ3 e3
        refine nx v1 σ3 ?_ ?_ (hv1.trans hv)
        · rw [e3]; exact pu_ag.up1 (by unfold pu_stX; omega)
        · unfold pu_po1
          rw [if_neg z, e3]
          exact hR.upt2 ht8 _
      by_cases y : g (8 + 4 * t + 2) = pu_within (P t) 0 99999
      · rw [if_pos y]
        exact fin 0 (by unfold pu_pc1; rw [if_neg z, if_pos y, Int32.add_zero])
      · rw [if_neg y]
        exact fin 1 (by unfold pu_pc1; rw [if_neg z, if_neg y])
theorem pu_upd_id (g : Nat → Int32) (c : Nat) : upd g c (g c) = g := by
  funext i
  by_cases z : i = c
  · rw [z, pu_ue]
  · rw [pu_un z]
theorem pu_up_id (σ : ovSt) (i c : Nat) : ov_up σ i c (σ i c) = σ := by
  funext j
  by_cases z : j = i
  · rw [z, pu_up_same, pu_upd_id]
  · rw [pu_up_ne z]
theorem p6_pour_loop {k : Int32 → ovSt → Prop} {P : Nat → Int32} {s n S : Nat} (hs : s < 4) (hS : S ≤ 24) : ∀ (m t : Nat) (g : Nat → Int32) (x : Int32) (σ : ovSt), t + m = min n S → pu_WG g → pu_n g = n → σ 75 = g → σ 90 s = nI S → (∀ i, i < 24 → σ 91 (24 * s + i) = P i) → (∀ σ', pu_ag (fun i => i = 75) σ σ' → σ' 75 = pu_pog P m t g → k (pu_poc P m t g x) σ') → F_X6_pour_26 k (m + 1) (nI s) x (nI t) σ
  | 0, t, g, x, σ, ht, hg, hn, e, h2, hP, h => by
    have hb := pu_WG_n hg
    rw [hn] at hb
    unfold F_X6_pour_26 F_X6_pour_118
    refine ⟨vp_in_nI hs (by omega), ?_⟩
    rw [pu_cl (by omega), h2]
    have h0 := h σ (pu_ag.rf _ σ) e
    by_cases z : S ≤ t
    · rw [if_pos (nI_le z (by omega))]; exact h0
    · rw [if_neg (by rw [nI_leI (by omega) (by omega)]; exact z)]
      refine ⟨vp_in_nI (n := 1) (by decide) (by decide), ?_⟩
      rw [show σ 75 (Int32.toNatClampNeg 1) = nI n from by rw [e]; exact hb.2, if_pos (nI_le (by omega) (by omega))]; exact h0
  | m + 1, t, g, x, σ, ht, hg, hn, e, h2, hP, h => by
    have hb := pu_WG_n hg
    rw [hn] at hb
    have ht8 : t < 8 := by omega
    have ht24 : t < 24 := by omega
    obtain ⟨o1, o2, o3, o4⟩ := pu_po1_ok (P := P) ht8 hg
    have nx := fun (x1 : Int32) (σ2 : ovSt) (a2 : pu_ag (fun i => i = 75) σ σ2) (R2 : σ2 75 = pu_po1 P t g) (hx : x1 = pu_pc1 P t g x) => p6_pour_loop (k := k) (P := P) (n := n) hs hS m (t + 1) (pu_po1 P t g) x1 σ2 (by omega) o1 (o2.trans hn) R2 (by rw [a2 90 (by omega), h2]) (fun i hi => by rw [a2 91 (by omega)]; exact hP i hi) (fun σ3 h3 R3 => by rw [hx]; exact h σ3 (a2.tr h3) R3)
    unfold F_X6_pour_26
    refine ⟨vp_in_nI hs (by omega), ?_⟩
    rw [pu_cl (by omega), h2, if_neg (by rw [nI_leI (by omega) (by omega)]; omega)]
    refine ⟨vp_in_nI (n := 1) (by decide) (by decide), ?_⟩
    rw [show σ 75 (Int32.toNatClampNeg 1) = nI n from by rw [e]; exact hb.2, if_neg (by rw [nI_leI (by omega) (by omega)]; omega), pu_ix24, pu_cl (by omega)]
    refine ⟨vp_in_nI (by omega) (by omega), ?_⟩
    rw [hP t ht24]
    intro v hv
    subst hv
    have ei : (8 + (4 * nI t)) + 2 = nI (8 + 4 * t + 2) := pu_ix t 2
    have fin : ∀ (v w : Int32), x + w = pu_pc1 P t g x → (if g (8 + 4 * t + 2) = v then (0 : Int32) else 1) = w → upd g (8 + 4 * t + 2) v = pu_po1 P t g → F_X6_pour_83 (F_X6_pour_26 k (m + 1)) k (nI s) x (nI t) v σ := by
      intro v w hv hw hg'
      unfold F_X6_pour_83 F_X6_pour_110
      rw [ei, e6_becomes (by omega), e, ← nI_succ]
      have go : ∀ v1 : Int32, v1 = x + w → F_X6_pour_26 k (m + 1) (nI s) v1 (nI (t + 1)) (ov_up σ 75 (8 + 4 * t + 2) v) := by
        intro v1 hv1
        refine nx v1 _ (pu_ag.up1 rfl) ?_ (hv1.trans hv)
        rw [pu_up_same, e, hg']
      by_cases y : g (8 + 4 * t + 2) = v
      · rw [if_pos y] at hw ⊢
        rw [← hw] at go
        exact go
      · rw [if_neg y] at hw ⊢
        rw [← hw] at go
        exact go
    by_cases z : P t = -1000000005
    · rw [if_pos z, e6_of2 ht8, e]
      refine fin _ 0 (by unfold pu_pc1; rw [if_pos z, Int32.add_zero]) (by rw [if_pos rfl]) ?_
      rw [pu_upd_id]
      unfold pu_po1
      rw [if_pos z]
    · rw [if_neg z, e6_within]
      by_cases y : g (8 + 4 * t + 2) = pu_within (P t) 0 99999
      · exact fin _ 0 (by unfold pu_pc1; rw [if_neg z, if_pos y, Int32.add_zero]) (by rw [if_pos y]) (by unfold pu_po1; rw [if_neg z])
      · exact fin _ 1 (by unfold pu_pc1; rw [if_neg z, if_neg y]) (by rw [if_neg y]) (by unfold pu_po1; rw [if_neg z])
theorem v_pour {σ : ovSt} (h : ovInv σ) (a : Int32) : F_X5_pour a σ (fun r σ1 => F_X6_pour a σ1 (fun r' σ2 => r = r' ∧ ovInv σ2)) := by
  unfold F_X5_pour
  rcases pu_shx a with ha | ⟨s, hs, es⟩
  · rw [e5_sh_no ha, if_pos rfl]
    show F_X6_pour _ _ _
    unfold F_X6_pour
    rw [e6_sh_no ha, if_pos rfl]
    exact ⟨rfl, h⟩
  subst es
  have hS := h.2.2.2.2.1 s hs
  rw [e5_sh_yes hs, if_neg (by decide), pu_cl (by omega)]
  refine ⟨vp_in_nI hs (by omega), ?_⟩
  rcases pu_ms hS with ⟨m1, m2, m3⟩ | ⟨m1, m2, m3⟩
  · rw [e1_miss hs hS m1, if_neg (by decide)]
    show F_X6_pour _ _ _
    unfold F_X6_pour
    rw [e6_sh_yes hs, if_neg (by decide), pu_cl (by omega)]
    refine ⟨vp_in_nI hs (by omega), ?_⟩
    rw [if_neg m2]
    exact ⟨rfl, h⟩
  rw [e1_nmiss hs hS m1, if_pos rfl]
  obtain ⟨r1, r2, r3, ⟨S, hSn, r4⟩, r5⟩ := hS
  have hb := pu_WG_n h.1.1
  refine ⟨min (pu_n (σ 75)) S + 1, p5_pour_loop (P := fun i => σ 91 (24 * s + i)) (n := pu_n (σ 75)) hs hSn (min (pu_n (σ 75)) S) 0 (σ 75) 0 σ (by omega) h.1.1 rfl h.1.2.1 (by rw [r2, r4]) (fun i hi => (r5 i hi).1) (fun σ1 a1 R1 => ?_)⟩
  show F_X6_pour _ _ _
  unfold F_X6_pour
  rw [e6_sh_yes hs, if_neg (by decide), pu_cl (by omega)]
  refine ⟨vp_in_nI hs (by omega), ?_⟩
  rw [a1 89 (by unfold pu_stX; omega), if_pos m2]
  refine ⟨min (pu_n (σ 75)) S + 1, p6_pour_loop (P := fun i => σ 91 (24 * s + i)) (n := pu_n (σ 75)) hs hSn (min (pu_n (σ 75)) S) 0 (σ 75) 0 σ1 (by omega) h.1.1 rfl (a1 75 (by unfold pu_stX; omega)) (by rw [a1 90 (by unfold pu_stX; omega), r4]) (fun i hi => by rw [a1 91 (by unfold pu_stX; omega)]) (fun σ2 a2 e2 => ?_)⟩
  obtain ⟨o1, o2, o3⟩ := pu_pog_ok (P := fun i => σ 91 (24 * s + i)) (min (pu_n (σ 75)) S) 0 (σ 75) (by omega) h.1.1
  refine ⟨rfl, h.good (pu_good.mk h.1 _ e2 ((a1.mono (fun i hi => by unfold pu_stX at hi; unfold pu_XS; omega)).tr (a2.mono (fun i hi => by unfold pu_XS; omega))) o1 (R1.ag (fun i x y => a2 i (by omega))) o2 ?_)⟩
  rw [o3]
  exact h.1.2.2.2
/-! reads -/
def pu_rd (g P : Nat → Int32) : Nat → Nat → Int32
  | 0, _ => -1000000005
  | m + 1, j => if P j = -1000000005 then pu_rd g P m (j + 1) else if P j = pu_tall (pu_dn g j) then pu_rd g P m (j + 1) else nI j
theorem p5_reads_loop {k : Int32 → ovSt → Prop} {g P : Nat → Int32} (hg : pu_WG g) {s S : Nat} (hs : s < 4) (hS : S ≤ 24) : ∀ (m j : Nat) (σ : ovSt), j + m = S → pu_RS σ 33 (pu_dn g j) → pu_LS σ g → σ (51 + 2 * s) 2 = nI S → (∀ i, i < 24 → σ (51 + 2 * s + 1) i = P i) → (∀ σ', pu_ag (fun i => i = 20 ∨ (33 ≤ i ∧ i ≤ 38)) σ σ' → k (pu_rd g P m j) σ') → F_X5_reads_40 k (m + 1) (51 + 2 * s) (nI j) σ
  | 0, j, σ, hj, hR, hL, h2, hP, h => by
    have ej : j = S := by omega
    subst ej
    unfold F_X5_reads_40
    rw [h2, if_pos (Int32.le_refl _)]
    exact h σ (pu_ag.rf _ σ)
  | m + 1, j, σ, hj, hR, hL, h2, hP, h => by
    have hj24 : j < 24 := by omega
    have nx : ∀ (σ2 : ovSt), pu_ag (fun i => i = 20 ∨ (33 ≤ i ∧ i ≤ 38)) σ σ2 → pu_RS σ2 33 (pu_dn g j) → pu_rd g P (m + 1) j = pu_rd g P m (j + 1) → F_X5_reads_74 (F_X5_reads_40 k (m + 1)) k (51 + 2 * s) (nI j) σ2 := by
      intro σ2 a2 R2 hv
      unfold F_X5_reads_74
      refine p3_passDay pu_s33 (pu_WG_dn hg j) R2 (fun σ3 h3 R3 => ?_)
      have a3 : pu_ag (fun i => i = 20 ∨ (33 ≤ i ∧ i ≤ 38)) σ σ3 := a2.tr (h3.mono (fun i hi => by unfold pu_stX at hi; omega))
      rw [← nI_succ]
      refine p5_reads_loop (P := P) hg hs hS m (j + 1) σ3 (by omega) R3 (hL.ag hg (fun i x y => a3 i (by omega))) (by rw [a3 _ (by omega), h2]) (fun i hi => by rw [a3 _ (by omega)]; exact hP i hi) (fun σ4 h4 => ?_)
      rw [← hv]
      exact h σ4 (a3.tr h4)
    unfold F_X5_reads_40
    rw [h2, if_neg (by rw [nI_leI (by omega) (by omega)]; omega), e1_num (pu_isr hs) hj24, hP j hj24]
    by_cases z : P j = -1000000005
    · rw [if_pos z, if_pos rfl]
      exact nx σ (pu_ag.rf _ σ) hR (by rw [pu_rd, if_pos z])
    · rw [if_neg z, if_neg (by decide)]
      refine ⟨vp_in_nI hj24 (by omega), ?_⟩
      rw [pu_cl (by omega), hP j hj24]
      refine p3_tasteOfAll pu_s33 (pu_WG_dn hg j) hR (pu_tx_LS (pu_tx_dn hg j) hL) (fun σ2 h2' => ?_)
      have a2 : pu_ag (fun i => i = 20 ∨ (33 ≤ i ∧ i ≤ 38)) σ σ2 := h2'.mono (fun i hi => by omega)
      by_cases y : P j = pu_tall (pu_dn g j)
      · rw [if_pos y]
        exact nx σ2 a2 (hR.ag (fun i x y => h2' i (by omega))) (by rw [pu_rd, if_neg z, if_pos y])
      · rw [if_neg y]
        have h0 := h σ2 a2
        rw [pu_rd, if_neg z, if_neg y] at h0
        exact h0
theorem pu_nI_none {j : Nat} (hj : j < 100) : ¬ nI j = -1000000005 := by
  intro z
  rw [fa_eq, nI_toInt (by omega), show (-1000000005 : Int32).toInt = -1000000005 from rfl] at z
  omega
theorem p6_reads_loop {k : Int32 → ovSt → Prop} {g P f : Nat → Int32} (hg : pu_WG g) {s S : Nat} (hs : s < 4) (hS : S ≤ 24) : ∀ (m j : Nat) (σ : ovSt), j + m = S → σ 75 = pu_dn g j → σ 78 = pu_ov f g 40 → σ 90 s = nI S → (∀ i, i < 24 → σ 91 (24 * s + i) = P i) → (∀ σ', pu_ag (fun i => i = 75 ∨ i = 87 ∨ i = 88) σ σ' → σ' 75 = g → k (pu_rd g P m j) σ') → F_X6_reads_31 k (m + 1) (nI s) (-1000000005) (nI j) σ
  | 0, j, σ, hj, e, e8, h2, hP, h => by
    have ej : j = S := by omega
    subst ej
    unfold F_X6_reads_31 F_X6_reads_93
    refine ⟨vp_in_nI hs (by omega), ?_⟩
    rw [pu_cl (by omega), h2, if_pos (Int32.le_refl _)]
    refine p6_putsBack (fun σ1 h1 e1 => ?_)
    refine h σ1 (h1.mono (fun i hi => by omega)) ?_
    rw [e1, e, e8]
    exact pu_ov_back (pu_tx_dn hg _)
  | m + 1, j, σ, hj, e, e8, h2, hP, h => by
    have hj24 : j < 24 := by omega
    have W := pu_WG_dn hg j
    have nx : ∀ (σ2 : ovSt), pu_ag (fun i => i = 75 ∨ i = 87 ∨ i = 88) σ σ2 → σ2 75 = pu_dn g j → pu_rd g P (m + 1) j = pu_rd g P m (j + 1) → F_X6_reads_82 (F_X6_reads_31 k (m + 1)) k (nI s) (nI j) (-1000000005) σ2 := by
      intro σ2 a2 f2 hv
      unfold F_X6_reads_82
      refine p6_day (by rw [f2]; exact W) (fun σ3 h3 e3 => ?_)
      have a3 : pu_ag (fun i => i = 75 ∨ i = 87 ∨ i = 88) σ σ3 := a2.tr (h3.mono (fun i hi => by omega))
      rw [← nI_succ]
      refine p6_reads_loop (P := P) (f := f) hg hs hS m (j + 1) σ3 (by omega) (by rw [e3, f2]; rfl) (by rw [a3 78 (by omega), e8]) (by rw [a3 90 (by omega), h2]) (fun i hi => by rw [a3 91 (by omega)]; exact hP i hi) (fun σ4 h4 e4 => ?_)
      rw [← hv]
      exact h σ4 (a3.tr h4) e4
    unfold F_X6_reads_31
    refine ⟨vp_in_nI hs (by omega), ?_⟩
    rw [pu_cl (by omega), h2, if_neg (by rw [nI_leI (by omega) (by omega)]; omega), if_pos rfl, pu_ix24, pu_cl (by omega)]
    refine ⟨vp_in_nI (by omega) (by omega), ?_⟩
    rw [hP j hj24]
    intro v hv
    subst hv
    unfold F_X6_reads_80
    by_cases z : P j = -1000000005
    · rw [if_pos z]
      exact nx σ (pu_ag.rf _ σ) e (by rw [pu_rd, if_pos z])
    · rw [if_neg z]
      refine p6_tasteAll (by rw [e]; exact W) (fun σ2 h2' => ?_)
      have a2 : pu_ag (fun i => i = 75 ∨ i = 87 ∨ i = 88) σ σ2 := h2'.mono (fun i hi => by omega)
      have f2 : σ2 75 = pu_dn g j := by rw [h2' 75 (by omega), e]
      rw [e]
      by_cases y : P j = pu_tall (pu_dn g j)
      · rw [if_pos y]
        exact nx σ2 a2 f2 (by rw [pu_rd, if_neg z, if_pos y])
      · rw [if_neg y]
        unfold F_X6_reads_82
        refine p6_day (by rw [f2]; exact W) (fun σ3 h3 e3 => ?_)
        have a3 : pu_ag (fun i => i = 75 ∨ i = 87 ∨ i = 88) σ σ3 := a2.tr (h3.mono (fun i hi => by omega))
        have out : F_X6_reads_93 k (nI j) σ3 := by
          unfold F_X6_reads_93
          refine p6_putsBack (fun σ4 h4 e4 => ?_)
          have h0 := h σ4 (a3.tr (h4.mono (fun i hi => by omega))) ?_
          · rw [pu_rd, if_neg z, if_neg y] at h0
            exact h0
          · rw [e4, e3, f2, a3 78 (by omega), e8]
            exact pu_ov_back ((pu_tx_dn hg j).tr (pu_tx_day W))
        unfold F_X6_reads_31
        refine ⟨vp_in_nI hs (by omega), ?_⟩
        by_cases w : σ3 90 (nI s).toNatClampNeg ≤ nI j + 1
        · rw [if_pos w]; exact out
        · rw [if_neg w, if_neg (pu_nI_none (by omega))]; exact out
theorem v_reads {σ : ovSt} (h : ovInv σ) (a : Int32) : F_X5_reads a σ (fun r σ1 => F_X6_reads a σ1 (fun r' σ2 => r = r' ∧ ovInv σ2)) := by
  unfold F_X5_reads
  rcases pu_shx a with ha | ⟨s, hs, es⟩
  · rw [e5_sh_no ha, if_pos rfl]
    show F_X6_reads _ _ _
    unfold F_X6_reads
    rw [e6_sh_no ha, if_pos rfl]
    exact ⟨rfl, h⟩
  subst es
  have hS := h.2.2.2.2.1 s hs
  rw [e5_sh_yes hs, if_neg (by decide), pu_cl (by omega)]
  refine ⟨vp_in_nI hs (by omega), ?_⟩
  rcases pu_ms hS with ⟨m1, m2, m3⟩ | ⟨m1, m2, m3⟩
  · rw [e1_miss hs hS m1, if_neg (by decide)]
    show F_X6_reads _ _ _
    unfold F_X6_reads
    rw [e6_sh_yes hs, if_neg (by decide), pu_cl (by omega)]
    refine ⟨vp_in_nI hs (by omega), ?_⟩
    rw [if_neg m2]
    exact ⟨rfl, h⟩
  rw [e1_nmiss hs hS m1, if_pos rfl]
  obtain ⟨r1, r2, r3, ⟨S, hSn, r4⟩, r5⟩ := hS
  refine p3_become pu_s33 pu_s21 (by decide) h.1.2.1 (fun σ1 h1 R1 => ?_)
  refine ⟨S + 1, p5_reads_loop (P := fun i => σ 91 (24 * s + i)) h.1.1 hs hSn S 0 σ1 (by omega) R1 (h.1.2.2.1.ag h.1.1 (fun i x y => h1 i (by unfold pu_stX; omega))) (by rw [h1 _ (by unfold pu_stX; omega), r2, r4]) (fun i hi => by rw [h1 _ (by unfold pu_stX; omega)]; exact (r5 i hi).1) (fun σ2 h2 => ?_)⟩
  have a2 : pu_ag (fun i => i = 20 ∨ (33 ≤ i ∧ i ≤ 38)) σ σ2 := (h1.mono (fun i hi => by unfold pu_stX at hi; omega)).tr h2
  show F_X6_reads _ _ _
  unfold F_X6_reads
  rw [e6_sh_yes hs, if_neg (by decide), pu_cl (by omega)]
  refine ⟨vp_in_nI hs (by omega), ?_⟩
  rw [a2 89 (by omega), if_pos m2]
  refine p6_thinks (fun σ3 h3 e3 => ?_)
  rw [a2 75 (by omega)] at e3
  have a3 : pu_ag (fun i => i = 78 ∨ i = 20 ∨ (33 ≤ i ∧ i ≤ 38)) σ σ3 := (a2.mono (fun i hi => by omega)).tr (h3.mono (fun i hi => by omega))
  refine ⟨S + 1, p6_reads_loop (P := fun i => σ 91 (24 * s + i)) (f := σ2 78) h.1.1 hs hSn S 0 σ3 (by omega) (a3 75 (by omega)) e3 (by rw [a3 90 (by omega), r4]) (fun i hi => by rw [a3 91 (by omega)]) (fun σ4 h4 e4 => ?_)⟩
  refine ⟨rfl, h.good (pu_good.back h.1 (fun i hi => ?_) e4)⟩
  unfold pu_XU pu_XT at hi
  rw [h4 i (by omega), a3 i (by omega)]
