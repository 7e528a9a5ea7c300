/-! ===== mark, copy ===== -/
theorem pu_short (v : Int32) : pu_in (Int32.toInt16 v).toInt32 (-99999) 99999 := by
  unfold pu_in
  rw [Int16.toInt_toInt32]
  have h1 := Int16.le_toInt (Int32.toInt16 v)
  have h2 := Int16.toInt_lt (Int32.toInt16 v)
  omega
/-- one place of one sheet, by both -/
theorem pu_mark_end {σ σ1 σ2 : ovSt} (h : ovInv σ) {s p : Nat} (hs : s < 4) (hp : p < 24) {v : Int32} (hv : pu_cell v) (e1 : σ1 = ov_up σ (51 + 2 * s + 1) p v) (e2 : σ2 = ov_up σ1 91 (24 * s + p) v) : ovInv σ2 := by
  have ag : pu_ag (fun i => i = 51 + 2 * s + 1 ∨ i = 91) σ σ2 := by
    rw [e2]; refine pu_ag.up ?_ (by omega)
    rw [e1]; exact pu_ag.up1 (by omega)
  have f91 : σ2 91 = upd (σ 91) (24 * s + p) v := by rw [e2, pu_up_same, e1, pu_up_ne (by omega)]
  refine h.fr (fun i hi => ag i (fun q => hi (by unfold pu_XF; omega))) (by rw [ag 0 (by omega)]) (by rw [ag 74 (by omega)]) (h.2.2.1.cg (ag 46 (by omega)) (ag 81 (by omega)) (by rw [ag 45 (by omega)]) (by rw [ag 74 (by omega)])) (h.2.2.2.1.cg (ag 50 (by omega)) (ag 97 (by omega)) (by rw [ag 0 (by omega)]) (by rw [ag 74 (by omega)])) ?_ (h.2.2.2.2.2.1.cg (fun i hi => ag i (by omega)))
  obtain ⟨r1, r2, r3, r4, r5⟩ := h.2.2.2.2.1 s hs
  refine h.2.2.2.2.1.set (s := s) (fun i hi => ag i (by omega)) (fun c hc => by rw [ag 89 (by omega)]) (fun c hc => by rw [ag 90 (by omega)]) (fun c hc => by rw [f91, pu_un (by omega)]) ⟨?_, ?_, ?_, ?_, fun i hi => ?_⟩
  · rw [ag (51 + 2 * s) (by omega), ag 89 (by omega)]; exact r1
  · rw [ag (51 + 2 * s) (by omega), ag 90 (by omega)]; exact r2
  · rw [ag 89 (by omega)]; exact r3
  · rw [ag 90 (by omega)]; exact r4
  · rw [f91, e2, pu_up_ne (by omega), e1, pu_up_same]
    by_cases z : i = p
    · rw [z, pu_ue, pu_ue]; exact ⟨rfl, hv⟩
    · rw [pu_un z, pu_un (by omega)]; exact r5 i hi
theorem v_mark {σ : ovSt} (h : ovInv σ) (a b c : Int32) : F_X5_mark a b c σ (fun r σ1 => F_X6_mark a b c σ1 (fun r' σ2 => r = r' ∧ ovInv σ2)) := by
  unfold F_X5_mark
  rcases pu_shx a with ha | ⟨s, hs, es⟩
  · rw [e5_sh_no ha, if_pos rfl]
    show F_X6_mark _ _ _ _ _
    unfold F_X6_mark
    rw [e6_sh_no ha, if_pos rfl]
    exact ⟨rfl, h⟩
  subst es
  have hS := h.2.2.2.2.1 s hs
  obtain ⟨r1, r2, r3, ⟨n, hn, r4⟩, r5⟩ := hS
  rw [e5_sh_yes hs, if_neg (by decide), pu_cl (by omega)]
  refine ⟨vp_in_nI hs (by omega), ?_⟩
  rcases pu_ms (h.2.2.2.2.1 s hs) with ⟨m1, m2, m3⟩ | ⟨m1, m2, m3⟩
  · rw [e1_miss hs (h.2.2.2.2.1 s hs) m1, if_neg (by decide)]
    show F_X6_mark _ _ _ _ _
    unfold F_X6_mark
    rw [e6_sh_yes hs, if_neg (by decide), pu_cl (by omega)]
    refine ⟨vp_in_nI hs (by omega), ?_⟩
    rw [if_neg m2]
    exact ⟨rfl, h⟩
  rw [e1_nmiss hs (h.2.2.2.2.1 s hs) m1, if_pos rfl]
  rcases pu_plx (x := b) hn r4 with ⟨p1, p2⟩ | ⟨p1, p2, p, hp, ep⟩
  · rw [e1_place_no (pu_isr hs) (by rw [r2]; exact p1), if_pos rfl]
    show F_X6_mark _ _ _ _ _
    unfold F_X6_mark
    rw [e6_sh_yes hs, if_neg (by decide), pu_cl (by omega)]
    refine ⟨vp_in_nI hs (by omega), ?_⟩
    rw [if_pos m2, pu_no6 p2, if_pos rfl]
    exact ⟨rfl, h⟩
  rw [e1_place_yes (pu_isr hs) (by rw [r2]; exact p1), if_neg (by decide), r1]
  subst ep
  have m6 : ∀ (σ' : ovSt) (k : Int32 → ovSt → Prop), σ' 89 = σ 89 → σ' 90 = σ 90 → (if σ 89 s = 0 then (if c = (-1000000005 : Int32) then k (-1000000012) σ' else F_X6_mark_60 k (nI s) (nI p) c σ') else F_X6_mark_60 k (nI s) (nI p) c σ') → F_X6_mark (nI s) (nI p) c σ' k := by
    intro σ' k q89 q90 hk
    unfold F_X6_mark
    rw [e6_sh_yes hs, if_neg (by decide), pu_cl (by omega), q89, q90]
    refine ⟨vp_in_nI hs (by omega), ?_⟩
    rw [if_pos m2, pu_yes6 p2, if_neg (by decide), q89]
    exact hk
  have put : ∀ v, pu_cell v → F_X5_mark_108 (fun r σ1 => F_X6_mark_116 (fun r' σ2 => r = r' ∧ ovInv σ2) v (nI (24 * s + p)) σ1) v (nI p) (51 + 2 * s + 1) σ := by
    intro v hv
    unfold F_X5_mark_108
    refine ⟨vp_in_nI (by omega) (by omega), ?_⟩
    rw [pu_cl (by omega)]
    intro σ1 e1
    show F_X6_mark_116 _ _ _ _
    unfold F_X6_mark_116
    refine ⟨vp_in_nI (by omega) (by omega), ?_⟩
    rw [pu_cl (by omega)]
    intro σ2 e2
    exact ⟨rfl, pu_mark_end h hs (by omega) hv e1 e2⟩
  have put2 : ∀ (v : Int32) (K : Int32 → ovSt → Prop), pu_cell v → (∀ σ1 : ovSt, σ1 89 = σ 89 → σ1 90 = σ 90 → F_X6_mark_116 (fun r' σ2 => (1 : Int32) = r' ∧ ovInv σ2) v (nI (24 * s + p)) σ1 → K 1 σ1) → F_X5_mark_108 K v (nI p) (51 + 2 * s + 1) σ := by
    intro v K hv hK
    have q := put v hv
    unfold F_X5_mark_108 at q ⊢
    refine ⟨q.1, fun σ1 e1 => ?_⟩
    refine hK σ1 ?_ ?_ (q.2 σ1 e1)
    · rw [e1, pu_up_ne (by omega)]
    · rw [e1, pu_up_ne (by omega)]
  by_cases s0 : σ 89 s = 0
  · rw [if_pos s0]
    by_cases zc : c = -1000000005
    · rw [if_pos zc]
      refine m6 σ _ rfl rfl ?_
      rw [if_pos s0, if_pos zc]
      exact ⟨rfl, h⟩
    rw [if_neg zc]
    unfold F_X5_mark_58
    rw [r1, if_neg (by rw [s0]; decide)]
    unfold F_X5_mark_88
    rw [r1, if_pos s0]
    refine put2 _ _ (Or.inr (pu_short c)) (fun σ1 q89 q90 hk => ?_)
    refine m6 σ1 _ q89 q90 ?_
    rw [if_pos s0, if_neg zc]
    unfold F_X6_mark_60
    refine ⟨vp_in_nI hs (by omega), ?_⟩
    rw [pu_cl (by omega), q89, if_neg (by rw [s0]; decide)]
    unfold F_X6_mark_91
    refine ⟨vp_in_nI hs (by omega), ?_⟩
    rw [pu_cl (by omega), q89, if_pos s0, pu_ix24]
    exact hk
  rw [if_neg s0]
  have s1 : σ 89 s = 1 := by
    have e0 : (0 : Int32).toInt = 0 := rfl
    have e1 : (1 : Int32).toInt = 1 := rfl
    rw [fa_eq] at s0 ⊢
    rw [fa_le] at m2
    have := r3.2
    omega
  have m91 : ∀ (σ1 : ovSt) (k : Int32 → ovSt → Prop), σ1 89 = σ 89 → F_X6_mark_116 k c (nI (24 * s + p)) σ1 → F_X6_mark_91 k (nI s) (nI p) c σ1 := by
    intro σ1 k q89 hk
    unfold F_X6_mark_91
    refine ⟨vp_in_nI hs (by omega), ?_⟩
    rw [pu_cl (by omega), q89, if_neg s0, pu_ix24]
    exact hk
  unfold F_X5_mark_58
  rw [r1, if_pos s1]
  by_cases zc : c = -1000000005
  · rw [if_pos zc]
    unfold F_X5_mark_88
    rw [r1, if_neg s0]
    refine put2 _ _ (Or.inl zc) (fun σ1 q89 q90 hk => ?_)
    refine m6 σ1 _ q89 q90 ?_
    rw [if_neg s0]
    unfold F_X6_mark_60
    refine ⟨vp_in_nI hs (by omega), ?_⟩
    rw [pu_cl (by omega), q89, if_pos s1, if_pos zc]
    exact m91 σ1 _ q89 hk
  rw [if_neg zc]
  by_cases zv : c < (-99999) ∨ 99999 < c
  · rw [pu_no5 zv, if_pos rfl]
    refine m6 σ _ rfl rfl ?_
    rw [if_neg s0]
    unfold F_X6_mark_60
    refine ⟨vp_in_nI hs (by omega), ?_⟩
    rw [pu_cl (by omega), if_pos s1, if_neg zc, pu_no6 zv, if_pos rfl]
    exact ⟨rfl, h⟩
  · rw [pu_yes5 zv, if_neg (by decide)]
    unfold F_X5_mark_88
    rw [r1, if_neg s0]
    refine put2 _ _ (Or.inr (pu_bt zv)) (fun σ1 q89 q90 hk => ?_)
    refine m6 σ1 _ q89 q90 ?_
    rw [if_neg s0]
    unfold F_X6_mark_60
    refine ⟨vp_in_nI hs (by omega), ?_⟩
    rw [pu_cl (by omega), q89, if_pos s1, if_neg zc, pu_yes6 zv, if_neg (by decide)]
    exact m91 σ1 _ q89 hk
/-! copy -/
theorem p6_copy_in {k : Int32 → ovSt → Prop} {s p q at' N : Nat} (hs : s < 4) (hN : N ≤ 24) (hp : p + N ≤ 24) {B : Nat → Int32} : ∀ (m j : Nat) (σ : ovSt), j + m = N → (∀ i, i < N → σ 91 (24 * s + p + i) = B i) → (∀ i, i < j → σ 96 i = B i) → (∀ σ', pu_ag (fun i => i = 96) σ σ' → (∀ i, i < N → σ' 96 i = B i) → ∃ n4, F_X6_copy_141 k n4 (nI q) (nI at') (nI N) 0 σ') → F_X6_copy_104 k (m + 1) (nI s) (nI p) (nI q) (nI at') (nI N) (nI j) σ
  | 0, j, σ, hj, hB, h0, h => by
    have ej : j = N := by omega
    subst ej
    unfold F_X6_copy_104
    rw [if_pos (Int32.le_refl _)]
    exact h σ (pu_ag.rf _ σ) h0
  | m + 1, j, σ, hj, hB, h0, h => by
    unfold F_X6_copy_104
    rw [if_neg (by rw [nI_leI (by omega) (by omega)]; omega), pu_ix24, nI_add, pu_cl (by omega), pu_cl (by omega), ← nI_succ]
    refine ⟨vp_in_nI (by omega) (by omega), vp_in_nI (by omega) (by omega), ?_⟩
    intro σ7 e7
    have a7 : pu_ag (fun i => i = 96) σ σ7 := by rw [e7]; exact pu_ag.up1 rfl
    refine p6_copy_in hs hN hp (B := B) m (j + 1) σ7 (by omega) (fun i hi => by rw [a7 91 (by omega)]; exact hB i hi) (fun i hi => ?_) (fun σ8 h8 => h σ8 (a7.tr h8))
    rw [e7, pu_up_same]
    by_cases z : i = j
    · rw [z, pu_ue]; exact hB j (by omega)
    · rw [pu_un z]; exact h0 i (by omega)
theorem p6_copy_out {k : Int32 → ovSt → Prop} {q p N : Nat} (hs : q < 4) (hN : N ≤ 24) (hp : p + N ≤ 24) {B f : Nat → Int32} : ∀ (m j : Nat) (σ : ovSt), j + m = N → (∀ i, i < N → σ 96 i = B i) → (∀ i, i < j → σ 91 (24 * q + p + i) = B i) → (∀ c, (c < 24 * q + p ∨ 24 * q + p + N ≤ c) → σ 91 c = f c) → (∀ σ', pu_ag (fun i => i = 91) σ σ' → (∀ i, i < N → σ' 91 (24 * q + p + i) = B i) → (∀ c, (c < 24 * q + p ∨ 24 * q + p + N ≤ c) → σ' 91 c = f c) → k (nI N) σ') → F_X6_copy_141 k (m + 1) (nI q) (nI p) (nI N) (nI j) σ
  | 0, j, σ, hj, hB, h0, hf, h => by
    have ej : j = N := by omega
    subst ej
    unfold F_X6_copy_141
    rw [if_pos (Int32.le_refl _)]
    exact h σ (pu_ag.rf _ σ) h0 hf
  | m + 1, j, σ, hj, hB, h0, hf, h => by
    unfold F_X6_copy_141
    rw [if_neg (by rw [nI_leI (by omega) (by omega)]; omega), pu_ix24, nI_add, pu_cl (by omega), pu_cl (by omega), ← nI_succ]
    refine ⟨vp_in_nI (by omega) (by omega), vp_in_nI (by omega) (by omega), ?_⟩
    intro σ7 e7
    have a7 : pu_ag (fun i => i = 91) σ σ7 := by rw [e7]; exact pu_ag.up1 rfl
    refine p6_copy_out hs hN hp (B := B) (f := f) m (j + 1) σ7 (by omega) (fun i hi => by rw [a7 96 (by omega)]; exact hB i hi) (fun i hi => ?_) (fun c hc => ?_) (fun σ8 h8 => h σ8 (a7.tr h8))
    · rw [e7, pu_up_same]
      by_cases z : i = j
      · rw [z, pu_ue]; exact hB j (by omega)
      · rw [pu_un (by omega)]; exact h0 i (by omega)
    · rw [e7, pu_up_same, pu_un (by omega)]; exact hf c hc
theorem v_copy {σ : ovSt} (h : ovInv σ) (a b c d e : Int32) : F_X5_copy a b c d e σ (fun r σ1 => F_X6_copy a b c d e σ1 (fun r' σ2 => r = r' ∧ ovInv σ2)) := by
  unfold F_X5_copy F_X5_copy_14 F_X5_copy_49 F_X5_copy_91
  rcases pu_shx a with ha | ⟨s, hs, es⟩
  · rw [e5_sh_no ha, if_pos rfl]
    show F_X6_copy _ _ _ _ _ _ _
    unfold F_X6_copy F_X6_copy_14
    rw [e6_sh_no ha, if_pos rfl]
    exact ⟨rfl, h⟩
  subst es
  rw [e5_sh_yes hs, if_neg (by decide)]
  rcases pu_shx c with hc | ⟨q, hq, eq'⟩
  · rw [e5_sh_no hc, if_pos rfl]
    show F_X6_copy _ _ _ _ _ _ _
    unfold F_X6_copy F_X6_copy_14
    rw [e6_sh_yes hs, if_neg (by decide), e6_sh_no hc, if_pos rfl]
    exact ⟨rfl, h⟩
  subst eq'
  rw [e5_sh_yes hq, if_neg (by decide), pu_cl (t := s) (by omega), pu_cl (t := q) (by omega)]
  have hS := h.2.2.2.2.1 s hs
  have hQ := h.2.2.2.2.1 q hq
  refine ⟨vp_in_nI hs (by omega), vp_in_nI hq (by omega), ?_⟩
  rcases pu_ms hS with ⟨m1, m2, m3⟩ | ⟨m1, m2, m3⟩
  · rw [e1_miss hs hS m1, if_neg (by decide)]
    show F_X6_copy _ _ _ _ _ _ _
    unfold F_X6_copy F_X6_copy_35
    rw [e6_sh_yes hs, if_neg (by decide), e6_sh_yes hq, if_neg (by decide), pu_cl (t := s) (by omega)]
    refine ⟨vp_in_nI hs (by omega), ?_⟩
    rw [if_pos m3]
    exact ⟨rfl, h⟩
  rw [e1_nmiss hs hS m1, if_pos rfl]
  rcases pu_ms hQ with ⟨n1, n2, n3⟩ | ⟨n1, n2, n3⟩
  · rw [e1_miss hq hQ n1, if_neg (by decide)]
    show F_X6_copy _ _ _ _ _ _ _
    unfold F_X6_copy F_X6_copy_35
    rw [e6_sh_yes hs, if_neg (by decide), e6_sh_yes hq, if_neg (by decide), pu_cl (t := s) (by omega), pu_cl (t := q) (by omega)]
    refine ⟨vp_in_nI hs (by omega), ?_⟩
    rw [if_neg m3]
    refine ⟨vp_in_nI hq (by omega), ?_⟩
    rw [if_neg n2]
    exact ⟨rfl, h⟩
  rw [e1_nmiss hq hQ n1, if_pos rfl]
  obtain ⟨r1, r2, r3, ⟨S, hSn, r4⟩, r5⟩ := hS
  obtain ⟨t1, t2, t3, ⟨Q, hQn, t4⟩, t5⟩ := hQ
  rw [r1, t1]
  have m6 : ∀ (σ' : ovSt) (k : Int32 → ovSt → Prop), σ' 89 = σ 89 → σ' 90 = σ 90 → (if σ 89 s = σ 89 q then (if b < 0 then (F_X6_copy_97 k σ') else (if d < 0 then (F_X6_copy_97 k σ') else (if e < 0 then (F_X6_copy_97 k σ') else (if nI S - e < b then (F_X6_copy_97 k σ') else (if d ≤ nI Q - e then (∃ n14, F_X6_copy_104 k n14 (nI s) b (nI q) d e 0 σ') else (F_X6_copy_97 k σ')))))) else (k (-1000000012) σ')) → F_X6_copy (nI s) b (nI q) d e σ' k := by
    intro σ' k q89 q90 hk
    unfold F_X6_copy
    rw [e6_sh_yes hs, if_neg (by decide), e6_sh_yes hq, if_neg (by decide), pu_cl (t := s) (by omega), pu_cl (t := q) (by omega), q89, q90]
    refine ⟨vp_in_nI hs (by omega), ?_⟩
    rw [if_neg m3]
    refine ⟨vp_in_nI hq (by omega), ?_⟩
    rw [if_pos n2, r4, t4]
    exact hk
  by_cases zk : σ 89 s = σ 89 q
  case neg =>
    rw [if_neg zk]
    refine m6 σ _ rfl rfl ?_
    rw [if_neg zk]
    exact ⟨rfl, h⟩
  rw [if_pos zk]
  have bad : (b < 0 ∨ d < 0 ∨ e < 0 ∨ nI S - e < b ∨ ¬ d ≤ nI Q - e) → F_X6_copy (nI s) b (nI q) d e σ (fun r' σ2 => (-1000000013) = r' ∧ ovInv σ2) := by
    intro hbad
    refine m6 σ _ rfl rfl ?_
    unfold F_X6_copy_97
    rw [if_pos zk]
    by_cases b1 : b < 0
    · rw [if_pos b1]; exact ⟨rfl, h⟩
    rw [if_neg b1]
    by_cases b2 : d < 0
    · rw [if_pos b2]; exact ⟨rfl, h⟩
    rw [if_neg b2]
    by_cases b3 : e < 0
    · rw [if_pos b3]; exact ⟨rfl, h⟩
    rw [if_neg b3]
    by_cases b4 : nI S - e < b
    · rw [if_pos b4]; exact ⟨rfl, h⟩
    rw [if_neg b4]
    have b5 : ¬ d ≤ nI Q - e := by
      rcases hbad with x | x | x | x | x
      · exact absurd x b1
      · exact absurd x b2
      · exact absurd x b3
      · exact absurd x b4
      · exact x
    rw [if_neg b5]; exact ⟨rfl, h⟩
  have e0 : (0 : Int32).toInt = 0 := rfl
  have eS : (nI S).toInt = S := nI_toInt (by omega)
  have eQ : (nI Q).toInt = Q := nI_toInt (by omega)
  have rgb := fb_rng b
  have rgd := fb_rng d
  have rge := fb_rng e
  have hpl : ∀ (r : Nat) (hr : ov_isr r) (n : Nat) (hn : n ≤ 24) (σ' : ovSt) (h2 : σ' r 2 = nI n) (x y : Int32) (k : Int32 → ovSt → Prop), F_X1_hasPlaces r x y σ' k = (if (x < 0 ∨ y < 0 ∨ nI n - y < x) then k 0 σ' else k 1 σ') := by
    intro r hr n hn σ' h2 x y k
    unfold F_X1_hasPlaces F_X1_hasPlaces_30 F_X1_hasPlaces_31
    rw [pu_and hr, pu_and pu_bl0, pu_and pu_bl1, h2]
    have en : (nI n).toInt = n := nI_toInt (by omega)
    have rx := fb_rng x
    have ry := fb_rng y
    by_cases z1 : x < 0
    · rw [if_pos z1, if_pos (Or.inl z1)]
    rw [if_neg z1]
    by_cases z2 : y < 0
    · rw [if_pos z2, if_pos (Or.inr (Or.inl z2))]
    rw [if_neg z2]
    have z1' := z1
    have z2' := z2
    rw [fa_lt, e0] at z1' z2'
    have s1 := fb_subI (x := nI n) (y := y) (by omega) (by omega)
    have s2 := fb_subI (x := nI n) (y := x) (by omega) (by omega)
    by_cases z3 : nI n < x
    · rw [if_pos z3, if_pos (Or.inr (Or.inr (by rw [fa_lt] at z3 ⊢; omega)))]
    rw [if_neg z3]
    by_cases z4 : nI n - x < y
    · rw [if_pos z4, if_pos (Or.inr (Or.inr (by rw [fa_lt] at z3 z4 ⊢; omega)))]
    · rw [if_neg z4, if_neg]
      rintro (w | w | w)
      · exact z1 w
      · exact z2 w
      · rw [fa_lt] at z4 w; omega
  rw [hpl _ (pu_isr hs) S hSn σ (by rw [r2, r4]) b e]
  by_cases g1 : b < 0 ∨ e < 0 ∨ nI S - e < b
  · rw [if_pos g1, if_pos rfl]
    refine bad ?_
    rcases g1 with x | x | x
    · exact Or.inl x
    · exact Or.inr (Or.inr (Or.inl x))
    · exact Or.inr (Or.inr (Or.inr (Or.inl x)))
  rw [if_neg g1, if_neg (by decide), hpl _ (pu_isr hq) Q hQn σ (by rw [t2, t4]) d e]
  by_cases g2 : d < 0 ∨ e < 0 ∨ nI Q - e < d
  · rw [if_pos g2, if_pos rfl]
    refine bad ?_
    rcases g2 with x | x | x
    · exact Or.inr (Or.inl x)
    · exact Or.inr (Or.inr (Or.inl x))
    · exact Or.inr (Or.inr (Or.inr (Or.inr (by rw [fa_lt] at x; rw [fa_le]; omega))))
  rw [if_neg g2, if_neg (by decide)]
  have b1 : ¬ b < 0 := fun x => g1 (Or.inl x)
  have b2 : ¬ d < 0 := fun x => g2 (Or.inl x)
  have b3 : ¬ e < 0 := fun x => g1 (Or.inr (Or.inl x))
  have b4 : ¬ nI S - e < b := fun x => g1 (Or.inr (Or.inr x))
  have b5 : d ≤ nI Q - e := by
    have x : ¬ nI Q - e < d := fun x => g2 (Or.inr (Or.inr x))
    rw [fa_lt] at x
    rw [fa_le]
    omega
  have c1 := b1
  have c2 := b2
  have c3 := b3
  have c4 := b4
  have c5 := b5
  rw [fa_lt, e0] at c1 c2 c3
  have s1 := fb_subI (x := nI S) (y := e) (by omega) (by omega)
  have s2 := fb_subI (x := nI Q) (y := e) (by omega) (by omega)
  rw [fa_lt] at c4
  rw [fa_le] at c5
  obtain ⟨B, hB, eB⟩ := pu_ofInt (x := b) (b := 25) (by omega) (by omega) (by omega)
  obtain ⟨D, hD, eD⟩ := pu_ofInt (x := d) (b := 25) (by omega) (by omega) (by omega)
  obtain ⟨N, hN, eN⟩ := pu_ofInt (x := e) (b := 25) (by omega) (by omega) (by omega)
  have nB : b.toInt = B := by rw [eB]; exact nI_toInt (by omega)
  have nD : d.toInt = D := by rw [eD]; exact nI_toInt (by omega)
  have nN : e.toInt = N := by rw [eN]; exact nI_toInt (by omega)
  have hBN : B + N ≤ 24 := by omega
  have hDN : D + N ≤ 24 := by omega
  have kB : b.toNatClampNeg = B := by rw [eB]; exact pu_cl (by omega)
  have kD : d.toNatClampNeg = D := by rw [eD]; exact pu_cl (by omega)
  have kN : e.toNatClampNeg = N := by rw [eN]; exact pu_cl (by omega)
  refine ⟨⟨⟨b1, b2, b3⟩, by rw [kB, kN]; exact hBN, by rw [kD, kN]; exact hDN⟩, ?_⟩
  rw [kB, kD, kN]
  intro σ1 e1
  have a1 : pu_ag (fun i => i = 51 + 2 * q + 1) σ σ1 := by rw [e1]; exact pu_ag.row (pu_ag.rf _ σ) rfl
  refine m6 σ1 _ (a1 89 (by omega)) (a1 90 (by omega)) ?_
  rw [if_pos zk, if_neg b1, if_neg b2, if_neg b3, if_neg b4, if_pos b5, eB, eD, eN]
  refine ⟨N + 1, p6_copy_in hs (by omega) hBN (B := fun i => σ 91 (24 * s + B + i)) N 0 σ1 (by omega) (fun i hi => by rw [a1 91 (by omega)]) (fun i hi => absurd hi (by omega)) (fun σ2 h2 z2 => ?_)⟩
  refine ⟨N + 1, p6_copy_out hq (by omega) hDN (B := fun i => σ 91 (24 * s + B + i)) (f := σ 91) N 0 σ2 (by omega) z2 (fun i hi => absurd hi (by omega)) (fun c hc => by rw [h2 91 (by omega), a1 91 (by omega)]) (fun σ3 h3 z3 y3 => ?_)⟩
  have ag : pu_ag (fun i => i = 51 + 2 * q + 1 ∨ i = 91 ∨ i = 96) σ σ3 := ((a1.mono (fun i hi => by omega)).tr (h2.mono (fun i hi => by omega))).tr (h3.mono (fun i hi => by omega))
  refine ⟨rfl, h.fr (fun i hi => ag i (fun q => hi (by unfold pu_XF pu_XT; omega))) (by rw [ag 0 (by omega)]) (by rw [ag 74 (by omega)]) (h.2.2.1.cg (ag 46 (by omega)) (ag 81 (by omega)) (by rw [ag 45 (by omega)]) (by rw [ag 74 (by omega)])) (h.2.2.2.1.cg (ag 50 (by omega)) (ag 97 (by omega)) (by rw [ag 0 (by omega)]) (by rw [ag 74 (by omega)])) ?_ (h.2.2.2.2.2.1.cg (fun i hi => ag i (by omega)))⟩
  refine h.2.2.2.2.1.set (s := q) (fun i hi => ag i (by omega)) (fun c hc => by rw [ag 89 (by omega)]) (fun c hc => by rw [ag 90 (by omega)]) (fun c hc => y3 c (by omega)) ⟨?_, ?_, ?_, ?_, fun i hi => ?_⟩
  · rw [ag (51 + 2 * q) (by omega), ag 89 (by omega)]; exact t1
  · rw [ag (51 + 2 * q) (by omega), ag 90 (by omega)]; exact t2
  · rw [ag 89 (by omega)]; exact t3
  · rw [ag 90 (by omega)]; exact ⟨Q, hQn, t4⟩
  · rw [h3 (51 + 2 * q + 1) (by omega), h2 (51 + 2 * q + 1) (by omega), e1, pu_row_same]
    by_cases z : D ≤ i ∧ i < D + N
    · rw [pk_cpy_in z.1 z.2, show 24 * q + i = 24 * q + D + (i - D) by omega, z3 (i - D) (by omega)]
      have w := r5 (B + (i - D)) (by omega)
      rw [show 24 * s + (B + (i - D)) = 24 * s + B + (i - D) by omega] at w
      exact w
    · rw [pk_cpy_out (by omega), y3 (24 * q + i) (by omega)]
      exact t5 i hi
