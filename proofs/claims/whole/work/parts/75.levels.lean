/-! ===== the class's reader, level by level ===== -/
def tk_F (σ : ovSt) (c : Int32 × Nat × Nat) : Prop := σ 45 4 = nI c.2.1 ∧ ∃ N, N ≤ 96 ∧ σ 45 7 = nI N
theorem p4_emitF {k : ovSt → Prop} {x : Int32} {σ : ovSt} {c : Int32 × Nat × Nat} (hF : tk_F σ c) (h : ∀ σ', tk_fr σ σ' → tk_F σ' c → k σ') : F_X4_emit x σ k := by
  obtain ⟨h4, N, hN, h7⟩ := hF
  by_cases z : N < 96
  · exact p4_emit z h7 (fun σ' hf hq g7 _ => h σ' hf ⟨by rw [hq 4 (by omega)]; exact h4, N + 1, by omega, g7⟩)
  · unfold F_X4_emit F_X4_emit_29
    rw [h7, if_pos (show (96 : Int32) ≤ nI N from nI_le (a := 96) (by omega) (by omega))]
    exact h σ (pu_ag.rf _ σ) ⟨h4, N, hN, h7⟩
def sp_L (T : Nat → Nat) (n key r : Nat) (G : Int32 → Int32 → ovSt → (Int32 → ovSt → Prop) → Prop) (p q : Nat) : Prop :=
  ∀ (σ : ovSt) (c : Int32 × Nat × Nat) (W C : List Int32) (t : Nat → Bool) (k : Int32 → ovSt → Prop), tk_S σ T n key c C → tk_gd T n c → mc_lo r W → C.length + W.length ≤ c.2.1 → mc_nt W = q → (r ≤ 3 → t p = false) →
    (∀ σ' c' Q C' t', tk_fr σ σ' → tk_S σ' T n key c' (C' ++ Q) → mc_G T n key r r c p W C t c' Q C' t' → k 1 σ') →
    (∀ σ' c', tk_fr σ σ' → tk_F σ' c' → mc_fl T n key c p true W C t c' → k 0 σ') → G (nI p) (nI q) σ k
theorem mc_rk_1 {k : Int32} (h : ¬ mc_sg k = 0) (hr : mc_rk (mc_sg k) = 1) : k = 124 := by
  rcases mc_sg_in h with ⟨a, b⟩ | ⟨a, b⟩ | ⟨a, b⟩ | ⟨a, b⟩ | ⟨a, b⟩ | ⟨a, b⟩ | ⟨a, b⟩ | ⟨a, b⟩ | ⟨a, b⟩ <;> first | exact a | (rw [b] at hr; exact absurd hr (by decide))
theorem mc_rk_2 {k : Int32} (h : ¬ mc_sg k = 0) (hr : mc_rk (mc_sg k) = 2) : k = 38 := by
  rcases mc_sg_in h with ⟨a, b⟩ | ⟨a, b⟩ | ⟨a, b⟩ | ⟨a, b⟩ | ⟨a, b⟩ | ⟨a, b⟩ | ⟨a, b⟩ | ⟨a, b⟩ | ⟨a, b⟩ <;> first | (rw [b] at hr; exact absurd hr (by decide)) | exact a
theorem mc_rk_3 {k : Int32} (h : ¬ mc_sg k = 0) (hr : mc_rk (mc_sg k) = 3) : k = 60 ∨ k = 61 ∨ k = 62 := by
  rcases mc_sg_in h with ⟨a, b⟩ | ⟨a, b⟩ | ⟨a, b⟩ | ⟨a, b⟩ | ⟨a, b⟩ | ⟨a, b⟩ | ⟨a, b⟩ | ⟨a, b⟩ | ⟨a, b⟩ <;> first | (rw [b] at hr; exact absurd hr (by decide)) | exact Or.inl a | exact Or.inr (Or.inl a) | exact Or.inr (Or.inr a)
theorem mc_rk_4 {k : Int32} (h : ¬ mc_sg k = 0) (hr : mc_rk (mc_sg k) = 4) : k = 43 ∨ k = 45 := by
  rcases mc_sg_in h with ⟨a, b⟩ | ⟨a, b⟩ | ⟨a, b⟩ | ⟨a, b⟩ | ⟨a, b⟩ | ⟨a, b⟩ | ⟨a, b⟩ | ⟨a, b⟩ | ⟨a, b⟩ <;> first | (rw [b] at hr; exact absurd hr (by decide)) | exact Or.inl a | exact Or.inr a
theorem mc_rk_5 {k : Int32} (h : ¬ mc_sg k = 0) (hr : mc_rk (mc_sg k) = 5) : k = 42 ∨ k = 47 := by
  rcases mc_sg_in h with ⟨a, b⟩ | ⟨a, b⟩ | ⟨a, b⟩ | ⟨a, b⟩ | ⟨a, b⟩ | ⟨a, b⟩ | ⟨a, b⟩ | ⟨a, b⟩ | ⟨a, b⟩ <;> first | (rw [b] at hr; exact absurd hr (by decide)) | exact Or.inl a | exact Or.inr a
theorem mc_sg_m1 {c : Int32 × Nat × Nat} (h : c.1 = -1) : mc_sg c.1 = 0 := by rw [h]; decide
theorem tk_S.hT {σ : ovSt} {T : Nat → Nat} {n key : Nat} {c : Int32 × Nat × Nat} {C : List Int32} (h : tk_S σ T n key c C) : ∀ i, i < n → T i < 256 := fun i hi => (h.1.2.2 i hi).1
/-- the sign ahead and what stands right of it -/
theorem p4_right {T : Nat → Nat} {n key r : Nat} {G : Int32 → Int32 → ovSt → (Int32 → ovSt → Prop) → Prop} {p q : Nat} (hG : sp_L T n key (r + 1) G p q) {c : Int32 × Nat × Nat} {W C : List Int32} {t : Nat → Bool} (hlo : mc_lo r W) (hq : mc_nt W = q) {k : Int32 → ovSt → Prop} {σ1 : ovSt} {c1 : Int32 × Nat × Nat} {Q1 C1 : List Int32} {t1 : Nat → Bool} (hS : tk_S σ1 T n key c1 (C1 ++ Q1)) (hg : mc_G T n key r (r + 1) c p W C t c1 Q1 C1 t1) (hm : ¬ mc_sg c1.1 = 0) (hrk : mc_rk (mc_sg c1.1) = r) (h3 : ¬ (r = 3 ∧ t1 p = true))
    (good : ∀ σ' c3 Q3 C3 t3, tk_fr σ1 σ' → tk_S σ' T n key c3 (C3 ++ (Q3 ++ [mc_sg c1.1])) → mc_G T n key r (r + 1) c p W C t c3 (Q3 ++ [mc_sg c1.1]) C3 t3 → mc_G T n key (r + 1) (r + 1) (tk_nx T n c1) p (mc_sg c1.1 :: W) (C1 ++ Q1) (mc_t2 r t1 p) c3 Q3 C3 t3 → c1.2.1 < c3.2.1 → k 1 σ')
    (bad : ∀ σ' c3, tk_fr σ1 σ' → tk_F σ' c3 → mc_fl T n key c p true W C t c3 → k 0 σ') :
    F_X4_next σ1 (fun σ3 => G (nI p) (nI q) σ3 (fun v4 σ5 => F_X4_emit (-c1.1) σ5 (fun σ7 => k v4 σ7))) := by
  have hT := hS.hT
  have hn := hS.1.1
  have hb := mc_sg_bin hm
  obtain ⟨o1, o2, o3, o4, o5, o6, o7⟩ := mc_op hT hg hlo hm hrk h3
  refine p4_nextS hg.2.1.1 hS (fun σ2 f2 S2 => ?_)
  refine hG σ2 (tk_nx T n c1) (mc_sg c1.1 :: W) (C1 ++ Q1) (mc_t2 r t1 p) _ S2 o2 o4 o3 ?_ o5 (fun σ3 c3 Q3 C3 t3 f3 S3 G3 => ?_) (fun σ3 c3 f3 F3 fl3 => ?_)
  · unfold mc_nt
    rw [if_neg hb.2.1, Nat.zero_add]
    exact hq
  · have g2 := mc_op2 hT hg hlo hm hrk h3 G3
    have hl : (C3 ++ Q3).length < 96 := by
      have a := g2.1.2.2.2.2.2.2.2
      have b := g2.1.2.1.1
      have b1 := b.1
      have b2 := b.2.1
      rw [List.length_append, List.length_append] at a
      rw [List.length_append]
      have e : [mc_sg c1.1].length = 1 := rfl
      omega
    refine p4_emitS hb.1 hb.2.2.2.2.2 hl S3 (fun σ4 f4 S4 => ?_)
    rw [List.append_assoc] at S4
    exact good σ4 c3 Q3 C3 t3 ((f2.tr f3).tr f4) S4 g2.1 G3 g2.2
  · refine p4_emitF F3 (fun σ4 f4 F4 => ?_)
    exact bad σ4 c3 ((f2.tr f3).tr f4) F4 (o1.fl fl3)

theorem p4_readOr_loop {T : Nat → Nat} {n key : Nat} {G : Int32 → Int32 → ovSt → (Int32 → ovSt → Prop) → Prop} {p q : Nat} (hG : sp_L T n key 2 G p q) {c : Int32 × Nat × Nat} {W C : List Int32} {t : Nat → Bool} (hlo : mc_lo 1 W) (hq : mc_nt W = q) {k : Int32 → ovSt → Prop} {σ : ovSt} (good : ∀ σ' c' Q C' t', tk_fr σ σ' → tk_S σ' T n key c' (C' ++ Q) → mc_G T n key 1 1 c p W C t c' Q C' t' → k 1 σ') (bad : ∀ σ' c', tk_fr σ σ' → tk_F σ' c' → mc_fl T n key c p true W C t c' → k 0 σ') : ∀ (m j : Nat) (σ1 : ovSt) (c1 : Int32 × Nat × Nat) (Q1 C1 : List Int32) (t1 : Nat → Bool), j + m = 96 → j ≤ c1.2.1 → tk_fr σ σ1 → tk_S σ1 T n key c1 (C1 ++ Q1) → mc_G T n key 1 (1 + 1) c p W C t c1 Q1 C1 t1 → F_X4_readOr_10 G k (m + 1) (nI p) (nI q) 1 (nI j) σ1
  | 0, j, σ1, c1, Q1, C1, t1, hj, hjc, f1, S1, g1 => by
    have ej : j = 96 := by omega
    subst ej
    have hn := S1.1.1
    unfold F_X4_readOr_10 F_X4_readOr_53
    rw [if_pos (by decide)]
    refine ⟨pu_bl1, good σ1 c1 Q1 C1 t1 f1 S1 (g1.exit (fun z => absurd (mc_sg_m1 ?_) z))⟩
    obtain ⟨o1, o2, o3⟩ := g1.2.1.1
    by_cases w : c1.1 = -1
    · exact w
    · have := o3 w
      omega
  | m + 1, j, σ1, c1, Q1, C1, t1, hj, hjc, f1, S1, g1 => by
    have hn := S1.1.1
    have out : ∀ (v : Int32) (σ2 : ovSt), v = 0 → k 0 σ2 → F_X4_readOr_10 G k (m + 1) (nI p) (nI q) v (nI j + 1) σ2 := by
      intro v σ2 hv hk
      subst hv
      unfold F_X4_readOr_10 F_X4_readOr_53
      by_cases w : (96 : Int32) ≤ nI j + 1
      · rw [if_pos w]; exact ⟨pu_bl0, hk⟩
      · rw [if_neg w, if_pos rfl]; exact ⟨pu_bl0, hk⟩
    have nx : ∀ (hm : ¬ mc_sg c1.1 = 0) (hrk : mc_rk (mc_sg c1.1) = 1), F_X4_next σ1 (fun σ3 => G (nI p) (nI q) σ3 (fun v4 σ5 => F_X4_emit (-c1.1) σ5 (fun σ7 => F_X4_readOr_10 G k (m + 1) (nI p) (nI q) v4 (nI j + 1) σ7))) := by
      intro hm hrk
      refine p4_right (r := 1) (k := fun v4 σ7 => F_X4_readOr_10 G k (m + 1) (nI p) (nI q) v4 (nI j + 1) σ7) hG hlo hq S1 g1 hm hrk (by omega) (fun σ2 c3 Q3 C3 t3 f2 S2 g2 _ lt => ?_) (fun σ2 c3 f2 F2 fl2 => ?_)
      · rw [← nI_succ]
        exact p4_readOr_loop hG hlo hq good bad m (j + 1) σ2 c3 (Q3 ++ [mc_sg c1.1]) C3 t3 (by omega) (by omega) (f1.tr f2) S2 g2
      · exact out 0 σ2 rfl (bad σ2 c3 (f1.tr f2) F2 fl2)
    unfold F_X4_readOr_10
    rw [if_neg (by rw [show (96 : Int32) = nI 96 from rfl, nI_leI (by omega) (by omega)]; omega), if_neg (by decide), S1.2.1.1]
    by_cases z : c1.1 = 124
    · rw [if_pos z]
      have w := nx (by rw [z]; decide) (by rw [z]; decide)
      rw [z] at w
      exact w
    · rw [if_neg z]
      unfold F_X4_readOr_53
      exact ⟨pu_bl1, good σ1 c1 Q1 C1 t1 f1 S1 (g1.exit (fun h0 hr => z (mc_rk_1 h0 hr)))⟩
theorem p4_readOr {T : Nat → Nat} {n key : Nat} {G : Int32 → Int32 → ovSt → (Int32 → ovSt → Prop) → Prop} {p q : Nat} (hG : sp_L T n key 2 G p q) : sp_L T n key 1 (F_X4_readOr G) p q := by
  intro σ c W C t k hS hg hlo hlen hq ht good bad
  unfold F_X4_readOr
  refine hG σ c W C t _ hS hg (mc_lo_mono (by omega) hlo) hlen hq (fun _ => ht (by omega)) (fun σ1 c1 Q1 C1 t1 f1 S1 g1 => ?_) (fun σ1 c1 f1 F1 fl1 => ?_)
  · exact ⟨97, p4_readOr_loop hG hlo hq good bad 96 0 σ1 c1 Q1 C1 t1 (by omega) (by omega) f1 S1 (g1.mono (by omega))⟩
  · refine ⟨1, ?_⟩
    unfold F_X4_readOr_10 F_X4_readOr_53
    rw [if_neg (by decide), if_pos rfl]
    exact ⟨pu_bl0, bad σ1 c1 f1 F1 fl1⟩

theorem p4_readAnd_loop {T : Nat → Nat} {n key : Nat} {G : Int32 → Int32 → ovSt → (Int32 → ovSt → Prop) → Prop} {p q : Nat} (hG : sp_L T n key 3 G p q) {c : Int32 × Nat × Nat} {W C : List Int32} {t : Nat → Bool} (hlo : mc_lo 2 W) (hq : mc_nt W = q) {k : Int32 → ovSt → Prop} {σ : ovSt} (good : ∀ σ' c' Q C' t', tk_fr σ σ' → tk_S σ' T n key c' (C' ++ Q) → mc_G T n key 2 2 c p W C t c' Q C' t' → k 1 σ') (bad : ∀ σ' c', tk_fr σ σ' → tk_F σ' c' → mc_fl T n key c p true W C t c' → k 0 σ') : ∀ (m j : Nat) (σ1 : ovSt) (c1 : Int32 × Nat × Nat) (Q1 C1 : List Int32) (t1 : Nat → Bool), j + m = 96 → j ≤ c1.2.1 → tk_fr σ σ1 → tk_S σ1 T n key c1 (C1 ++ Q1) → mc_G T n key 2 (2 + 1) c p W C t c1 Q1 C1 t1 → F_X4_readAnd_10 G k (m + 1) (nI p) (nI q) 1 (nI j) σ1
  | 0, j, σ1, c1, Q1, C1, t1, hj, hjc, f1, S1, g1 => by
    have ej : j = 96 := by omega
    subst ej
    have hn := S1.1.1
    unfold F_X4_readAnd_10 F_X4_readAnd_53
    rw [if_pos (by decide)]
    refine ⟨pu_bl1, good σ1 c1 Q1 C1 t1 f1 S1 (g1.exit (fun z => absurd (mc_sg_m1 ?_) z))⟩
    obtain ⟨o1, o2, o3⟩ := g1.2.1.1
    by_cases w : c1.1 = -1
    · exact w
    · have := o3 w
      omega
  | m + 1, j, σ1, c1, Q1, C1, t1, hj, hjc, f1, S1, g1 => by
    have hn := S1.1.1
    have out : ∀ (v : Int32) (σ2 : ovSt), v = 0 → k 0 σ2 → F_X4_readAnd_10 G k (m + 1) (nI p) (nI q) v (nI j + 1) σ2 := by
      intro v σ2 hv hk
      subst hv
      unfold F_X4_readAnd_10 F_X4_readAnd_53
      by_cases w : (96 : Int32) ≤ nI j + 1
      · rw [if_pos w]; exact ⟨pu_bl0, hk⟩
      · rw [if_neg w, if_pos rfl]; exact ⟨pu_bl0, hk⟩
    have nx : ∀ (hm : ¬ mc_sg c1.1 = 0) (hrk : mc_rk (mc_sg c1.1) = 2), F_X4_next σ1 (fun σ3 => G (nI p) (nI q) σ3 (fun v4 σ5 => F_X4_emit (-c1.1) σ5 (fun σ7 => F_X4_readAnd_10 G k (m + 1) (nI p) (nI q) v4 (nI j + 1) σ7))) := by
      intro hm hrk
      refine p4_right (r := 2) (k := fun v4 σ7 => F_X4_readAnd_10 G k (m + 1) (nI p) (nI q) v4 (nI j + 1) σ7) hG hlo hq S1 g1 hm hrk (by omega) (fun σ2 c3 Q3 C3 t3 f2 S2 g2 _ lt => ?_) (fun σ2 c3 f2 F2 fl2 => ?_)
      · rw [← nI_succ]
        exact p4_readAnd_loop hG hlo hq good bad m (j + 1) σ2 c3 (Q3 ++ [mc_sg c1.1]) C3 t3 (by omega) (by omega) (f1.tr f2) S2 g2
      · exact out 0 σ2 rfl (bad σ2 c3 (f1.tr f2) F2 fl2)
    unfold F_X4_readAnd_10
    rw [if_neg (by rw [show (96 : Int32) = nI 96 from rfl, nI_leI (by omega) (by omega)]; omega), if_neg (by decide), S1.2.1.1]
    by_cases z : c1.1 = 38
    · rw [if_pos z]
      have w := nx (by rw [z]; decide) (by rw [z]; decide)
      rw [z] at w
      exact w
    · rw [if_neg z]
      unfold F_X4_readAnd_53
      exact ⟨pu_bl1, good σ1 c1 Q1 C1 t1 f1 S1 (g1.exit (fun h0 hr => z (mc_rk_2 h0 hr)))⟩
theorem p4_readAnd {T : Nat → Nat} {n key : Nat} {G : Int32 → Int32 → ovSt → (Int32 → ovSt → Prop) → Prop} {p q : Nat} (hG : sp_L T n key 3 G p q) : sp_L T n key 2 (F_X4_readAnd G) p q := by
  intro σ c W C t k hS hg hlo hlen hq ht good bad
  unfold F_X4_readAnd
  refine hG σ c W C t _ hS hg (mc_lo_mono (by omega) hlo) hlen hq (fun _ => ht (by omega)) (fun σ1 c1 Q1 C1 t1 f1 S1 g1 => ?_) (fun σ1 c1 f1 F1 fl1 => ?_)
  · exact ⟨97, p4_readAnd_loop hG hlo hq good bad 96 0 σ1 c1 Q1 C1 t1 (by omega) (by omega) f1 S1 (g1.mono (by omega))⟩
  · refine ⟨1, ?_⟩
    unfold F_X4_readAnd_10 F_X4_readAnd_53
    rw [if_neg (by decide), if_pos rfl]
    exact ⟨pu_bl0, bad σ1 c1 f1 F1 fl1⟩

theorem p4_readSum_loop {T : Nat → Nat} {n key : Nat} {G : Int32 → Int32 → ovSt → (Int32 → ovSt → Prop) → Prop} {p q : Nat} (hG : sp_L T n key 5 G p q) {c : Int32 × Nat × Nat} {W C : List Int32} {t : Nat → Bool} (hlo : mc_lo 4 W) (hq : mc_nt W = q) {k : Int32 → ovSt → Prop} {σ : ovSt} (good : ∀ σ' c' Q C' t', tk_fr σ σ' → tk_S σ' T n key c' (C' ++ Q) → mc_G T n key 4 4 c p W C t c' Q C' t' → k 1 σ') (bad : ∀ σ' c', tk_fr σ σ' → tk_F σ' c' → mc_fl T n key c p true W C t c' → k 0 σ') : ∀ (m j : Nat) (σ1 : ovSt) (c1 : Int32 × Nat × Nat) (Q1 C1 : List Int32) (t1 : Nat → Bool), j + m = 96 → j ≤ c1.2.1 → tk_fr σ σ1 → tk_S σ1 T n key c1 (C1 ++ Q1) → mc_G T n key 4 (4 + 1) c p W C t c1 Q1 C1 t1 → F_X4_readSum_10 G k (m + 1) (nI p) (nI q) 1 (nI j) σ1
  | 0, j, σ1, c1, Q1, C1, t1, hj, hjc, f1, S1, g1 => by
    have ej : j = 96 := by omega
    subst ej
    have hn := S1.1.1
    unfold F_X4_readSum_10 F_X4_readSum_69
    rw [if_pos (by decide)]
    refine ⟨pu_bl1, good σ1 c1 Q1 C1 t1 f1 S1 (g1.exit (fun z => absurd (mc_sg_m1 ?_) z))⟩
    obtain ⟨o1, o2, o3⟩ := g1.2.1.1
    by_cases w : c1.1 = -1
    · exact w
    · have := o3 w
      omega
  | m + 1, j, σ1, c1, Q1, C1, t1, hj, hjc, f1, S1, g1 => by
    have hn := S1.1.1
    have out : ∀ (v : Int32) (σ2 : ovSt), v = 0 → k 0 σ2 → F_X4_readSum_10 G k (m + 1) (nI p) (nI q) v (nI j + 1) σ2 := by
      intro v σ2 hv hk
      subst hv
      unfold F_X4_readSum_10 F_X4_readSum_69
      by_cases w : (96 : Int32) ≤ nI j + 1
      · rw [if_pos w]; exact ⟨pu_bl0, hk⟩
      · rw [if_neg w, if_pos rfl]; exact ⟨pu_bl0, hk⟩
    have nx : ∀ (hm : ¬ mc_sg c1.1 = 0) (hrk : mc_rk (mc_sg c1.1) = 4), F_X4_next σ1 (fun σ3 => G (nI p) (nI q) σ3 (fun v4 σ5 => F_X4_emit (-c1.1) σ5 (fun σ7 => F_X4_readSum_10 G k (m + 1) (nI p) (nI q) v4 (nI j + 1) σ7))) := by
      intro hm hrk
      refine p4_right (r := 4) (k := fun v4 σ7 => F_X4_readSum_10 G k (m + 1) (nI p) (nI q) v4 (nI j + 1) σ7) hG hlo hq S1 g1 hm hrk (by omega) (fun σ2 c3 Q3 C3 t3 f2 S2 g2 _ lt => ?_) (fun σ2 c3 f2 F2 fl2 => ?_)
      · rw [← nI_succ]
        exact p4_readSum_loop hG hlo hq good bad m (j + 1) σ2 c3 (Q3 ++ [mc_sg c1.1]) C3 t3 (by omega) (by omega) (f1.tr f2) S2 g2
      · exact out 0 σ2 rfl (bad σ2 c3 (f1.tr f2) F2 fl2)
    unfold F_X4_readSum_10
    rw [if_neg (by rw [show (96 : Int32) = nI 96 from rfl, nI_leI (by omega) (by omega)]; omega), if_neg (by decide), S1.2.1.1]
    have z39 : (c1.1 = 43 ∨ c1.1 = 45) → F_X4_readSum_39 (F_X4_readSum_10 G k (m + 1)) G k (nI p) (nI q) (nI j) σ1 := by
      intro z
      unfold F_X4_readSum_39
      intro v1 hv1
      rw [S1.2.1.1] at hv1
      subst hv1
      exact nx (by rcases z with z | z <;> (rw [z]; decide)) (by rcases z with z | z <;> (rw [z]; decide))
    by_cases za : c1.1 = 43
    · rw [if_pos za]; exact z39 (Or.inl za)
    rw [if_neg za]
    by_cases zb : c1.1 = 45
    · rw [if_pos zb]; exact z39 (Or.inr zb)
    rw [if_neg zb]
    unfold F_X4_readSum_69
    exact ⟨pu_bl1, good σ1 c1 Q1 C1 t1 f1 S1 (g1.exit (fun h0 hr => (mc_rk_4 h0 hr).elim za zb))⟩
theorem p4_readSum {T : Nat → Nat} {n key : Nat} {G : Int32 → Int32 → ovSt → (Int32 → ovSt → Prop) → Prop} {p q : Nat} (hG : sp_L T n key 5 G p q) : sp_L T n key 4 (F_X4_readSum G) p q := by
  intro σ c W C t k hS hg hlo hlen hq ht good bad
  unfold F_X4_readSum
  refine hG σ c W C t _ hS hg (mc_lo_mono (by omega) hlo) hlen hq (fun q => absurd q (by omega)) (fun σ1 c1 Q1 C1 t1 f1 S1 g1 => ?_) (fun σ1 c1 f1 F1 fl1 => ?_)
  · exact ⟨97, p4_readSum_loop hG hlo hq good bad 96 0 σ1 c1 Q1 C1 t1 (by omega) (by omega) f1 S1 (g1.mono (by omega))⟩
  · refine ⟨1, ?_⟩
    unfold F_X4_readSum_10 F_X4_readSum_69
    rw [if_neg (by decide), if_pos rfl]
    exact ⟨pu_bl0, bad σ1 c1 f1 F1 fl1⟩

theorem p4_readTerm_loop {T : Nat → Nat} {n key : Nat} {G : Int32 → Int32 → ovSt → (Int32 → ovSt → Prop) → Prop} {p q : Nat} (hG : sp_L T n key 6 G p q) {c : Int32 × Nat × Nat} {W C : List Int32} {t : Nat → Bool} (hlo : mc_lo 5 W) (hq : mc_nt W = q) {k : Int32 → ovSt → Prop} {σ : ovSt} (good : ∀ σ' c' Q C' t', tk_fr σ σ' → tk_S σ' T n key c' (C' ++ Q) → mc_G T n key 5 5 c p W C t c' Q C' t' → k 1 σ') (bad : ∀ σ' c', tk_fr σ σ' → tk_F σ' c' → mc_fl T n key c p true W C t c' → k 0 σ') : ∀ (m j : Nat) (σ1 : ovSt) (c1 : Int32 × Nat × Nat) (Q1 C1 : List Int32) (t1 : Nat → Bool), j + m = 96 → j ≤ c1.2.1 → tk_fr σ σ1 → tk_S σ1 T n key c1 (C1 ++ Q1) → mc_G T n key 5 (5 + 1) c p W C t c1 Q1 C1 t1 → F_X4_readTerm_10 G k (m + 1) (nI p) (nI q) 1 (nI j) σ1
  | 0, j, σ1, c1, Q1, C1, t1, hj, hjc, f1, S1, g1 => by
    have ej : j = 96 := by omega
    subst ej
    have hn := S1.1.1
    unfold F_X4_readTerm_10 F_X4_readTerm_69
    rw [if_pos (by decide)]
    refine ⟨pu_bl1, good σ1 c1 Q1 C1 t1 f1 S1 (g1.exit (fun z => absurd (mc_sg_m1 ?_) z))⟩
    obtain ⟨o1, o2, o3⟩ := g1.2.1.1
    by_cases w : c1.1 = -1
    · exact w
    · have := o3 w
      omega
  | m + 1, j, σ1, c1, Q1, C1, t1, hj, hjc, f1, S1, g1 => by
    have hn := S1.1.1
    have out : ∀ (v : Int32) (σ2 : ovSt), v = 0 → k 0 σ2 → F_X4_readTerm_10 G k (m + 1) (nI p) (nI q) v (nI j + 1) σ2 := by
      intro v σ2 hv hk
      subst hv
      unfold F_X4_readTerm_10 F_X4_readTerm_69
      by_cases w : (96 : Int32) ≤ nI j + 1
      · rw [if_pos w]; exact ⟨pu_bl0, hk⟩
      · rw [if_neg w, if_pos rfl]; exact ⟨pu_bl0, hk⟩
    have nx : ∀ (hm : ¬ mc_sg c1.1 = 0) (hrk : mc_rk (mc_sg c1.1) = 5), F_X4_next σ1 (fun σ3 => G (nI p) (nI q) σ3 (fun v4 σ5 => F_X4_emit (-c1.1) σ5 (fun σ7 => F_X4_readTerm_10 G k (m + 1) (nI p) (nI q) v4 (nI j + 1) σ7))) := by
      intro hm hrk
      refine p4_right (r := 5) (k := fun v4 σ7 => F_X4_readTerm_10 G k (m + 1) (nI p) (nI q) v4 (nI j + 1) σ7) hG hlo hq S1 g1 hm hrk (by omega) (fun σ2 c3 Q3 C3 t3 f2 S2 g2 _ lt => ?_) (fun σ2 c3 f2 F2 fl2 => ?_)
      · rw [← nI_succ]
        exact p4_readTerm_loop hG hlo hq good bad m (j + 1) σ2 c3 (Q3 ++ [mc_sg c1.1]) C3 t3 (by omega) (by omega) (f1.tr f2) S2 g2
      · exact out 0 σ2 rfl (bad σ2 c3 (f1.tr f2) F2 fl2)
    unfold F_X4_readTerm_10
    rw [if_neg (by rw [show (96 : Int32) = nI 96 from rfl, nI_leI (by omega) (by omega)]; omega), if_neg (by decide), S1.2.1.1]
    have z39 : (c1.1 = 42 ∨ c1.1 = 47) → F_X4_readTerm_39 (F_X4_readTerm_10 G k (m + 1)) G k (nI p) (nI q) (nI j) σ1 := by
      intro z
      unfold F_X4_readTerm_39
      intro v1 hv1
      rw [S1.2.1.1] at hv1
      subst hv1
      exact nx (by rcases z with z | z <;> (rw [z]; decide)) (by rcases z with z | z <;> (rw [z]; decide))
    by_cases za : c1.1 = 42
    · rw [if_pos za]; exact z39 (Or.inl za)
    rw [if_neg za]
    by_cases zb : c1.1 = 47
    · rw [if_pos zb]; exact z39 (Or.inr zb)
    rw [if_neg zb]
    unfold F_X4_readTerm_69
    exact ⟨pu_bl1, good σ1 c1 Q1 C1 t1 f1 S1 (g1.exit (fun h0 hr => (mc_rk_5 h0 hr).elim za zb))⟩
theorem p4_readTerm {T : Nat → Nat} {n key : Nat} {G : Int32 → Int32 → ovSt → (Int32 → ovSt → Prop) → Prop} {p q : Nat} (hG : sp_L T n key 6 G p q) : sp_L T n key 5 (F_X4_readTerm G) p q := by
  intro σ c W C t k hS hg hlo hlen hq ht good bad
  unfold F_X4_readTerm
  refine hG σ c W C t _ hS hg (mc_lo_mono (by omega) hlo) hlen hq (fun q => absurd q (by omega)) (fun σ1 c1 Q1 C1 t1 f1 S1 g1 => ?_) (fun σ1 c1 f1 F1 fl1 => ?_)
  · exact ⟨97, p4_readTerm_loop hG hlo hq good bad 96 0 σ1 c1 Q1 C1 t1 (by omega) (by omega) f1 S1 (g1.mono (by omega))⟩
  · refine ⟨1, ?_⟩
    unfold F_X4_readTerm_10 F_X4_readTerm_69
    rw [if_neg (by decide), if_pos rfl]
    exact ⟨pu_bl0, bad σ1 c1 f1 F1 fl1⟩
theorem p4_readTest {T : Nat → Nat} {n key : Nat} {G : Int32 → Int32 → ovSt → (Int32 → ovSt → Prop) → Prop} {p q : Nat} (hG : sp_L T n key 4 G p q) : sp_L T n key 3 (F_X4_readTest G) p q := by
  intro σ c W C t k hS hg hlo hlen hq ht good bad
  unfold F_X4_readTest
  refine hG σ c W C t _ hS hg (mc_lo_mono (by omega) hlo) hlen hq (fun q => absurd q (by omega)) (fun σ1 c1 Q1 C1 t1 f1 S1 g1 => ?_) (fun σ1 c1 f1 F1 fl1 => ?_)
  · rw [if_neg (by decide)]
    have t1p : t1 p = false := by rw [g1.2.2.2.2.2.2.1 (by omega)]; exact ht (by omega)
    have g1' := g1.mono (r' := 3) (by omega)
    have z36 : (c1.1 = 60 ∨ c1.1 = 61 ∨ c1.1 = 62) → F_X4_readTest_36 G k (nI p) (nI q) c1.1 σ1 := by
      intro z
      have hm : ¬ mc_sg c1.1 = 0 := by rcases z with z | z | z <;> (rw [z]; decide)
      have hrk : mc_rk (mc_sg c1.1) = 3 := by rcases z with z | z | z <;> (rw [z]; decide)
      unfold F_X4_readTest_36
      refine p4_right (r := 3) (k := fun v3 σ6 => ov_bl v3 ∧ k v3 σ6) hG hlo hq S1 g1' hm hrk (fun w => by rw [t1p] at w; exact absurd w.2 (by decide)) (fun σ2 c3 Q3 C3 t3 f2 S2 g2 g3 lt => ?_) (fun σ2 c3 f2 F2 fl2 => ?_)
      · refine ⟨pu_bl1, good σ2 c3 (Q3 ++ [mc_sg c1.1]) C3 t3 (f1.tr f2) S2 ?_⟩
        obtain ⟨x1, x2, x3, x4, x5, x6, x7, x8⟩ := g2
        have tp : t3 p = true := by rw [g3.2.2.2.2.2.2.1 (by omega), mc_t2_p]; rfl
        refine ⟨x1, x2, x3, x4, ?_, x6, x7, x8⟩
        rcases x5 with w | w | w
        · exact Or.inl w
        · by_cases y : mc_rk (mc_sg c3.1) = 3
          · exact Or.inr (Or.inr ⟨y, tp⟩)
          · exact Or.inr (Or.inl (by omega))
        · exact Or.inr (Or.inr w)
      · exact ⟨pu_bl0, bad σ2 c3 (f1.tr f2) F2 fl2⟩
    intro v hv
    rw [S1.2.1.1] at hv
    subst hv
    by_cases z0 : c1.1 = 60
    · rw [if_pos z0]; exact z36 (Or.inl z0)
    rw [if_neg z0]
    by_cases z1 : c1.1 = 61
    · rw [if_pos z1]; exact z36 (Or.inr (Or.inl z1))
    rw [if_neg z1]
    by_cases z2 : c1.1 = 62
    · rw [if_pos z2]; exact z36 (Or.inr (Or.inr z2))
    rw [if_neg z2]
    refine good σ1 c1 Q1 C1 t1 f1 S1 (g1'.exit (fun h0 hr => ?_))
    rcases mc_rk_3 h0 hr with w | w | w
    · exact z0 w
    · exact z1 w
    · exact z2 w
  · rw [if_pos rfl]
    exact bad σ1 c1 f1 F1 fl1
