/-! ===== both read a text ===== -/
def rt_c1 (T : Nat → Nat) (n : Nat) : Int32 × Nat × Nat := tk_nx T n (-1, 0, 0)
def rt_c2 (T : Nat → Nat) (n : Nat) : Int32 × Nat × Nat := tk_nx T n (rt_c1 T n)
def rt_fail (T : Nat → Nat) (n s : Nat) : Prop := (tk_key T (rt_c1 T n) = 3 ∧ s = (rt_c1 T n).2.1) ∨ ∃ key c', key < 3 ∧ tk_key T (rt_c1 T n) = key ∧ mc_fl T n key (rt_c2 T n) 0 true [] [] (fun _ => false) c' ∧ s = c'.2.1
def rt_good (T : Nat → Nat) (n key : Nat) (C : List Int32) : Prop := key < 3 ∧ tk_key T (rt_c1 T n) = key ∧ ∃ c' j, ∀ f, mc_run T n key (f + j) (rt_c2 T n) 0 true [] [] (fun _ => false) = some (true, c', C)
theorem rt_ok0 (n : Nat) : tk_ok n (-1, 0, 0) := ⟨Nat.le_refl _, Nat.zero_le _, fun q => absurd rfl q⟩
theorem p4_readText {T : Nat → Nat} {n : Nat} {σ : ovSt} {k : Int32 → ovSt → Prop} (hB : tk_BC σ T n)
    (bad : ∀ σ' s, tk_fr σ σ' → σ' 45 4 = nI s → rt_fail T n s → k 0 σ')
    (good : ∀ σ' key C, tk_fr σ σ' → σ' 45 6 = nI key → σ' 45 7 = nI C.length → σ' 45 8 = nI (tk_lv C) → (∀ i, i < C.length → pu_crel (σ' 47 i) (C.getD i 0)) → C.length ≤ 96 → rt_good T n key C → k 1 σ') : F_X4_readText σ k := by
  have hn := hB.1
  have hT : ∀ i, i < n → T i < 256 := fun i hi => (hB.2.2 i hi).1
  unfold F_X4_readText
  intro σ2 e2 σ3 e3 σ4 e4 σ5 e5
  have f5 : tk_e45 σ σ5 (fun q => q = 5 ∨ q = 3 ∨ q = 7 ∨ q = 8) := by
    rw [e5]; refine tk_e45.up ?_ (by omega) _
    rw [e4]; refine tk_e45.up ?_ (by omega) _
    rw [e3]; refine tk_e45.up ?_ (by omega) _
    rw [e2]; exact (tk_e45.rf _ _).up (by omega) _
  have B5 := hB.e f5 (by omega)
  have s3 : σ5 45 3 = -1 := by rw [e5, pu_up_same, pu_un (by omega), e4, pu_up_same, pu_un (by omega), e3, pu_up_same, pu_ue]
  have s5 : σ5 45 5 = nI 0 := by rw [e5, pu_up_same, pu_un (by omega), e4, pu_up_same, pu_un (by omega), e3, pu_up_same, pu_un (by omega), e2, pu_up_same, pu_ue]; rfl
  have s7 : σ5 45 7 = 0 := by rw [e5, pu_up_same, pu_un (by omega), e4, pu_up_same, pu_ue]
  have s8 : σ5 45 8 = 0 := by rw [e5, pu_up_same, pu_ue]
  have g1 : tk_gd T n (rt_c1 T n) := tk_nx_gd hT (rt_ok0 n)
  refine p4_next (T := T) (n := n) (c := (-1, 0, 0)) (Nat.zero_le _) B5 s3 s5 (fun σ6 f6 C6 => ?_)
  have B6 := B5.e f6 (by unfold tk_Z; omega)
  refine p4_readKey (T := T) (n := n) (c := rt_c1 T n) B6 C6 g1.1 (fun key hk ek σ7 e7 => ?_) (fun ek => ?_)
  · rw [if_neg (by decide)]
    have S7 : tk_S σ7 T n key (rt_c1 T n) [] := by
      have q7 : tk_e45 σ6 σ7 (fun q => q = 6) := by rw [e7]; exact tk_e45.up (Z := fun q => q = 6) (tk_e45.rf _ _) rfl _
      refine ⟨B6.e q7 (by omega), ⟨?_, ?_, ?_⟩, ?_, ?_, ?_, fun i hi => absurd hi (by simp)⟩
      · rw [q7.2 3 (by omega)]; exact C6.1
      · rw [q7.2 4 (by omega)]; exact C6.2.1
      · rw [q7.2 5 (by omega)]; exact C6.2.2
      · rw [e7, pu_up_same, pu_ue]
      · rw [q7.2 7 (by omega), f6.2 7 (by unfold tk_Z; omega), s7]; rfl
      · rw [q7.2 8 (by omega), f6.2 8 (by unfold tk_Z; omega), s8]; rfl
    have fr7 : tk_fr σ σ7 := by
      refine pu_ag.tr (pu_ag.tr f5.fr f6.fr) ?_
      rw [e7]; exact pu_ag.up1 (Or.inl rfl)
    refine p4_nextS g1.1 S7 (fun σ8 f8 S8 => ?_)
    have g2 : tk_gd T n (rt_c2 T n) := tk_nx_gd hT g1.1
    refine p4_readE hk S8 g2 (fun _ => false) rfl (fun σ9 c' C' f9 S9 run9 len9 end9 => ?_) (fun σ9 c' v f9 h4 fl9 hv => ?_)
    · rw [if_neg (by decide), if_pos end9]
      unfold F_X4_readText_59
      refine ⟨pu_bl1, good σ9 key C' ((fr7.tr f8).tr f9) S9.2.2.1 S9.2.2.2.1 S9.2.2.2.2.1 S9.2.2.2.2.2 len9 ⟨hk, ek, c', ?_⟩⟩
      exact run9
    · have fin := bad σ9 c'.2.1 ((fr7.tr f8).tr f9) h4 (Or.inr ⟨key, c', hk, ek, fl9, rfl⟩)
      unfold F_X4_readText_58 F_X4_readText_59
      rcases hv with w | ⟨w, w2⟩
      · rw [if_pos w]; exact ⟨pu_bl0, fin⟩
      · rw [if_neg (by rw [w]; decide), if_neg w2]; exact ⟨pu_bl0, fin⟩
  · rw [if_pos rfl]
    refine bad σ6 (rt_c1 T n).2.1 (pu_ag.tr f5.fr f6.fr) C6.2.1 (Or.inl ⟨ek, rfl⟩)
/-- the model's, up to its end -/
theorem p6_reads_text {T : Nat → Nat} {n : Nat} {σ : ovSt} {k : Int32 → ovSt → Prop} (hB : tk_BM σ T n) (hK : pu_IK σ) :
    (∀ s, rt_fail T n s → (∀ σ', pu_ag (fun i => i = 74 ∨ (84 ≤ i ∧ i ≤ 86)) σ σ' → (∀ q, ¬ (mr_Z q ∨ q = 14) → σ' 74 q = σ 74 q) → σ' 74 10 = nI s → F_X6_text_33 k 0 σ') → F_X6_text σ k) ∧
    (∀ key C, rt_good T n key C → (∀ σ', pu_ag (fun i => i = 74 ∨ (84 ≤ i ∧ i ≤ 86)) σ σ' → (∀ q, ¬ (mr_Z q ∨ q = 14) → σ' 74 q = σ 74 q) → σ' 74 14 = nI key → σ' 74 18 = nI C.length → σ' 74 19 = nI (tk_lv C) → (∀ i, i < C.length → σ' 84 i = C.getD i 0) → pu_okc (if key = 0 then 3 else 2) C 0 → F_X6_text_33 k 1 σ') → F_X6_text σ k) := by
  have hn := hB.1
  have hT : ∀ i, i < n → T i < 256 := fun i hi => (hB.2.2 i hi).1
  have g1 : tk_gd T n (rt_c1 T n) := tk_nx_gd hT (rt_ok0 n)
  have g2 : tk_gd T n (rt_c2 T n) := tk_nx_gd hT g1.1
  -- up to the key
  have start : (tk_key T (rt_c1 T n) = 3 → ∀ σ', pu_ag (fun i => i = 74 ∨ (84 ≤ i ∧ i ≤ 86)) σ σ' → (∀ q, ¬ (mr_Z q ∨ q = 14) → σ' 74 q = σ 74 q) → σ' 74 10 = nI (rt_c1 T n).2.1 → F_X6_text_33 k 0 σ') →
      (∀ key, key < 3 → tk_key T (rt_c1 T n) = key → ∀ σ', pu_ag (fun i => i = 74 ∨ (84 ≤ i ∧ i ≤ 86)) σ σ' → (∀ q, ¬ (mr_Z q ∨ q = 14) → σ' 74 q = σ 74 q) → mr_S σ' T n key (rt_c2 T n) 0 [] [] (fun _ => false) → ∃ f, F_X6_takesE_28 (fun v20 σ21 => if v20 = 0 then F_X6_text_32 k σ21 else F_X6_text_33 k 1 σ21) f 0 0 1 σ') → F_X6_text σ k := by
    intro hno hyes
    unfold F_X6_text
    intro σ1 e1 σ2 e2
    have f2 : tk_e74 σ σ2 tk_Z6 := by
      rw [e2]; refine tk_e74.up ?_ (by unfold tk_Z6; omega) _
      rw [e1]; exact (tk_e74.rf _ _).up (by unfold tk_Z6; omega) _
    refine p6_go (T := T) (n := n) (c := (-1, 0, 0)) (Nat.zero_le _) (hB.e f2 (by unfold tk_Z6; omega)) (by rw [e2, pu_up_same, pu_un (by omega), e1, pu_up_same, pu_ue]; rfl) (Or.inr ⟨rfl, by rw [e2, pu_up_same, pu_ue]; decide⟩) (fun σ3 f3 M3 => ?_)
    have f23 : tk_e74 σ σ3 tk_Z6 := f2.tr f3
    have B3 := hB.e f23 (by unfold tk_Z6; omega)
    have K3 : pu_IK σ3 := hK.cg (f23.1 82 (by omega)) (f23.1 83 (by omega))
    refine p6_takesKey (T := T) (n := n) (c := rt_c1 T n) B3 M3 g1.1 K3 (fun key hk ek σ4 f4 h14 M4 => ?_) (fun ek => ?_)
    · rw [if_neg (by decide)]
      unfold F_X6_takesE
      intro σ5 e5 σ6 e6 σ7 e7
      refine ⟨vp_in_nI (n := 0) (by decide) (by decide), ?_⟩
      intro σ8 e8
      rw [mc_bool0] at e8
      have q4 : tk_e74 σ σ4 (fun q => mr_Z q ∨ q = 14) := (f23.mono (fun q hq => Or.inl (by unfold tk_Z6 at hq; unfold mr_Z; omega))).tr (f4.mono (fun q hq => by unfold tk_Z6 at hq; unfold mr_Z; omega))
      have q7 : tk_e74 σ σ7 (fun q => mr_Z q ∨ q = 14) := by
        rw [e7]; refine tk_e74.up ?_ (by unfold mr_Z; omega) _
        rw [e6]; refine tk_e74.up ?_ (by unfold mr_Z; omega) _
        rw [e5]; exact tk_e74.up q4 (by unfold mr_Z; omega) _
      have s74 : ∀ q, q ≠ 18 → q ≠ 19 → q ≠ 21 → σ8 74 q = σ4 74 q := by
        intro q x y z
        rw [e8, pu_up_ne (by omega), e7, pu_up_same, pu_un z, e6, pu_up_same, pu_un y, e5, pu_up_same, pu_un x]
      refine hyes key hk ek σ8 ?_ (fun q hq => ?_) ⟨?_, ?_, ?_, ⟨?_, ?_, ?_, trivial, fun i hi => absurd hi (by simp)⟩, fun i hi => ?_⟩
      · rw [e8]; exact pu_ag.up (q7.1.mono (fun i hi => Or.inl hi)) (by omega)
      · rw [e8, pu_up_ne (by omega)]; exact q7.2 q hq
      · refine ⟨hn, ?_, fun i hi => ?_⟩
        · rw [e8, pu_up_ne (by omega), q7.2 8 (by unfold mr_Z; omega)]; exact hB.2.1
        · rw [e8, pu_up_ne (by omega), q7.1 81 (by omega)]; exact hB.2.2 i hi
      · obtain ⟨x1, x2, x3, x4, x5, x6, x7, x8⟩ := M4
        unfold tk_M
        rw [s74 9 (by omega) (by omega) (by omega), s74 10 (by omega) (by omega) (by omega), s74 11 (by omega) (by omega) (by omega), s74 12 (by omega) (by omega) (by omega), s74 13 (by omega) (by omega) (by omega)]
        exact ⟨x1, x2, x3, x4, x5, x6, x7, x8⟩
      · rw [s74 14 (by omega) (by omega) (by omega)]; exact h14
      · rw [e8, pu_up_ne (by omega), e7, pu_up_same, pu_un (by omega), e6, pu_up_same, pu_un (by omega), e5, pu_up_same, pu_ue]; rfl
      · rw [e8, pu_up_ne (by omega), e7, pu_up_same, pu_un (by omega), e6, pu_up_same, pu_ue]; rfl
      · rw [e8, pu_up_ne (by omega), e7, pu_up_same, pu_ue]; rfl
      · have ei : i = 0 := by omega
        rw [ei, e8, pu_up_same]
        exact pu_ue _ _ _
    · rw [if_pos rfl]
      unfold F_X6_text_32
      exact hno ek σ3 (f23.1.mono (fun i hi => Or.inl hi)) (fun q hq => f23.2 q (fun z => hq (Or.inl (by unfold tk_Z6 at z; unfold mr_Z; omega)))) M3.2.1
  have inv0 : ∀ nn, mi_I T n nn true (rt_c2 T n) 0 [] [] := fun nn => ⟨g2, Nat.zero_le _, by omega, rfl, fun m hm => absurd hm (by simp), trivial, fun q => absurd q (by decide), rfl⟩
  constructor
  · intro s hf h
    rcases hf with ⟨w1, w2⟩ | ⟨key, c', hk, w1, w2, w3⟩
    · refine start (fun _ σ' a b d => h σ' a b (by rw [w2]; exact d)) (fun key hk ek => ?_)
      rw [w1] at ek
      omega
    · refine start (fun ek => by rw [w1] at ek; omega) (fun key2 hk2 ek σ' a b S' => ?_)
      rw [w1] at ek
      subst ek
      obtain ⟨j, hj⟩ := w2
      obtain ⟨D, hD⟩ := hj 0
      rw [Nat.zero_add] at hD
      refine ⟨j, ?_⟩
      refine p6_E_loop hk (r := (false, c', D)) j (rt_c2 T n) 0 true [] [] (fun _ => false) σ' S' (inv0 _) hD (fun σ2 f2 _ h10 => ?_) (fun σ2 f2 q => absurd (show false = true from q) (by decide))
      show (if (0 : Int32) = 0 then _ else _)
      rw [if_pos rfl]
      unfold F_X6_text_32
      refine h σ2 (a.tr f2.1) (fun q hq => by rw [f2.2 q (fun z => hq (Or.inl z)), b q hq]) ?_
      rw [w3]; exact h10
  · intro key C hg h
    obtain ⟨hk, ek, c', j, hj⟩ := hg
    refine start (fun ek2 => by rw [ek] at ek2; omega) (fun key2 hk2 ek2 σ' a b S' => ?_)
    rw [ek] at ek2
    subst ek2
    have hD := hj 0
    rw [Nat.zero_add] at hD
    refine ⟨j, ?_⟩
    refine p6_E_loop hk (r := (true, c', C)) j (rt_c2 T n) 0 true [] [] (fun _ => false) σ' S' (inv0 _) hD (fun σ2 f2 q => absurd (show true = false from q) (by decide)) (fun σ2 f2 _ h18 h19 h84 hoc h14 => ?_)
    show (if (1 : Int32) = 0 then _ else _)
    rw [if_neg (by decide)]
    exact h σ2 (a.tr f2.1) (fun q hq => by rw [f2.2 q (fun z => hq (Or.inl z)), b q hq]) h14 h18 h19 h84 hoc
