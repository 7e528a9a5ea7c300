/-! ===== the model's loop ===== -/
theorem tk_m_3 {c : Int32 × Nat × Nat} {b : Nat} (hb : b < 256) (h : c.1 = nI b) : tk_m c.1 = 3 := by rw [h]; exact tk_m_sign hb
theorem p6_part87 {T : Nat → Nat} {n key : Nat} {c : Int32 × Nat × Nat} {p : Nat} {W C : List Int32} {t : Nat → Bool} {m : Int32} {k : Int32 → ovSt → Prop} {σ : ovSt} (hS : mr_S σ T n key c p W C t) (hok : tk_ok n c) (hneg : ∀ x, x ∈ W → x < 0) (hlen : C.length + W.length < 96) (hw : tk_wd c.1 = true) (hm : ¬ m < 0) (h : ∀ σ', mr_f σ σ' → σ' 86 = σ 86 → tk_BM σ' T n → tk_M σ' T (tk_nx T n c) → σ' 74 14 = nI key → mr_R σ' (mc_sp 6 W).2 (C ++ m :: (mc_sp 6 W).1) → k 1 σ') : F_X6_takesPart_87 k m (σ 74 18) σ := by
  obtain ⟨hB, hM, h14, ⟨r1, r2, r3, r4, r5⟩, -⟩ := hS
  unfold F_X6_takesPart_87
  rw [r1, pu_cl (by omega)]
  refine ⟨vp_in_nI (by omega) (by omega), ?_⟩
  intro σ2 e2 σ3 e3 σ4 e4
  rw [show σ2 74 18 = nI C.length from by rw [e2, pu_up_ne (by omega), r1], ← nI_succ] at e3
  rw [show σ3 74 19 = nI (tk_lv C) from by rw [e3, pu_up_same, pu_un (by omega), e2, pu_up_ne (by omega), r2], ← nI_succ] at e4
  have f4 : mr_f σ σ4 := by
    rw [e4]; refine mr_f.up74 ?_ (by unfold mr_Z; omega) _
    rw [e3]; refine mr_f.up74 ?_ (by unfold mr_Z; omega) _
    rw [e2]; exact (mr_f.rf σ).up (by omega) _
  have q4 : ∀ q, 9 ≤ q → q ≤ 13 → σ4 74 q = σ 74 q := by
    intro q h1 h2
    rw [e4, pu_up_same, pu_un (by omega), e3, pu_up_same, pu_un (by omega), e2, pu_up_ne (by omega)]
  have f86 : σ4 86 = σ 86 := by rw [e4, pu_up_ne (by omega), e3, pu_up_ne (by omega), e2, pu_up_ne (by omega)]
  have e1 : [m].length = 1 := rfl
  have R4 : mr_R σ4 W (C ++ [m]) := by
    refine ⟨?_, ?_, ?_, ?_, fun i hi => ?_⟩
    · rw [e4, pu_up_same, pu_un (by omega), e3, pu_up_same, pu_ue, List.length_append]; rfl
    · rw [e4, pu_up_same, pu_ue, tk_lv_app]
      show nI (tk_lv C + 1) = nI (tk_lv C + ((if m < 0 then 0 else 1) + 0))
      rw [if_neg hm]
    · rw [e4, pu_up_same, pu_un (by omega), e3, pu_up_same, pu_un (by omega), e2, pu_up_ne (by omega), r3]
    · rw [e4, pu_up_ne (by omega), e3, pu_up_ne (by omega), e2, pu_up_ne (by omega)]; exact r4
    · rw [List.length_append] at hi
      have hi : i < C.length + 1 := hi
      rw [e4, pu_up_ne (by omega), e3, pu_up_ne (by omega), e2, pu_up_same]
      by_cases w : i = C.length
      · rw [w, pu_ue, tk_getD_last]
      · rw [pu_un w, tk_getD_app (by omega)]; exact r5 i (by omega)
  unfold F_X6_settle
  refine ⟨W.length + 1, p6_settle (r := 6) (by omega) W (C ++ [m]) σ4 hneg (by rw [List.length_append]; omega) R4 (fun σ5 f5 R5 => ?_)⟩
  rw [List.append_assoc] at R5
  refine mr_go (f4.tr f5.m) hB hM h14 (fun q h1 h2 => by rw [f5.2 q (by omega) (by omega), q4 q h1 h2]) hok (Or.inl hw) R5 (fun σ6 f6 g86 B6 M6 k6 R6 => ?_)
  exact h σ6 ((f4.tr f5.m).tr f6) (by rw [g86, f5.1 86 (by omega), f86]) B6 M6 k6 R6
theorem p6_takesPart {T : Nat → Nat} {n key : Nat} (hkey : key < 3) {c : Int32 × Nat × Nat} {p : Nat} {W C : List Int32} {t : Nat → Bool} {k : Int32 → ovSt → Prop} {σ : ovSt} (hS : mr_S σ T n key c p W C t) (hg : tk_gd T n c) (hneg : ∀ x, x ∈ W → x < 0) (hlen : C.length + W.length ≤ c.2.1) (h0 : tk_lf T key c < 0 → k 0 σ) (h : ¬ tk_lf T key c < 0 → ∀ σ', mr_f σ σ' → σ' 86 = σ 86 → tk_BM σ' T n → tk_M σ' T (tk_nx T n c) → σ' 74 14 = nI key → mr_R σ' (mc_sp 6 W).2 (C ++ tk_lf T key c :: (mc_sp 6 W).1) → k 1 σ') : F_X6_takesPart σ k := by
  have hS' := hS
  obtain ⟨hB, hM, h14, hR, -⟩ := hS
  have hn := hB.1
  obtain ⟨o1, o2, o3⟩ := hg.1
  obtain ⟨m9, m10, m11, m2, m3, -, -, -⟩ := hM
  unfold F_X6_takesPart F_X6_takesPart_36 F_X6_takesPart_37 F_X6_takesPart_52
  rw [m11]
  by_cases z2 : c.1 = -2
  · have hs := o3 (by rw [z2]; decide)
    have hT := (hB.2.2 c.2.1 (by omega)).1
    have n2 : ¬ σ 74 11 = 2 := by rw [m11, z2]; decide
    rw [if_pos (by rw [z2]; rfl), if_neg (show ¬ tk_m c.1 = 2 from by rw [z2]; decide), if_neg (show ¬ tk_m c.1 = 2 from by rw [z2]; decide), m9, m10, pk_sub o1, m2 z2]
    have lf : tk_lf T key c = (if c.2.2 - c.2.1 = 1 ∧ 0 ≤ tk_nm key (T c.2.1) then 10000 + tk_nm key (T c.2.1) else -1) := by
      unfold tk_lf
      rw [if_neg (by rw [z2]; decide)]
      by_cases y : c.2.2 - c.2.1 = 1 ∧ 0 ≤ tk_nm key (T c.2.1)
      · rw [if_pos y, if_pos ⟨z2, y⟩]
      · rw [if_neg y, if_neg (fun q => y q.2)]
    by_cases y1 : c.2.2 - c.2.1 = 1
    · rw [if_pos (by rw [y1]; rfl), e6_nameOf hkey hT h14]
      rcases tk_nm_in key (T c.2.1) hkey with w | ⟨i, hi, w, -⟩
      · rw [w, if_pos (by decide), if_neg n2, if_pos rfl]
        refine h0 ?_
        rw [lf, w, if_neg (fun q => absurd q.2 (by decide))]
        decide
      · rw [w, if_neg (nI_pos (by omega)), if_neg n2, if_neg (by decide), if_neg n2, m2 z2, e6_nameOf hkey hT h14, w]
        have hc := tk_crel_nm i hi
        have lf' : tk_lf T key c = 10000 + nI i := by rw [lf, w, if_pos ⟨y1, nI_pos' (by omega)⟩]
        rw [lf'] at h
        exact p6_part87 hS' hg.1 hneg (by omega) (by rw [z2]; rfl) hc.2 (h hc.2)
    · rw [if_neg (by rw [show (1 : Int32) = nI 1 from rfl, nI_eq (by omega) (by omega)]; exact y1), if_pos rfl]
      refine h0 ?_
      rw [lf, if_neg (fun q => y1 q.1)]
      decide
  by_cases z3 : c.1 = -3
  · have hs := o3 (by rw [z3]; decide)
    rw [if_neg (show ¬ tk_m c.1 = 1 from by rw [z3]; decide), if_pos (show tk_m c.1 = 2 from by rw [z3]; rfl), if_pos (show tk_m c.1 = 2 from by rw [z3]; rfl), m3 z3]
    have hv : tk_val T c.2.1 (c.2.2 - c.2.1) < 10000 := by
      obtain ⟨d1, d2⟩ := hg.2.2.1 z3
      have h1 := tk_val_lt (T := T) (s := c.2.1) (c.2.2 - c.2.1) (fun i hi => d2 (c.2.1 + i) (by omega) (by omega))
      have h2 : 10 ^ (c.2.2 - c.2.1) ≤ 10 ^ 4 := Nat.pow_le_pow_right (by decide) d1
      exact Nat.lt_of_lt_of_le h1 h2
    have lf' : tk_lf T key c = nI (tk_val T c.2.1 (c.2.2 - c.2.1)) := by unfold tk_lf; rw [if_pos z3]
    rw [lf'] at h
    exact p6_part87 hS' hg.1 hneg (by omega) (by rw [z3]; rfl) (nI_pos (by omega)) (h (nI_pos (by omega)))
  · have t1 : ¬ tk_m c.1 = 1 := by
      unfold tk_m
      rw [if_neg z2, if_neg z3]
      repeat' split
      all_goals decide
    have t2 : ¬ tk_m c.1 = 2 := by
      unfold tk_m
      rw [if_neg z2, if_neg z3]
      repeat' split
      all_goals decide
    rw [if_neg t1, if_neg t2, if_pos rfl]
    exact h0 (by rw [tk_lf_none z3 z2]; decide)
theorem tk_lf_lt {T : Nat → Nat} {n key : Nat} (hkey : key < 3) {c : Int32 × Nat × Nat} (hg : tk_gd T n c) : (tk_lf T key c).toInt < 10000 + ((if key = 0 then 3 else 2 : Nat) : Int) := by
  unfold tk_lf
  by_cases z3 : c.1 = -3
  · rw [if_pos z3]
    have hv : tk_val T c.2.1 (c.2.2 - c.2.1) < 10000 := by
      obtain ⟨d1, d2⟩ := hg.2.2.1 z3
      have h1 := tk_val_lt (T := T) (s := c.2.1) (c.2.2 - c.2.1) (fun i hi => d2 (c.2.1 + i) (by omega) (by omega))
      have h2 : 10 ^ (c.2.2 - c.2.1) ≤ 10 ^ 4 := Nat.pow_le_pow_right (by decide) d1
      exact Nat.lt_of_lt_of_le h1 h2
    rw [nI_toInt (by omega)]
    split <;> omega
  rw [if_neg z3]
  by_cases y : c.1 = -2 ∧ c.2.2 - c.2.1 = 1 ∧ 0 ≤ tk_nm key (T c.2.1)
  · rw [if_pos y]
    rcases tk_nm_in key (T c.2.1) hkey with w | ⟨i, hi, w, hi2⟩
    · rw [w] at y; exact absurd y.2.2 (by decide)
    · rw [w, show (10000 : Int32) = nI 10000 from rfl, nI_add, nI_toInt (by omega)]
      by_cases q : key = 0
      · rw [if_pos q]; omega
      · rw [if_neg q]
        have := hi2 q
        omega
  · rw [if_neg y]
    have e : (-1 : Int32).toInt = -1 := rfl
    rw [e]
    split <;> omega
theorem mc_bool0 : vp_nar .boolean 0 = 0 := rfl
theorem mc_bool1 : vp_nar .boolean 1 = 1 := rfl
theorem p6_E_loop {T : Nat → Nat} {n key : Nat} (hkey : key < 3) {k : Int32 → ovSt → Prop} {r : Bool × (Int32 × Nat × Nat) × List Int32} : ∀ (f : Nat) (c : Int32 × Nat × Nat) (p : Nat) (w : Bool) (W C : List Int32) (t : Nat → Bool) (σ : ovSt), mr_S σ T n key c p W C t → mi_I T n (if key = 0 then 3 else 2) w c p W C → mc_run T n key f c p w W C t = some r →
    (∀ σ', mr_f σ σ' → r.1 = false → σ' 74 10 = nI r.2.1.2.1 → k 0 σ') →
    (∀ σ', mr_f σ σ' → r.1 = true → σ' 74 18 = nI r.2.2.length → σ' 74 19 = nI (tk_lv r.2.2) → (∀ i, i < r.2.2.length → σ' 84 i = r.2.2.getD i 0) → pu_okc (if key = 0 then 3 else 2) r.2.2 0 → σ' 74 14 = nI key → k 1 σ') →
    F_X6_takesE_28 k f (nI p) (nI (mc_nt W)) (if w = true then 1 else 0) σ := by
  intro f
  induction f with
  | zero => intro c p w W C t σ hS hI hrun; exact absurd hrun (by unfold mc_run; simp)
  | succ f ih =>
    intro c p w W C t σ hS hI hrun hbad hgood
    have hS' := hS
    have hI' := hI
    obtain ⟨hB, hM, h14, hR, h86⟩ := hS
    obtain ⟨a1, a2, a3, a4, a5, a6, a7, a8⟩ := hI
    have hn := hB.1
    have hT : ∀ i, i < n → T i < 256 := fun i hi => (hB.2.2 i hi).1
    obtain ⟨o1, o2, o3⟩ := a1.1
    have hneg : ∀ x, x ∈ W → x < 0 := fun x hx => mc_rng_neg a5 hx
    obtain ⟨m9, m10, m11, -, -, m12, -, -⟩ := hM
    have fl0 : r = (false, c, []) → k 0 σ := fun e => hbad σ (mr_f.rf σ) (by rw [e]) (by rw [e]; exact m10)
    have cut : mc_nt W ≤ 96 := by
      have q : ∀ V : List Int32, mc_nt V ≤ V.length := by
        intro V
        induction V with
        | nil => exact Nat.le_refl _
        | cons m V ihV =>
          show (if m = -10 then 1 else 0) + mc_nt V ≤ V.length + 1
          split <;> omega
      have := q W
      omega
    have e0 : ∀ x : Int32, (if (if false = true then (1 : Int32) else 0) = 0 then x else x) = x := fun x => by split <;> rfl
    cases w with
    | true =>
      rw [mc_runT] at hrun
      unfold F_X6_takesE_28
      rw [if_pos rfl, if_neg (by decide)]
      unfold F_X6_takesE_39
      rw [if_neg (by decide), m11]
      have h172 : ∀ (p2 : Nat) (W2 C2 : List Int32) (t2 : Nat → Bool) (w2 : Bool) (σ2 : ovSt), mr_f σ σ2 → mr_S σ2 T n key (tk_nx T n c) p2 W2 C2 t2 → mi_I T n (if key = 0 then 3 else 2) w2 (tk_nx T n c) p2 W2 C2 → mc_run T n key f (tk_nx T n c) p2 w2 W2 C2 t2 = some r → F_X6_takesE_172 (F_X6_takesE_28 k f) k (nI p2) (if w2 = true then 1 else 0) σ2 := by
        intro p2 W2 C2 t2 w2 σ2 f2 S2 I2 run2
        unfold F_X6_takesE_172
        have hl : W2.length ≤ 96 := by
          have := I2.2.1
          have := I2.1.1.1
          have := I2.1.1.2.1
          omega
        refine p6_notsOpen hl S2.2.2.2.1.2.2.1 S2.2.2.2.1.2.2.2.1 ?_
        exact ih (tk_nx T n c) p2 w2 W2 C2 t2 σ2 S2 I2 run2 (fun σ3 f3 => hbad σ3 (f2.tr f3)) (fun σ3 f3 => hgood σ3 (f2.tr f3))
      by_cases z33 : c.1 = 33 ∧ mc_nt W < 8
      · rw [if_pos z33] at hrun
        have t3 : tk_m c.1 = 3 := by rw [z33.1]; decide
        have hs := o3 (by rw [z33.1]; decide)
        rw [if_pos t3, m12 t3, if_pos z33.1, if_neg (by rw [show (8 : Int32) = nI 8 from rfl, nI_leI (by omega) (by omega)]; omega), hR.2.2.1, pu_cl (by omega)]
        refine ⟨vp_in_nI (by omega) (by omega), ?_⟩
        intro σ1 e1 σ2 e2
        rw [show σ1 74 21 = nI W.length from by rw [e1, pu_up_ne (by omega), hR.2.2.1], ← nI_succ] at e2
        have R2 := mr_push hR e1 e2
        have f2 : mr_f σ σ2 := by
          rw [e2]; refine mr_f.up74 ?_ (by unfold mr_Z; omega) _
          rw [e1]; exact (mr_f.rf σ).up (by omega) _
        refine mr_go f2 hB hS'.2.1 h14 (fun q h1 h2 => by rw [e2, pu_up_same, pu_un (by omega), e1, pu_up_ne (by omega)]) a1.1 (Or.inr t3) R2 (fun σ3 f3 g86 B3 M3 k3 R3 => ?_)
        refine h172 p (-10 :: W) C t true σ3 (f2.tr f3) ⟨B3, M3, k3, R3, fun i hi => ?_⟩ (mi_not hT hI' (by rw [z33.1]; decide)) hrun
        rw [g86, e2, pu_up_ne (by omega), e1, pu_up_ne (by omega)]
        exact h86 i hi
      rw [if_neg z33] at hrun
      have to97 : F_X6_takesE_97 (F_X6_takesE_28 k f) k (nI p) 1 σ := by
        unfold F_X6_takesE_97
        rw [m11]
        by_cases z40 : c.1 = 40 ∧ p < 8
        · rw [if_pos z40] at hrun
          have t3 : tk_m c.1 = 3 := by rw [z40.1]; decide
          have hs := o3 (by rw [z40.1]; decide)
          rw [if_pos t3, m12 t3, if_pos z40.1, if_neg (by rw [show (8 : Int32) = nI 8 from rfl, nI_leI (by omega) (by omega)]; omega), hR.2.2.1, pu_cl (by omega), nI_1, pu_cl (by omega)]
          refine ⟨vp_in_nI (by omega) (by omega), ?_⟩
          intro σ1 e1 σ2 e2
          rw [show σ1 74 21 = nI W.length from by rw [e1, pu_up_ne (by omega), hR.2.2.1], ← nI_succ] at e2
          have R2 := mr_push hR e1 e2
          refine ⟨vp_in_nI (by omega) (by omega), ?_⟩
          intro σ3 e3
          rw [mc_bool0] at e3
          have f3 : mr_f σ σ3 := by
            rw [e3]; refine mr_f.up ?_ (by omega) _
            rw [e2]; refine mr_f.up74 ?_ (by unfold mr_Z; omega) _
            rw [e1]; exact (mr_f.rf σ).up (by omega) _
          have R3 : mr_R σ3 (-11 :: W) C := by
            obtain ⟨x1, x2, x3, x4, x5⟩ := R2
            rw [e3]
            refine ⟨by rw [pu_up_ne (by omega)]; exact x1, by rw [pu_up_ne (by omega)]; exact x2, by rw [pu_up_ne (by omega)]; exact x3, by rw [pu_up_ne (by omega)]; exact x4, fun i hi => by rw [pu_up_ne (by omega)]; exact x5 i hi⟩
          refine mr_go f3 hB hS'.2.1 h14 (fun q h1 h2 => by rw [e3, pu_up_ne (by omega), e2, pu_up_same, pu_un (by omega), e1, pu_up_ne (by omega)]) a1.1 (Or.inr t3) R3 (fun σ4 f4 g86 B4 M4 k4 R4 => ?_)
          refine h172 (p + 1) (-11 :: W) C (mc_ut t (p + 1) false) true σ4 (f3.tr f4) ⟨B4, M4, k4, R4, fun i hi => ?_⟩ (mi_open hT hI' (by rw [z40.1]; decide) z40.2) hrun
          rw [g86, e3, pu_up_same]
          unfold mc_ut
          by_cases y : i = p + 1
          · rw [if_pos y, y, pu_ue]; rfl
          · rw [if_neg y, pu_un y, e2, pu_up_ne (by omega), e1, pu_up_ne (by omega)]
            exact h86 i (by omega)
        rw [if_neg z40] at hrun
        have to158 : F_X6_takesE_158 (F_X6_takesE_28 k f) k (nI p) σ := by
          unfold F_X6_takesE_158
          refine p6_takesPart hkey hS' a1 hneg a2 (fun hl => ?_) (fun hl σ1 f1 g86 B1 M1 k1 R1 => ?_)
          · rw [if_pos hl] at hrun
            rw [if_pos rfl]
            exact fl0 (Option.some.inj hrun).symm
          · rw [if_neg hl] at hrun
            rw [if_neg (by decide)]
            have h1 : ¬ c.1 = -1 := by
              intro q
              apply hl
              rw [tk_lf_none (by rw [q]; decide) (by rw [q]; decide)]
              decide
            refine h172 p (mc_sp 6 W).2 (C ++ tk_lf T key c :: (mc_sp 6 W).1) t false σ1 f1 ⟨B1, M1, k1, R1, fun i hi => ?_⟩ (mi_leaf hT hI' h1 hl (tk_lf_lt hkey a1)) hrun
            rw [g86]
            exact h86 i hi
        by_cases y3 : tk_m c.1 = 3
        · rw [if_pos y3, m12 y3]
          by_cases y40 : c.1 = 40
          · rw [if_pos y40, if_pos (show (8 : Int32) ≤ nI p from nI_le (a := 8) (by
              rcases Nat.lt_or_ge p 8 with q | q
              · exact absurd ⟨y40, q⟩ z40
              · exact q) (by omega))]
            exact to158
          · rw [if_neg y40]; exact to158
        · rw [if_neg y3]; exact to158
      by_cases y3 : tk_m c.1 = 3
      · rw [if_pos y3, m12 y3]
        by_cases y33 : c.1 = 33
        · rw [if_pos y33, if_pos (show (8 : Int32) ≤ nI (mc_nt W) from nI_le (a := 8) (by
            rcases Nat.lt_or_ge (mc_nt W) 8 with q | q
            · exact absurd ⟨y33, q⟩ z33
            · exact q) (by omega))]
          exact to97
        · rw [if_neg y33]; exact to97
      · rw [if_neg y3]; exact to97
    | false =>
      rw [mc_runF] at hrun
      unfold F_X6_takesE_28
      rw [if_pos (show (if false = true then (1 : Int32) else 0) = 0 from rfl), m11]
      by_cases z1 : c.1 = -1
      · rw [if_pos z1] at hrun
        rw [if_pos (by rw [z1]; rfl)]
        have hr := (Option.some.inj hrun).symm
        unfold F_X6_settle
        refine ⟨W.length + 1, p6_settle (r := 0) (by omega) W C σ hneg (by omega) hR (fun σ1 f1 R1 => ?_)⟩
        unfold F_X6_takesE_359
        by_cases zp : p = 0
        · subst zp
          rw [if_pos (show nI 0 = 0 from rfl)]
          refine ⟨pu_bl1, ?_⟩
          obtain ⟨k1, k2⟩ := mi_end hI'
          refine hgood σ1 f1.m (by rw [hr]; rfl) ?_ ?_ (fun i hi => ?_) ?_ ?_
          · rw [hr]; exact R1.1
          · rw [hr]; exact R1.2.1
          · rw [hr] at hi ⊢; exact R1.2.2.2.2 i hi
          · rw [hr]; exact k1
          · rw [f1.2 14 (by omega) (by omega)]; exact h14
        · rw [if_neg (show ¬ nI p = 0 from by rw [show (0 : Int32) = nI 0 from rfl, nI_eq (by omega) (by omega)]; exact zp)]
          refine ⟨pu_bl0, hbad σ1 f1.m (by rw [hr]; exact decide_eq_false zp) ?_⟩
          rw [f1.2 10 (by omega) (by omega), hr]
          exact m10
      rw [if_neg z1] at hrun
      rw [if_neg (show ¬ tk_m c.1 = 0 from by
        unfold tk_m
        rw [if_neg z1]
        repeat' split
        all_goals decide)]
      unfold F_X6_takesE_39
      rw [if_pos (show (if false = true then (1 : Int32) else 0) = 0 from rfl), m11]
      have hs := o3 z1
      by_cases z41 : c.1 = 41 ∧ 0 < p
      · rw [if_pos z41] at hrun
        have t3 : tk_m c.1 = 3 := by rw [z41.1]; decide
        obtain ⟨W2, w2, I2⟩ := mi_close hT hI' z1 z41.2
        rw [w2] at hrun
        have hrun : mc_run T n key f (tk_nx T n c) (p - 1) false (mc_sp 6 W2).2 (C ++ (mc_sp 0 W).1 ++ (mc_sp 6 W2).1) t = some r := hrun
        have ln := mc_sp_len 0 W
        rw [w2, List.length_cons] at ln
        have hr2 : ∀ x, x ∈ W2 → x < 0 := fun x hx => hneg x (mc_sp_2 0 W x (by rw [w2]; exact List.mem_cons_of_mem _ hx))
        rw [if_pos t3, m12 t3, if_pos z41.1, if_neg (show ¬ nI p ≤ 0 from by rw [show (0 : Int32) = nI 0 from rfl, nI_leI (by omega) (by omega)]; omega)]
        unfold F_X6_settle
        refine ⟨W.length + 1, p6_settle (r := 0) (by omega) W C σ hneg (by omega) hR (fun σ1 f1 R1 => ?_)⟩
        rw [w2] at R1
        obtain ⟨x1, x2, x3, x4, x5⟩ := R1
        rw [x3]
        intro σ2 e2
        rw [show nI (-11 :: W2).length - 1 = nI W2.length from nI_pred W2.length] at e2
        have R2 : mr_R σ2 W2 (C ++ (mc_sp 0 W).1) := by
          rw [e2]
          exact ⟨by rw [pu_up_same, pu_un (by omega)]; exact x1, by rw [pu_up_same, pu_un (by omega)]; exact x2, by rw [pu_up_same, pu_ue], by rw [pu_up_ne (by omega)]; exact x4.2, fun i hi => by rw [pu_up_ne (by omega)]; exact x5 i hi⟩
        have f2 : mr_f σ σ2 := by rw [e2]; exact mr_f.up74 f1.m (by unfold mr_Z; omega) _
        refine ⟨W2.length + 1, p6_settle (r := 6) (by omega) W2 (C ++ (mc_sp 0 W).1) σ2 hr2 (by rw [List.length_append]; omega) R2 (fun σ3 f3 R3 => ?_)⟩
        have ln3 := mc_sp_len 6 W2
        refine p6_notsOpen (W := (mc_sp 6 W2).2) (by omega) R3.2.2.1 R3.2.2.2.1 ?_
        have f23 := f2.tr f3.m
        refine mr_go f23 hB hS'.2.1 h14 (fun q h1 h2 => by rw [f3.2 q (by omega) (by omega), e2, pu_up_same, pu_un (by omega), f1.2 q (by omega) (by omega)]) a1.1 (Or.inr t3) R3 (fun σ4 f4 g86 B4 M4 k4 R4 => ?_)
        have ep : nI p + (-1) = nI (p - 1) := by
          have q := pk_m1 (p - 1)
          rw [show p - 1 + 1 = p by omega] at q
          exact q
        rw [ep]
        refine ih (tk_nx T n c) (p - 1) false (mc_sp 6 W2).2 _ t σ4 ⟨B4, M4, k4, R4, fun i hi => ?_⟩ I2 hrun (fun σ5 f5 => hbad σ5 ((f23.tr f4).tr f5)) (fun σ5 f5 => hgood σ5 ((f23.tr f4).tr f5))
        rw [g86, f3.1 86 (by omega), e2, pu_up_ne (by omega), f1.1 86 (by omega)]
        exact h86 i (by omega)
      rw [if_neg z41] at hrun
      have to237 : F_X6_takesE_237 (F_X6_takesE_28 k f) k (nI p) (nI (mc_nt W)) σ := by
        unfold F_X6_takesE_237 F_X6_takesE_266
        rw [e6_signHere hS'.2.1 a1]
        by_cases zs : mc_sg c.1 = 0
        · rw [if_pos zs] at hrun
          rw [if_pos zs]
          exact fl0 (Option.some.inj hrun).symm
        rw [if_neg zs] at hrun
        rw [if_neg zs, e6_rank]
        have hb := mc_sg_bin zs
        have t3 : tk_m c.1 = 3 := by
          rcases mc_sg_in zs with ⟨a, _⟩ | ⟨a, _⟩ | ⟨a, _⟩ | ⟨a, _⟩ | ⟨a, _⟩ | ⟨a, _⟩ | ⟨a, _⟩ | ⟨a, _⟩ | ⟨a, _⟩ <;> (rw [a]; decide)
        have h86p := h86 p (Nat.le_refl _)
        have to305 : ∀ (b : Bool), b = (decide (mc_rk (mc_sg c.1) = 3) || (decide (3 < mc_rk (mc_sg c.1)) && t p)) → ¬ (mc_rk (mc_sg c.1) = 3 ∧ t p = true) → F_X6_takesE_305 (F_X6_takesE_28 k f) k (nI p) (nI (mc_nt W)) (mc_sg c.1) (if b = true then 1 else 0) (nI p) σ := by
          intro b hbb hno
          rw [if_neg hno, ← hbb] at hrun
          unfold F_X6_takesE_305
          refine ⟨vp_in_nI (by omega) (by omega), ?_⟩
          rw [pu_cl (by omega)]
          intro σ1 e1
          have e1' : σ1 = ov_up σ 86 p (if b = true then 1 else 0) := by
            rw [e1]
            cases b <;> rfl
          rw [e6_rank]
          have f1 : mr_f σ σ1 := by rw [e1']; exact (mr_f.rf σ).up (by omega) _
          have R1 : mr_R σ1 W C := by
            obtain ⟨x1, x2, x3, x4, x5⟩ := hR
            rw [e1']
            exact ⟨by rw [pu_up_ne (by omega)]; exact x1, by rw [pu_up_ne (by omega)]; exact x2, by rw [pu_up_ne (by omega)]; exact x3, by rw [pu_up_ne (by omega)]; exact x4, fun i hi => by rw [pu_up_ne (by omega)]; exact x5 i hi⟩
          unfold F_X6_settle
          refine ⟨W.length + 1, p6_settle (r := mc_rk (mc_sg c.1)) (by omega) W C σ1 hneg (by omega) R1 (fun σ2 f2 R2 => ?_)⟩
          have ln := mc_sp_len (mc_rk (mc_sg c.1)) W
          rw [R2.2.2.1, pu_cl (by omega)]
          refine ⟨vp_in_nI (by omega) (by omega), ?_⟩
          intro σ3 e3 σ4 e4
          rw [show σ3 74 21 = nI (mc_sp (mc_rk (mc_sg c.1)) W).2.length from by rw [e3, pu_up_ne (by omega), R2.2.2.1], ← nI_succ] at e4
          have R4 := mr_push R2 e3 e4
          have f4 : mr_f σ σ4 := by
            rw [e4]; refine mr_f.up74 ?_ (by unfold mr_Z; omega) _
            rw [e3]; exact (f1.tr f2.m).up (by omega) _
          refine mr_go f4 hB hS'.2.1 h14 (fun q h1 h2 => by rw [e4, pu_up_same, pu_un (by omega), e3, pu_up_ne (by omega), f2.2 q (by omega) (by omega), e1', pu_up_ne (by omega)]) a1.1 (Or.inr t3) R4 (fun σ5 f5 g86 B5 M5 k5 R5 => ?_)
          obtain ⟨I5, nt5⟩ := mi_sign (r := mc_rk (mc_sg c.1)) hT hI' zs
          have q5 := ih (tk_nx T n c) p true (mc_sg c.1 :: (mc_sp (mc_rk (mc_sg c.1)) W).2) (C ++ (mc_sp (mc_rk (mc_sg c.1)) W).1) (mc_ut t p b) σ5 ⟨B5, M5, k5, R5, fun i hi => ?_⟩ I5 hrun (fun σ6 f6 => hbad σ6 ((f4.tr f5).tr f6)) (fun σ6 f6 => hgood σ6 ((f4.tr f5).tr f6))
          · rw [nt5] at q5
            exact q5
          · rw [g86, e4, pu_up_ne (by omega), e3, pu_up_ne (by omega), f2.1 86 (by omega), e1', pu_up_same]
            unfold mc_ut
            by_cases y : i = p
            · rw [if_pos y, y, pu_ue]
            · rw [if_neg y, pu_un y]; exact h86 i hi
        have to268 : ¬ (mc_rk (mc_sg c.1) = 3 ∧ t p = true) → F_X6_takesE_268 (F_X6_takesE_28 k f) k (nI p) (nI (mc_nt W)) (mc_sg c.1) σ := by
          intro hno
          unfold F_X6_takesE_268 F_X6_takesE_300 F_X6_takesE_304
          rw [e6_rank, e6_rank]
          by_cases y3 : mc_rk (mc_sg c.1) = 3
          · rw [if_pos (by rw [y3]; rfl)]
            exact to305 true (by rw [decide_eq_true y3]; rfl) hno
          rw [if_neg (show ¬ nI (mc_rk (mc_sg c.1)) = 3 from by rw [show (3 : Int32) = nI 3 from rfl, nI_eq (by omega) (by omega)]; exact y3)]
          by_cases y4 : mc_rk (mc_sg c.1) ≤ 3
          · rw [if_pos (show nI (mc_rk (mc_sg c.1)) ≤ 3 from nI_le (b := 3) y4 (by omega))]
            exact to305 false (by rw [decide_eq_false y3, decide_eq_false (by omega)]; rfl) hno
          rw [if_neg (show ¬ nI (mc_rk (mc_sg c.1)) ≤ 3 from by rw [show (3 : Int32) = nI 3 from rfl, nI_leI (by omega) (by omega)]; exact y4), pu_cl (by omega), h86p]
          refine ⟨vp_in_nI (by omega) (by omega), ?_⟩
          cases ht : t p with
          | true =>
            rw [if_neg (by decide)]
            exact to305 true (by rw [decide_eq_false y3, decide_eq_true (show 3 < mc_rk (mc_sg c.1) by omega), ht]; rfl) hno
          | false =>
            rw [if_pos (show (if false = true then (1 : Int32) else 0) = 0 from rfl)]
            exact to305 false (by rw [decide_eq_false y3, ht, Bool.and_false]; rfl) hno
        by_cases y3 : mc_rk (mc_sg c.1) = 3
        · rw [if_pos (by rw [y3]; rfl), pu_cl (by omega), h86p]
          refine ⟨vp_in_nI (by omega) (by omega), ?_⟩
          cases ht : t p with
          | true =>
            rw [if_neg (by decide)]
            rw [if_pos ⟨y3, ht⟩] at hrun
            exact fl0 (Option.some.inj hrun).symm
          | false =>
            rw [if_pos (show (if false = true then (1 : Int32) else 0) = 0 from rfl)]
            exact to268 (fun q => by rw [ht] at q; exact absurd q.2 (by decide))
        · rw [if_neg (show ¬ nI (mc_rk (mc_sg c.1)) = 3 from by rw [show (3 : Int32) = nI 3 from rfl, nI_eq (by omega) (by omega)]; exact y3)]
          exact to268 (fun q => y3 q.1)
      by_cases y3 : tk_m c.1 = 3
      · rw [if_pos y3, m12 y3]
        by_cases y41 : c.1 = 41
        · rw [if_pos y41, if_pos (show nI p ≤ 0 from by
            rcases Nat.eq_zero_or_pos p with q | q
            · rw [q]; decide
            · exact absurd ⟨y41, q⟩ z41)]
          exact to237
        · rw [if_neg y41]; exact to237
      · rw [if_neg y3]; exact to237
