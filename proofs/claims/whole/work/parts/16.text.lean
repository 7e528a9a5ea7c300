/-! X4_readText -/
abbrev vv_X4_readText (k : Int32 → ovSt → Prop) (pc : Nat) (L : List (Nat × Value)) (st : List Value) (σ : ovSt) : Prop := ov_V (ovZs 111 yX4_readText cX4_readText 1) (ovKs (some .boolean) ov_S0 (ovKi k)) (0, 0) ov_S0 pc L st σ
def F_X4_readText_59 (k : Int32 → ovSt → Prop) (t0 : Int32) (σ : ovSt) : Prop := (ov_bl t0 ∧ (k t0 σ))
set_option maxRecDepth 100000 in
set_option maxHeartbeats 4000000 in
theorem V_X4_readText_59 {k : Int32 → ovSt → Prop} (t0 : Int32) (σ : ovSt) (hF : F_X4_readText_59 k t0 σ) : vv_X4_readText k 59 [] [.int t0] σ := by
  unfold F_X4_readText_59 at hF
  have h1 := hF.1
  have hF := hF.2
  exact ov_ireturn dX4_readText_59 (Nat.le_refl _) (Nat.le_refl _) ⟨rfl, h1, _, rfl, hF⟩
def F_X4_readText_58 (k : Int32 → ovSt → Prop) (σ : ovSt) : Prop := (F_X4_readText_59 k 0 σ)
set_option maxRecDepth 100000 in
set_option maxHeartbeats 4000000 in
theorem V_X4_readText_58 {k : Int32 → ovSt → Prop} (σ : ovSt) (hF : F_X4_readText_58 k σ) : vv_X4_readText k 58 [] [] σ := by
  unfold F_X4_readText_58 at hF
  refine ov_iconst 0 (by decide) dX4_readText_58 ?_
  exact V_X4_readText_59 0 σ hF
def F_X4_readText (σ : ovSt) (k : Int32 → ovSt → Prop) : Prop := (∀ σ2 : ovSt, σ2 = ov_up σ 45 5 0 → (∀ σ3 : ovSt, σ3 = ov_up σ2 45 3 (-1) → (∀ σ4 : ovSt, σ4 = ov_up σ3 45 7 0 → (∀ σ5 : ovSt, σ5 = ov_up σ4 45 8 0 → (F_X4_next σ5 (fun σ7 => (F_X4_readKey σ7 (fun v8 σ9 => (if v8 = 0 then (k 0 σ9) else (F_X4_next σ9 (fun σ11 => (F_X4_readOr0 0 0 σ11 (fun v12 σ13 => (if v12 = 0 then (F_X4_readText_58 k σ13) else (if (σ13 45 3) = ((-1) : Int32) then (F_X4_readText_59 k 1 σ13) else (F_X4_readText_58 k σ13))))))))))))))))
set_option maxRecDepth 100000 in
set_option maxHeartbeats 4000000 in
theorem c_X4_readText {σ : ovSt} {k : Int32 → ovSt → Prop} (hF : F_X4_readText σ k) : ov_Ct 111 yX4_readText cX4_readText 1 (some .boolean) ov_S0 [.ref 45] σ (ovKi k) := by
  refine ov_Ct.of (by decide) (Nat.le_of_ble_eq_true rfl) ?_
  unfold F_X4_readText at hF
  show vv_X4_readText k 0 [(0, .ref 45)] [] σ
  refine ov_aload_n dX4_readText_0 0 rfl ?_
  refine ov_iconst 0 (by decide) dX4_readText_1 ?_
  refine ov_puti (T := TX4) (kf := 5) dX4_readText_2 qf_X4_29 sh_45 rfl (Nat.le_of_ble_eq_true rfl) rfl rfl (by decide +kernel) ?_
  refine ov_nmS (fun σ2 es2 => ?_)
  have hF := hF σ2 es2
  refine ov_aload_n dX4_readText_5 0 rfl ?_
  refine ov_iconst (-1) (by decide) dX4_readText_6 ?_
  refine ov_puti (T := TX4) (kf := 3) dX4_readText_7 qf_X4_23 sh_45 rfl (Nat.le_of_ble_eq_true rfl) rfl rfl (by decide +kernel) ?_
  refine ov_nmS (fun σ3 es3 => ?_)
  have hF := hF σ3 es3
  refine ov_aload_n dX4_readText_10 0 rfl ?_
  refine ov_iconst 0 (by decide) dX4_readText_11 ?_
  refine ov_puti (T := TX4) (kf := 7) dX4_readText_12 qf_X4_35 sh_45 rfl (Nat.le_of_ble_eq_true rfl) rfl rfl (by decide +kernel) ?_
  refine ov_nmS (fun σ4 es4 => ?_)
  have hF := hF σ4 es4
  refine ov_aload_n dX4_readText_15 0 rfl ?_
  refine ov_iconst 0 (by decide) dX4_readText_16 ?_
  refine ov_puti (T := TX4) (kf := 8) dX4_readText_17 qf_X4_38 sh_45 rfl (Nat.le_of_ble_eq_true rfl) rfl rfl (by decide +kernel) ?_
  refine ov_nmS (fun σ5 es5 => ?_)
  have hF := hF σ5 es5
  refine ov_aload_n dX4_readText_20 0 rfl ?_
  refine ov_callV [] dX4_readText_21 (c_X4_next hF) (Nat.le_of_ble_eq_true rfl) (Nat.le_of_ble_eq_true rfl) lk_X4_41 sh_45 rfl (Nat.le_of_ble_eq_true rfl) (Nat.le_refl _) (Nat.le_refl _) (fun rr σ7 hF => ?_)
  obtain ⟨rfl, hF⟩ := hF
  show vv_X4_readText k 24 [(0, .ref 45)] [] σ7
  refine ov_aload_n dX4_readText_24 0 rfl ?_
  refine ov_callV [] dX4_readText_25 (c_X4_readKey hF) (Nat.le_of_ble_eq_true rfl) (Nat.le_of_ble_eq_true rfl) lk_X4_44 sh_45 rfl (Nat.le_of_ble_eq_true rfl) (Nat.le_refl _) (Nat.le_refl _) (fun rr σ9 hF => ?_)
  obtain ⟨v8, rfl, hF⟩ := hF
  show vv_X4_readText k 28 [(0, .ref 45)] [.int v8] σ9
  refine ov_if_ne 33 dX4_readText_28 (by decide) hF (fun hF => ?_) (fun hF => ?_)
  · refine ov_aload_n dX4_readText_33 0 rfl ?_
    refine ov_callV [] dX4_readText_34 (c_X4_next hF) (Nat.le_of_ble_eq_true rfl) (Nat.le_of_ble_eq_true rfl) lk_X4_41 sh_45 rfl (Nat.le_of_ble_eq_true rfl) (Nat.le_refl _) (Nat.le_refl _) (fun rr σ11 hF => ?_)
    obtain ⟨rfl, hF⟩ := hF
    show vv_X4_readText k 37 [(0, .ref 45)] [] σ11
    refine ov_aload_n dX4_readText_37 0 rfl ?_
    refine ov_iconst 0 (by decide) dX4_readText_38 ?_
    refine ov_iconst 0 (by decide) dX4_readText_39 ?_
    refine ov_callV [.int 0, .int 0] dX4_readText_40 (c_X4_readOr0 hF) (Nat.le_of_ble_eq_true rfl) (Nat.le_of_ble_eq_true rfl) lk_X4_48 sh_45 rfl (Nat.le_of_ble_eq_true rfl) (Nat.le_refl _) (Nat.le_refl _) (fun rr σ13 hF => ?_)
    obtain ⟨v12, rfl, hF⟩ := hF
    show vv_X4_readText k 43 [(0, .ref 45)] [.int v12] σ13
    refine ov_if_eq 58 dX4_readText_43 (by decide) hF (fun hF => ?_) (fun hF => ?_)
    · refine ov_pick [] [] rfl ?_
      exact V_X4_readText_58 σ13 hF
    · refine ov_aload_n dX4_readText_46 0 rfl ?_
      refine ov_geti (T := TX4) (kf := 3) dX4_readText_47 qf_X4_23 sh_45 rfl (Nat.le_of_ble_eq_true rfl) rfl ?_
      refine ov_iconst (-1) (by decide) dX4_readText_50 ?_
      refine ov_icmp_ne 58 dX4_readText_51 (by decide) hF (fun hF => ?_) (fun hF => ?_)
      · refine ov_pick [] [] rfl ?_
        exact V_X4_readText_58 σ13 hF
      · refine ov_iconst 1 (by decide) dX4_readText_54 ?_
        refine ov_goto 59 dX4_readText_55 (by decide) ?_
        refine ov_pick [] [] rfl ?_
        exact V_X4_readText_59 1 σ13 hF
  · refine ov_iconst 0 (by decide) dX4_readText_31 ?_
    exact ov_ireturn dX4_readText_32 (Nat.le_refl _) (Nat.le_refl _) ⟨rfl, ov_bl0, _, rfl, hF⟩
/-! X5_text -/
abbrev vv_X5_text (k : Int32 → ovSt → Prop) (pc : Nat) (L : List (Nat × Value)) (st : List Value) (σ : ovSt) : Prop := ov_V (ovZs 112 yX5_text cX5_text 4) (ovKs (some .int) ov_S0 (ovKi k)) (0, 0) ov_S0 pc L st σ
def F_X5_text (σ : ovSt) (k : Int32 → ovSt → Prop) : Prop := (F_X4_readText σ (fun v1 σ2 => (∀ v3 : Int32, v3 = (σ2 45 4) → (∀ σ4 : ovSt, σ4 = ov_up σ2 45 2 0 → (if v1 = 0 then (k ((-100) - v3) σ4) else (if (σ4 21 13) < (14 : Int32) then (∀ v5 : Int32, v5 = (σ4 21 13) → (F_X0_write v5 σ4 (fun σ7 => (vp_in (σ7 45 6) 3 ∧ (∀ σ9 : ovSt, σ9 = ov_up σ7 26 (Int32.toNatClampNeg (σ7 45 6)) v5 → (∀ σ10 : ovSt, σ10 = ov_up σ9 21 13 ((σ9 21 13) + 1) → (k v5 σ10))))))) else (k (-1000000003) σ4)))))))
set_option maxRecDepth 100000 in
set_option maxHeartbeats 4000000 in
theorem c_X5_text {σ : ovSt} {k : Int32 → ovSt → Prop} (hF : F_X5_text σ k) : ov_Ct 112 yX5_text cX5_text 4 (some .int) ov_S0 [.ref 0] σ (ovKi k) := by
  refine ov_Ct.of (by decide) (Nat.le_of_ble_eq_true rfl) ?_
  unfold F_X5_text at hF
  show vv_X5_text k 0 [(0, .ref 0)] [] σ
  refine ov_aload_n dX5_text_0 0 rfl ?_
  refine ov_getr (T := TX5) (kf := 5) dX5_text_1 qf_X5_37 sh_0 rfl (Nat.le_of_ble_eq_true rfl) rfl (by decide) ?_
  refine ov_callV [] dX5_text_4 (c_X4_readText hF) (Nat.le_of_ble_eq_true rfl) (Nat.le_of_ble_eq_true rfl) lk_X5_226 sh_45 rfl (Nat.le_of_ble_eq_true rfl) (Nat.le_refl _) (Nat.le_refl _) (fun rr σ2 hF => ?_)
  obtain ⟨v1, rfl, hF⟩ := hF
  show vv_X5_text k 7 [(0, .ref 0)] [.int v1] σ2
  refine ov_istore_n dX5_text_7 (Nat.le_of_ble_eq_true rfl) [(1, .int v1), (0, .ref 0)] rfl ?_
  refine ov_aload_n dX5_text_8 1 rfl ?_
  refine ov_getr (T := TX5) (kf := 5) dX5_text_9 qf_X5_37 sh_0 rfl (Nat.le_of_ble_eq_true rfl) rfl (by decide) ?_
  refine ov_geti (T := TX4) (kf := 4) dX5_text_12 qf_X5_229 sh_45 rfl (Nat.le_of_ble_eq_true rfl) rfl ?_
  refine ov_nmI (fun v3 ev3 => ?_)
  have hF := hF v3 ev3
  refine ov_istore_n dX5_text_15 (Nat.le_of_ble_eq_true rfl) [(2, .int v3), (1, .int v1), (0, .ref 0)] rfl ?_
  refine ov_aload_n dX5_text_16 2 rfl ?_
  refine ov_getr (T := TX5) (kf := 5) dX5_text_17 qf_X5_37 sh_0 rfl (Nat.le_of_ble_eq_true rfl) rfl (by decide) ?_
  refine ov_iconst 0 (by decide) dX5_text_20 ?_
  refine ov_puti (T := TX4) (kf := 2) dX5_text_21 qf_X5_220 sh_45 rfl (Nat.le_of_ble_eq_true rfl) rfl rfl (by decide +kernel) ?_
  refine ov_nmS (fun σ4 es4 => ?_)
  have hF := hF σ4 es4
  refine ov_iload_n dX5_text_24 1 rfl ?_
  refine ov_if_ne 33 dX5_text_25 (by decide) hF (fun hF => ?_) (fun hF => ?_)
  · refine ov_aload_n dX5_text_33 2 rfl ?_
    refine ov_getr (T := TX5) (kf := 1) dX5_text_34 qf_X5_21 sh_0 rfl (Nat.le_of_ble_eq_true rfl) rfl (by decide) ?_
    refine ov_geti (T := TX3) (kf := 13) dX5_text_37 qf_X5_232 (ov_stk0 (by unfold ov_stk; decide)) rfl (Nat.le_of_ble_eq_true rfl) rfl ?_
    refine ov_bipush 14 (by decide) dX5_text_40 ?_
    refine ov_icmp_lt 48 dX5_text_42 (by decide) hF (fun hF => ?_) (fun hF => ?_)
    · refine ov_aload_n dX5_text_48 2 rfl ?_
      refine ov_getr (T := TX5) (kf := 1) dX5_text_49 qf_X5_21 sh_0 rfl (Nat.le_of_ble_eq_true rfl) rfl (by decide) ?_
      refine ov_geti (T := TX3) (kf := 13) dX5_text_52 qf_X5_232 (ov_stk0 (by unfold ov_stk; decide)) rfl (Nat.le_of_ble_eq_true rfl) rfl ?_
      refine ov_nmI (fun v5 ev5 => ?_)
      have hF := hF v5 ev5
      refine ov_istore_n dX5_text_55 (Nat.le_of_ble_eq_true rfl) [(3, .int v5), (2, .int v3), (1, .int v1), (0, .ref 0)] rfl ?_
      refine ov_aload_n dX5_text_56 3 rfl ?_
      refine ov_getr (T := TX5) (kf := 0) dX5_text_57 qf_X5_10 sh_0 rfl (Nat.le_of_ble_eq_true rfl) rfl (by decide) ?_
      refine ov_iload_n dX5_text_60 0 rfl ?_
      refine ov_aload_n dX5_text_61 3 rfl ?_
      refine ov_getr (T := TX5) (kf := 5) dX5_text_62 qf_X5_37 sh_0 rfl (Nat.le_of_ble_eq_true rfl) rfl (by decide) ?_
      refine ov_callV [.int v5, .ref 45] dX5_text_65 (c_X0_write hF) (Nat.le_of_ble_eq_true rfl) (Nat.le_of_ble_eq_true rfl) lk_X5_235 sh_1 rfl (Nat.le_of_ble_eq_true rfl) (Nat.le_refl _) (Nat.le_refl _) (fun rr σ7 hF => ?_)
      obtain ⟨rfl, hF⟩ := hF
      show vv_X5_text k 68 [(3, .int v5), (2, .int v3), (1, .int v1), (0, .ref 0)] [] σ7
      refine ov_aload_n dX5_text_68 3 rfl ?_
      refine ov_getr (T := TX5) (kf := 1) dX5_text_69 qf_X5_21 sh_0 rfl (Nat.le_of_ble_eq_true rfl) rfl (by decide) ?_
      refine ov_getr (T := TX3) (kf := 5) dX5_text_72 qf_X5_164 (ov_stk0 (by unfold ov_stk; decide)) rfl (Nat.le_of_ble_eq_true rfl) rfl (by decide) ?_
      refine ov_aload_n dX5_text_75 3 rfl ?_
      refine ov_getr (T := TX5) (kf := 5) dX5_text_76 qf_X5_37 sh_0 rfl (Nat.le_of_ble_eq_true rfl) rfl (by decide) ?_
      refine ov_geti (T := TX4) (kf := 6) dX5_text_79 qf_X5_239 sh_45 rfl (Nat.le_of_ble_eq_true rfl) rfl ?_
      refine ov_iload_n dX5_text_82 0 rfl ?_
      have h8 := hF.1
      have hF := hF.2
      refine ov_iastore dX5_text_83 sh_26 h8 ?_
      refine ov_nmS (fun σ9 es9 => ?_)
      have hF := hF σ9 es9
      refine ov_aload_n dX5_text_84 3 rfl ?_
      refine ov_getr (T := TX5) (kf := 1) dX5_text_85 qf_X5_21 sh_0 rfl (Nat.le_of_ble_eq_true rfl) rfl (by decide) ?_
      refine ov_dup rfl dX5_text_88 ?_
      refine ov_geti (T := TX3) (kf := 13) dX5_text_89 qf_X5_232 (ov_stk0 (by unfold ov_stk; decide)) rfl (Nat.le_of_ble_eq_true rfl) rfl ?_
      refine ov_iconst 1 (by decide) dX5_text_92 ?_
      refine ov_iadd dX5_text_93 ?_
      refine ov_puti (T := TX3) (kf := 13) dX5_text_94 qf_X5_232 (ov_stk0 (by unfold ov_stk; decide)) rfl (Nat.le_of_ble_eq_true rfl) rfl rfl (by decide +kernel) ?_
      refine ov_nmS (fun σ10 es10 => ?_)
      have hF := hF σ10 es10
      refine ov_iload_n dX5_text_97 0 rfl ?_
      exact ov_ireturn dX5_text_98 (Nat.le_refl _) (Nat.le_refl _) ⟨rfl, trivial, _, rfl, hF⟩
    · refine ov_ldc dX5_text_45 qc_X5_79 ?_
      exact ov_ireturn dX5_text_47 (Nat.le_refl _) (Nat.le_refl _) ⟨rfl, trivial, _, rfl, hF⟩
  · refine ov_bipush (-100) (by decide) dX5_text_28 ?_
    refine ov_iload_n dX5_text_30 0 rfl ?_
    refine ov_isub dX5_text_31 ?_
    exact ov_ireturn dX5_text_32 (Nat.le_refl _) (Nat.le_refl _) ⟨rfl, trivial, _, rfl, hF⟩
