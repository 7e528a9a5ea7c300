/-! ===== methods, by program: F_<m> is what must hold so that the method ends with k; c_<m> gives the contract ===== -/
abbrev ov_min (x y : Int32) : Int32 := if y < x then y else x
abbrev ov_max (x y : Int32) : Int32 := if x < y then y else x
abbrev ov_abs (x : Int32) : Int32 := if 0 ≤ x then x else 0 - x
abbrev ov_cpok (sp dp q : Int32) (n0 n1 : Nat) : Prop := (¬ sp < 0 ∧ ¬ dp < 0 ∧ ¬ q < 0) ∧ sp.toNatClampNeg + q.toNatClampNeg ≤ n0 ∧ dp.toNatClampNeg + q.toNatClampNeg ≤ n1
/-! X3_become -/
abbrev vv_X3_become (k : ovSt → Prop) (pc : Nat) (L : List (Nat × Value)) (st : List Value) (σ : ovSt) : Prop := ov_V (ovZs 1 yX3_become cX3_become 2) (ovKs none ov_S0 (ovKv k)) (0, 0) ov_S0 pc L st σ
def F_X3_become (s : Nat) (s1 : Nat) (σ : ovSt) (k : ovSt → Prop) : Prop := (ov_stk s ∧ (ov_stk s1 ∧ ((ov_cpok 0 0 8 8 8) ∧ (∀ σ2 : ovSt, σ2 = ov_row σ (s + 1) (va_cpy (σ (s1 + 1)) (σ (s + 1)) (Int32.toNatClampNeg 0) (Int32.toNatClampNeg 0) (Int32.toNatClampNeg 8)) → (∀ σ3 : ovSt, σ3 = ov_row σ2 (s + 2) (va_cpy (σ2 (s1 + 2)) (σ2 (s + 2)) (Int32.toNatClampNeg 0) (Int32.toNatClampNeg 0) (Int32.toNatClampNeg 8)) → (∀ σ4 : ovSt, σ4 = ov_row σ3 (s + 3) (va_cpy (σ3 (s1 + 3)) (σ3 (s + 3)) (Int32.toNatClampNeg 0) (Int32.toNatClampNeg 0) (Int32.toNatClampNeg 8)) → (∀ σ5 : ovSt, σ5 = ov_row σ4 (s + 4) (va_cpy (σ4 (s1 + 4)) (σ4 (s + 4)) (Int32.toNatClampNeg 0) (Int32.toNatClampNeg 0) (Int32.toNatClampNeg 8)) → ((ov_cpok 0 0 3 3 3) ∧ (∀ σ7 : ovSt, σ7 = ov_row σ5 (s + 5) (va_cpy (σ5 (s1 + 5)) (σ5 (s + 5)) (Int32.toNatClampNeg 0) (Int32.toNatClampNeg 0) (Int32.toNatClampNeg 3)) → (∀ σ8 : ovSt, σ8 = ov_up σ7 s 6 (σ7 s1 6) → (∀ σ9 : ovSt, σ9 = ov_up σ8 s 7 (σ8 s1 7) → (∀ σ10 : ovSt, σ10 = ov_up σ9 s 8 (σ9 s1 8) → (∀ σ11 : ovSt, σ11 = ov_up σ10 s 9 (σ10 s1 9) → (∀ σ12 : ovSt, σ12 = ov_up σ11 s 10 (σ11 s1 10) → (∀ σ13 : ovSt, σ13 = ov_up σ12 s 11 (σ12 s1 11) → (∀ σ14 : ovSt, σ14 = ov_up σ13 s 12 (σ13 s1 12) → (∀ σ15 : ovSt, σ15 = ov_up σ14 s 13 (σ14 s1 13) → (k σ15))))))))))))))))))
set_option maxRecDepth 100000 in
set_option maxHeartbeats 4000000 in
theorem c_X3_become {s : Nat} {s1 : Nat} {σ : ovSt} {k : ovSt → Prop} (hF : F_X3_become s s1 σ k) : ov_Ct 1 yX3_become cX3_become 2 none ov_S0 [.ref s, .ref s1] σ (ovKv k) := by
  refine ov_Ct.of (by decide) (Nat.le_of_ble_eq_true rfl) ?_
  unfold F_X3_become at hF
  have hs := hF.1
  have hF := hF.2
  have hs1 := hF.1
  have hF := hF.2
  show vv_X3_become k 0 [(0, .ref s), (1, .ref s1)] [] σ
  refine ov_aload_n dX3_become_0 1 rfl ?_
  refine ov_getr (T := TX3) (kf := 1) dX3_become_1 qf_X3_9 (ov_stk0 hs1) rfl (Nat.le_of_ble_eq_true rfl) rfl (ov_stkn hs1 1 (by decide)) ?_
  refine ov_iconst 0 (by decide) dX3_become_4 ?_
  refine ov_aload_n dX3_become_5 0 rfl ?_
  refine ov_getr (T := TX3) (kf := 1) dX3_become_6 qf_X3_9 (ov_stk0 hs) rfl (Nat.le_of_ble_eq_true rfl) rfl (ov_stkn hs 1 (by decide)) ?_
  refine ov_iconst 0 (by decide) dX3_become_9 ?_
  refine ov_bipush 8 (by decide) dX3_become_10 ?_
  have h1 := hF.1
  have hF := hF.2
  refine ov_copy dX3_become_12 lk_X3_56 (ov_stk1 hs1) (ov_stk1 hs) h1 (Nat.le_of_ble_eq_true rfl) (by decide) ?_
  refine ov_nmS (fun σ2 es2 => ?_)
  have hF := hF σ2 es2
  refine ov_aload_n dX3_become_15 1 rfl ?_
  refine ov_getr (T := TX3) (kf := 2) dX3_become_16 qf_X3_15 (ov_stk0 hs1) rfl (Nat.le_of_ble_eq_true rfl) rfl (ov_stkn hs1 2 (by decide)) ?_
  refine ov_iconst 0 (by decide) dX3_become_19 ?_
  refine ov_aload_n dX3_become_20 0 rfl ?_
  refine ov_getr (T := TX3) (kf := 2) dX3_become_21 qf_X3_15 (ov_stk0 hs) rfl (Nat.le_of_ble_eq_true rfl) rfl (ov_stkn hs 2 (by decide)) ?_
  refine ov_iconst 0 (by decide) dX3_become_24 ?_
  refine ov_bipush 8 (by decide) dX3_become_25 ?_
  refine ov_copy dX3_become_27 lk_X3_56 (ov_stk2 hs1) (ov_stk2 hs) h1 (Nat.le_of_ble_eq_true rfl) (by decide) ?_
  refine ov_nmS (fun σ3 es3 => ?_)
  have hF := hF σ3 es3
  refine ov_aload_n dX3_become_30 1 rfl ?_
  refine ov_getr (T := TX3) (kf := 3) dX3_become_31 qf_X3_18 (ov_stk0 hs1) rfl (Nat.le_of_ble_eq_true rfl) rfl (ov_stkn hs1 3 (by decide)) ?_
  refine ov_iconst 0 (by decide) dX3_become_34 ?_
  refine ov_aload_n dX3_become_35 0 rfl ?_
  refine ov_getr (T := TX3) (kf := 3) dX3_become_36 qf_X3_18 (ov_stk0 hs) rfl (Nat.le_of_ble_eq_true rfl) rfl (ov_stkn hs 3 (by decide)) ?_
  refine ov_iconst 0 (by decide) dX3_become_39 ?_
  refine ov_bipush 8 (by decide) dX3_become_40 ?_
  refine ov_copy dX3_become_42 lk_X3_56 (ov_stk3 hs1) (ov_stk3 hs) h1 (Nat.le_of_ble_eq_true rfl) (by decide) ?_
  refine ov_nmS (fun σ4 es4 => ?_)
  have hF := hF σ4 es4
  refine ov_aload_n dX3_become_45 1 rfl ?_
  refine ov_getr (T := TX3) (kf := 4) dX3_become_46 qf_X3_21 (ov_stk0 hs1) rfl (Nat.le_of_ble_eq_true rfl) rfl (ov_stkn hs1 4 (by decide)) ?_
  refine ov_iconst 0 (by decide) dX3_become_49 ?_
  refine ov_aload_n dX3_become_50 0 rfl ?_
  refine ov_getr (T := TX3) (kf := 4) dX3_become_51 qf_X3_21 (ov_stk0 hs) rfl (Nat.le_of_ble_eq_true rfl) rfl (ov_stkn hs 4 (by decide)) ?_
  refine ov_iconst 0 (by decide) dX3_become_54 ?_
  refine ov_bipush 8 (by decide) dX3_become_55 ?_
  refine ov_copy dX3_become_57 lk_X3_56 (ov_stk4 hs1) (ov_stk4 hs) h1 (Nat.le_of_ble_eq_true rfl) (by decide) ?_
  refine ov_nmS (fun σ5 es5 => ?_)
  have hF := hF σ5 es5
  refine ov_aload_n dX3_become_60 1 rfl ?_
  refine ov_getr (T := TX3) (kf := 5) dX3_become_61 qf_X3_24 (ov_stk0 hs1) rfl (Nat.le_of_ble_eq_true rfl) rfl (ov_stkn hs1 5 (by decide)) ?_
  refine ov_iconst 0 (by decide) dX3_become_64 ?_
  refine ov_aload_n dX3_become_65 0 rfl ?_
  refine ov_getr (T := TX3) (kf := 5) dX3_become_66 qf_X3_24 (ov_stk0 hs) rfl (Nat.le_of_ble_eq_true rfl) rfl (ov_stkn hs 5 (by decide)) ?_
  refine ov_iconst 0 (by decide) dX3_become_69 ?_
  refine ov_iconst 3 (by decide) dX3_become_70 ?_
  have h6 := hF.1
  have hF := hF.2
  refine ov_copy dX3_become_71 lk_X3_56 (ov_stk5 hs1) (ov_stk5 hs) h6 (Nat.le_of_ble_eq_true rfl) (by decide) ?_
  refine ov_nmS (fun σ7 es7 => ?_)
  have hF := hF σ7 es7
  refine ov_aload_n dX3_become_74 0 rfl ?_
  refine ov_aload_n dX3_become_75 1 rfl ?_
  refine ov_geti (T := TX3) (kf := 6) dX3_become_76 qf_X3_27 (ov_stk0 hs1) rfl (Nat.le_of_ble_eq_true rfl) rfl ?_
  refine ov_puti (T := TX3) (kf := 6) dX3_become_79 qf_X3_27 (ov_stk0 hs) rfl (Nat.le_of_ble_eq_true rfl) rfl rfl (by decide +kernel) ?_
  refine ov_nmS (fun σ8 es8 => ?_)
  have hF := hF σ8 es8
  refine ov_aload_n dX3_become_82 0 rfl ?_
  refine ov_aload_n dX3_become_83 1 rfl ?_
  refine ov_geti (T := TX3) (kf := 7) dX3_become_84 qf_X3_31 (ov_stk0 hs1) rfl (Nat.le_of_ble_eq_true rfl) rfl ?_
  refine ov_puti (T := TX3) (kf := 7) dX3_become_87 qf_X3_31 (ov_stk0 hs) rfl (Nat.le_of_ble_eq_true rfl) rfl rfl (by decide +kernel) ?_
  refine ov_nmS (fun σ9 es9 => ?_)
  have hF := hF σ9 es9
  refine ov_aload_n dX3_become_90 0 rfl ?_
  refine ov_aload_n dX3_become_91 1 rfl ?_
  refine ov_geti (T := TX3) (kf := 8) dX3_become_92 qf_X3_34 (ov_stk0 hs1) rfl (Nat.le_of_ble_eq_true rfl) rfl ?_
  refine ov_puti (T := TX3) (kf := 8) dX3_become_95 qf_X3_34 (ov_stk0 hs) rfl (Nat.le_of_ble_eq_true rfl) rfl rfl (by decide +kernel) ?_
  refine ov_nmS (fun σ10 es10 => ?_)
  have hF := hF σ10 es10
  refine ov_aload_n dX3_become_98 0 rfl ?_
  refine ov_aload_n dX3_become_99 1 rfl ?_
  refine ov_geti (T := TX3) (kf := 9) dX3_become_100 qf_X3_37 (ov_stk0 hs1) rfl (Nat.le_of_ble_eq_true rfl) rfl ?_
  refine ov_puti (T := TX3) (kf := 9) dX3_become_103 qf_X3_37 (ov_stk0 hs) rfl (Nat.le_of_ble_eq_true rfl) rfl rfl (by decide +kernel) ?_
  refine ov_nmS (fun σ11 es11 => ?_)
  have hF := hF σ11 es11
  refine ov_aload_n dX3_become_106 0 rfl ?_
  refine ov_aload_n dX3_become_107 1 rfl ?_
  refine ov_geti (T := TX3) (kf := 10) dX3_become_108 qf_X3_40 (ov_stk0 hs1) rfl (Nat.le_of_ble_eq_true rfl) rfl ?_
  refine ov_puti (T := TX3) (kf := 10) dX3_become_111 qf_X3_40 (ov_stk0 hs) rfl (Nat.le_of_ble_eq_true rfl) rfl rfl (by decide +kernel) ?_
  refine ov_nmS (fun σ12 es12 => ?_)
  have hF := hF σ12 es12
  refine ov_aload_n dX3_become_114 0 rfl ?_
  refine ov_aload_n dX3_become_115 1 rfl ?_
  refine ov_geti (T := TX3) (kf := 11) dX3_become_116 qf_X3_43 (ov_stk0 hs1) rfl (Nat.le_of_ble_eq_true rfl) rfl ?_
  refine ov_puti (T := TX3) (kf := 11) dX3_become_119 qf_X3_43 (ov_stk0 hs) rfl (Nat.le_of_ble_eq_true rfl) rfl rfl (by decide +kernel) ?_
  refine ov_nmS (fun σ13 es13 => ?_)
  have hF := hF σ13 es13
  refine ov_aload_n dX3_become_122 0 rfl ?_
  refine ov_aload_n dX3_become_123 1 rfl ?_
  refine ov_geti (T := TX3) (kf := 12) dX3_become_124 qf_X3_46 (ov_stk0 hs1) rfl (Nat.le_of_ble_eq_true rfl) rfl ?_
  refine ov_puti (T := TX3) (kf := 12) dX3_become_127 qf_X3_46 (ov_stk0 hs) rfl (Nat.le_of_ble_eq_true rfl) rfl rfl (by decide +kernel) ?_
  refine ov_nmS (fun σ14 es14 => ?_)
  have hF := hF σ14 es14
  refine ov_aload_n dX3_become_130 0 rfl ?_
  refine ov_aload_n dX3_become_131 1 rfl ?_
  refine ov_geti (T := TX3) (kf := 13) dX3_become_132 qf_X3_49 (ov_stk0 hs1) rfl (Nat.le_of_ble_eq_true rfl) rfl ?_
  refine ov_puti (T := TX3) (kf := 13) dX3_become_135 qf_X3_49 (ov_stk0 hs) rfl (Nat.le_of_ble_eq_true rfl) rfl rfl (by decide +kernel) ?_
  refine ov_nmS (fun σ15 es15 => ?_)
  have hF := hF σ15 es15
  exact ov_return dX3_become_138 (Nat.le_refl _) (Nat.le_refl _) ⟨rfl, trivial, rfl, hF⟩
/-! X3_has -/
abbrev vv_X3_has (k : Int32 → ovSt → Prop) (pc : Nat) (L : List (Nat × Value)) (st : List Value) (σ : ovSt) : Prop := ov_V (ovZs 0 yX3_has cX3_has 2) (ovKs (some .boolean) ov_S0 (ovKi k)) (0, 0) ov_S0 pc L st σ
def F_X3_has_17 (s : Nat) (k : Int32 → ovSt → Prop) (t0 : Int32) (σ : ovSt) : Prop := (ov_bl t0 ∧ (k t0 σ))
set_option maxRecDepth 100000 in
set_option maxHeartbeats 4000000 in
theorem V_X3_has_17 {k : Int32 → ovSt → Prop} {s : Nat} (hs : ov_stk s) (t0 : Int32) (σ : ovSt) (hF : F_X3_has_17 s k t0 σ) : vv_X3_has k 17 [] [.int t0] σ := by
  unfold F_X3_has_17 at hF
  have h1 := hF.1
  have hF := hF.2
  exact ov_ireturn dX3_has_17 (Nat.le_refl _) (Nat.le_refl _) ⟨rfl, h1, _, rfl, hF⟩
def F_X3_has_16 (s : Nat) (k : Int32 → ovSt → Prop) (σ : ovSt) : Prop := (F_X3_has_17 s k 0 σ)
set_option maxRecDepth 100000 in
set_option maxHeartbeats 4000000 in
theorem V_X3_has_16 {k : Int32 → ovSt → Prop} {s : Nat} (hs : ov_stk s) (σ : ovSt) (hF : F_X3_has_16 s k σ) : vv_X3_has k 16 [] [] σ := by
  unfold F_X3_has_16 at hF
  refine ov_iconst 0 (by decide) dX3_has_16 ?_
  exact V_X3_has_17 hs 0 σ hF
def F_X3_has (s : Nat) (x1 : Int32) (σ : ovSt) (k : Int32 → ovSt → Prop) : Prop := (ov_stk s ∧ (if x1 < 0 then (F_X3_has_16 s k σ) else (if (σ s 6) ≤ x1 then (F_X3_has_16 s k σ) else (F_X3_has_17 s k 1 σ))))
set_option maxRecDepth 100000 in
set_option maxHeartbeats 4000000 in
theorem c_X3_has {s : Nat} {x1 : Int32} {σ : ovSt} {k : Int32 → ovSt → Prop} (hF : F_X3_has s x1 σ k) : ov_Ct 0 yX3_has cX3_has 2 (some .boolean) ov_S0 [.ref s, .int x1] σ (ovKi k) := by
  refine ov_Ct.of (by decide) (Nat.le_of_ble_eq_true rfl) ?_
  unfold F_X3_has at hF
  have hs := hF.1
  have hF := hF.2
  show vv_X3_has k 0 [(0, .ref s), (1, .int x1)] [] σ
  refine ov_iload_n dX3_has_0 1 rfl ?_
  refine ov_if_lt 16 dX3_has_1 (by decide) hF (fun hF => ?_) (fun hF => ?_)
  · refine ov_pick [] [] rfl ?_
    exact V_X3_has_16 hs σ hF
  · refine ov_iload_n dX3_has_4 1 rfl ?_
    refine ov_aload_n dX3_has_5 0 rfl ?_
    refine ov_geti (T := TX3) (kf := 6) dX3_has_6 qf_X3_27 (ov_stk0 hs) rfl (Nat.le_of_ble_eq_true rfl) rfl ?_
    refine ov_icmp_ge 16 dX3_has_9 (by decide) hF (fun hF => ?_) (fun hF => ?_)
    · refine ov_pick [] [] rfl ?_
      exact V_X3_has_16 hs σ hF
    · refine ov_iconst 1 (by decide) dX3_has_12 ?_
      refine ov_goto 17 dX3_has_13 (by decide) ?_
      refine ov_pick [] [] rfl ?_
      exact V_X3_has_17 hs 1 σ hF
/-! X3_addThing -/
abbrev vv_X3_addThing (k : Int32 → ovSt → Prop) (pc : Nat) (L : List (Nat × Value)) (st : List Value) (σ : ovSt) : Prop := ov_V (ovZs 0 yX3_addThing cX3_addThing 5) (ovKs (some .int) ov_S0 (ovKi k)) (0, 0) ov_S0 pc L st σ
def F_X3_addThing (s : Nat) (x1 : Int32) (x2 : Int32) (x3 : Int32) (σ : ovSt) (k : Int32 → ovSt → Prop) : Prop := (ov_stk s ∧ (∀ v1 : Int32, v1 = (σ s 6) → (vp_in v1 8 ∧ (∀ σ3 : ovSt, σ3 = ov_up σ (s + 1) (Int32.toNatClampNeg v1) x1 → (∀ σ4 : ovSt, σ4 = ov_up σ3 (s + 2) (Int32.toNatClampNeg v1) x2 → (∀ σ5 : ovSt, σ5 = ov_up σ4 (s + 3) (Int32.toNatClampNeg v1) x3 → (∀ σ6 : ovSt, σ6 = ov_up σ5 (s + 4) (Int32.toNatClampNeg v1) 0 → (∀ σ7 : ovSt, σ7 = ov_up σ6 s 6 ((σ6 s 6) + 1) → (k v1 σ7)))))))))
set_option maxRecDepth 100000 in
set_option maxHeartbeats 4000000 in
theorem c_X3_addThing {s : Nat} {x1 : Int32} {x2 : Int32} {x3 : Int32} {σ : ovSt} {k : Int32 → ovSt → Prop} (hF : F_X3_addThing s x1 x2 x3 σ k) : ov_Ct 0 yX3_addThing cX3_addThing 5 (some .int) ov_S0 [.ref s, .int x1, .int x2, .int x3] σ (ovKi k) := by
  refine ov_Ct.of (by decide) (Nat.le_of_ble_eq_true rfl) ?_
  unfold F_X3_addThing at hF
  have hs := hF.1
  have hF := hF.2
  show vv_X3_addThing k 0 [(0, .ref s), (1, .int x1), (2, .int x2), (3, .int x3)] [] σ
  refine ov_aload_n dX3_addThing_0 0 rfl ?_
  refine ov_geti (T := TX3) (kf := 6) dX3_addThing_1 qf_X3_27 (ov_stk0 hs) rfl (Nat.le_of_ble_eq_true rfl) rfl ?_
  refine ov_nmI (fun v1 ev1 => ?_)
  have hF := hF v1 ev1
  refine ov_istore dX3_addThing_4 (Nat.le_of_ble_eq_true rfl) [(4, .int v1), (0, .ref s), (1, .int x1), (2, .int x2), (3, .int x3)] rfl ?_
  refine ov_aload_n dX3_addThing_6 1 rfl ?_
  refine ov_getr (T := TX3) (kf := 1) dX3_addThing_7 qf_X3_9 (ov_stk0 hs) rfl (Nat.le_of_ble_eq_true rfl) rfl (ov_stkn hs 1 (by decide)) ?_
  refine ov_iload dX3_addThing_10 0 rfl ?_
  refine ov_iload_n dX3_addThing_12 2 rfl ?_
  have h2 := hF.1
  have hF := hF.2
  refine ov_iastore dX3_addThing_13 (ov_stk1 hs) h2 ?_
  refine ov_nmS (fun σ3 es3 => ?_)
  have hF := hF σ3 es3
  refine ov_aload_n dX3_addThing_14 1 rfl ?_
  refine ov_getr (T := TX3) (kf := 2) dX3_addThing_15 qf_X3_15 (ov_stk0 hs) rfl (Nat.le_of_ble_eq_true rfl) rfl (ov_stkn hs 2 (by decide)) ?_
  refine ov_iload dX3_addThing_18 0 rfl ?_
  refine ov_iload_n dX3_addThing_20 3 rfl ?_
  refine ov_iastore dX3_addThing_21 (ov_stk2 hs) h2 ?_
  refine ov_nmS (fun σ4 es4 => ?_)
  have hF := hF σ4 es4
  refine ov_aload_n dX3_addThing_22 1 rfl ?_
  refine ov_getr (T := TX3) (kf := 3) dX3_addThing_23 qf_X3_18 (ov_stk0 hs) rfl (Nat.le_of_ble_eq_true rfl) rfl (ov_stkn hs 3 (by decide)) ?_
  refine ov_iload dX3_addThing_26 0 rfl ?_
  refine ov_iload_n dX3_addThing_28 4 rfl ?_
  refine ov_iastore dX3_addThing_29 (ov_stk3 hs) h2 ?_
  refine ov_nmS (fun σ5 es5 => ?_)
  have hF := hF σ5 es5
  refine ov_aload_n dX3_addThing_30 1 rfl ?_
  refine ov_getr (T := TX3) (kf := 4) dX3_addThing_31 qf_X3_21 (ov_stk0 hs) rfl (Nat.le_of_ble_eq_true rfl) rfl (ov_stkn hs 4 (by decide)) ?_
  refine ov_iload dX3_addThing_34 0 rfl ?_
  refine ov_iconst 0 (by decide) dX3_addThing_36 ?_
  refine ov_iastore dX3_addThing_37 (ov_stk4 hs) h2 ?_
  refine ov_nmS (fun σ6 es6 => ?_)
  have hF := hF σ6 es6
  refine ov_aload_n dX3_addThing_38 1 rfl ?_
  refine ov_dup rfl dX3_addThing_39 ?_
  refine ov_geti (T := TX3) (kf := 6) dX3_addThing_40 qf_X3_27 (ov_stk0 hs) rfl (Nat.le_of_ble_eq_true rfl) rfl ?_
  refine ov_iconst 1 (by decide) dX3_addThing_43 ?_
  refine ov_iadd dX3_addThing_44 ?_
  refine ov_puti (T := TX3) (kf := 6) dX3_addThing_45 qf_X3_27 (ov_stk0 hs) rfl (Nat.le_of_ble_eq_true rfl) rfl rfl (by decide +kernel) ?_
  refine ov_nmS (fun σ7 es7 => ?_)
  have hF := hF σ7 es7
  refine ov_iload dX3_addThing_48 0 rfl ?_
  exact ov_ireturn dX3_addThing_50 (Nat.le_refl _) (Nat.le_refl _) ⟨rfl, trivial, _, rfl, hF⟩
/-! X3_draw -/
abbrev vv_X3_draw (k : Int32 → ovSt → Prop) (pc : Nat) (L : List (Nat × Value)) (st : List Value) (σ : ovSt) : Prop := ov_V (ovZs 0 yX3_draw cX3_draw 1) (ovKs (some .int) ov_S0 (ovKi k)) (0, 0) ov_S0 pc L st σ
def F_X3_draw (s : Nat) (σ : ovSt) (k : Int32 → ovSt → Prop) : Prop := (ov_stk s ∧ (∀ σ1 : ovSt, σ1 = ov_up σ s 12 (((σ s 12) * 1103515245) + 12345) → (k (Int32.toUInt32 (σ1 s 12) >>> (Int32.toUInt32 8 &&& Int32.toUInt32 31)).toInt32 σ1)))
set_option maxRecDepth 100000 in
set_option maxHeartbeats 4000000 in
theorem c_X3_draw {s : Nat} {σ : ovSt} {k : Int32 → ovSt → Prop} (hF : F_X3_draw s σ k) : ov_Ct 0 yX3_draw cX3_draw 1 (some .int) ov_S0 [.ref s] σ (ovKi k) := by
  refine ov_Ct.of (by decide) (Nat.le_of_ble_eq_true rfl) ?_
  unfold F_X3_draw at hF
  have hs := hF.1
  have hF := hF.2
  show vv_X3_draw k 0 [(0, .ref s)] [] σ
  refine ov_aload_n dX3_draw_0 0 rfl ?_
  refine ov_aload_n dX3_draw_1 0 rfl ?_
  refine ov_geti (T := TX3) (kf := 12) dX3_draw_2 qf_X3_46 (ov_stk0 hs) rfl (Nat.le_of_ble_eq_true rfl) rfl ?_
  refine ov_ldc dX3_draw_5 qc_X3_70 ?_
  refine ov_imul dX3_draw_7 ?_
  refine ov_sipush 12345 (by decide) dX3_draw_8 ?_
  refine ov_iadd dX3_draw_11 ?_
  refine ov_puti (T := TX3) (kf := 12) dX3_draw_12 qf_X3_46 (ov_stk0 hs) rfl (Nat.le_of_ble_eq_true rfl) rfl rfl (by decide +kernel) ?_
  refine ov_nmS (fun σ1 es1 => ?_)
  have hF := hF σ1 es1
  refine ov_aload_n dX3_draw_15 0 rfl ?_
  refine ov_geti (T := TX3) (kf := 12) dX3_draw_16 qf_X3_46 (ov_stk0 hs) rfl (Nat.le_of_ble_eq_true rfl) rfl ?_
  refine ov_bipush 8 (by decide) dX3_draw_19 ?_
  refine ov_iushr dX3_draw_21 ?_
  exact ov_ireturn dX3_draw_22 (Nat.le_refl _) (Nat.le_refl _) ⟨rfl, trivial, _, rfl, hF⟩
/-! X3_drawThing -/
abbrev vv_X3_drawThing (k : ovSt → Prop) (pc : Nat) (L : List (Nat × Value)) (st : List Value) (σ : ovSt) : Prop := ov_V (ovZs 1 yX3_drawThing cX3_drawThing 4) (ovKs none ov_S0 (ovKv k)) (0, 0) ov_S0 pc L st σ
def F_X3_drawThing (s : Nat) (σ : ovSt) (k : ovSt → Prop) : Prop := (ov_stk s ∧ (F_X3_draw s σ (fun v1 σ2 => (∀ v3 : Int32, v3 = (v1 - v1 / 6 * 6) → (F_X3_draw s σ2 (fun v4 σ5 => (∀ v6 : Int32, v6 = (1 + (v4 - v4 / 9 * 9)) → (F_X3_draw s σ5 (fun v7 σ8 => (∀ v9 : Int32, v9 = (v7 - v7 / 1000 * 1000) → (F_X3_addThing s v3 v6 v9 σ8 (fun v10 σ11 => (k σ11)))))))))))))
set_option maxRecDepth 100000 in
set_option maxHeartbeats 4000000 in
theorem c_X3_drawThing {s : Nat} {σ : ovSt} {k : ovSt → Prop} (hF : F_X3_drawThing s σ k) : ov_Ct 1 yX3_drawThing cX3_drawThing 4 none ov_S0 [.ref s] σ (ovKv k) := by
  refine ov_Ct.of (by decide) (Nat.le_of_ble_eq_true rfl) ?_
  unfold F_X3_drawThing at hF
  have hs := hF.1
  have hF := hF.2
  show vv_X3_drawThing k 0 [(0, .ref s)] [] σ
  refine ov_aload_n dX3_drawThing_0 0 rfl ?_
  refine ov_callV [] dX3_drawThing_1 (c_X3_draw hF) (Nat.le_of_ble_eq_true rfl) (Nat.le_of_ble_eq_true rfl) lk_X3_62 (ov_stk0 hs) rfl (Nat.le_of_ble_eq_true rfl) (Nat.le_refl _) (Nat.le_refl _) (fun rr σ2 hF => ?_)
  obtain ⟨v1, rfl, hF⟩ := hF
  show vv_X3_drawThing k 4 [(0, .ref s)] [.int v1] σ2
  refine ov_bipush 6 (by decide) dX3_drawThing_4 ?_
  refine ov_irem (by decide) dX3_drawThing_6 ?_
  refine ov_nmI (fun v3 ev3 => ?_)
  have hF := hF v3 ev3
  refine ov_istore_n dX3_drawThing_7 (Nat.le_of_ble_eq_true rfl) [(1, .int v3), (0, .ref s)] rfl ?_
  refine ov_iconst 1 (by decide) dX3_drawThing_8 ?_
  refine ov_aload_n dX3_drawThing_9 1 rfl ?_
  refine ov_callV [] dX3_drawThing_10 (c_X3_draw hF) (Nat.le_of_ble_eq_true rfl) (Nat.le_of_ble_eq_true rfl) lk_X3_62 (ov_stk0 hs) rfl (Nat.le_of_ble_eq_true rfl) (Nat.le_refl _) (Nat.le_refl _) (fun rr σ5 hF => ?_)
  obtain ⟨v4, rfl, hF⟩ := hF
  show vv_X3_drawThing k 13 [(1, .int v3), (0, .ref s)] [.int v4, .int 1] σ5
  refine ov_bipush 9 (by decide) dX3_drawThing_13 ?_
  refine ov_irem (by decide) dX3_drawThing_15 ?_
  refine ov_iadd dX3_drawThing_16 ?_
  refine ov_nmI (fun v6 ev6 => ?_)
  have hF := hF v6 ev6
  refine ov_istore_n dX3_drawThing_17 (Nat.le_of_ble_eq_true rfl) [(2, .int v6), (1, .int v3), (0, .ref s)] rfl ?_
  refine ov_aload_n dX3_drawThing_18 2 rfl ?_
  refine ov_callV [] dX3_drawThing_19 (c_X3_draw hF) (Nat.le_of_ble_eq_true rfl) (Nat.le_of_ble_eq_true rfl) lk_X3_62 (ov_stk0 hs) rfl (Nat.le_of_ble_eq_true rfl) (Nat.le_refl _) (Nat.le_refl _) (fun rr σ8 hF => ?_)
  obtain ⟨v7, rfl, hF⟩ := hF
  show vv_X3_drawThing k 22 [(2, .int v6), (1, .int v3), (0, .ref s)] [.int v7] σ8
  refine ov_sipush 1000 (by decide) dX3_drawThing_22 ?_
  refine ov_irem (by decide) dX3_drawThing_25 ?_
  refine ov_nmI (fun v9 ev9 => ?_)
  have hF := hF v9 ev9
  refine ov_istore_n dX3_drawThing_26 (Nat.le_of_ble_eq_true rfl) [(3, .int v9), (2, .int v6), (1, .int v3), (0, .ref s)] rfl ?_
  refine ov_aload_n dX3_drawThing_27 3 rfl ?_
  refine ov_iload_n dX3_drawThing_28 2 rfl ?_
  refine ov_iload_n dX3_drawThing_29 1 rfl ?_
  refine ov_iload_n dX3_drawThing_30 0 rfl ?_
  refine ov_callV [.int v3, .int v6, .int v9] dX3_drawThing_31 (c_X3_addThing hF) (Nat.le_of_ble_eq_true rfl) (Nat.le_of_ble_eq_true rfl) lk_X3_66 (ov_stk0 hs) rfl (Nat.le_of_ble_eq_true rfl) (Nat.le_refl _) (Nat.le_refl _) (fun rr σ11 hF => ?_)
  obtain ⟨v10, rfl, hF⟩ := hF
  show vv_X3_drawThing k 34 [(3, .int v9), (2, .int v6), (1, .int v3), (0, .ref s)] [.int v10] σ11
  refine ov_pop rfl dX3_drawThing_34 ?_
  exact ov_return dX3_drawThing_35 (Nat.le_refl _) (Nat.le_refl _) ⟨rfl, trivial, rfl, hF⟩
/-! X3_throwIn -/
abbrev vv_X3_throwIn (k : ovSt → Prop) (pc : Nat) (L : List (Nat × Value)) (st : List Value) (σ : ovSt) : Prop := ov_V (ovZs 1 yX3_throwIn cX3_throwIn 3) (ovKs none ov_S0 (ovKv k)) (0, 0) ov_S0 pc L st σ
def F_X3_throwIn (s : Nat) (x1 : Int32) (x2 : Int32) (σ : ovSt) (k : ovSt → Prop) : Prop := (ov_stk s ∧ (vp_in x1 8 ∧ (∀ σ2 : ovSt, σ2 = ov_up σ (s + 3) (Int32.toNatClampNeg x1) (ov_min ((σ (s + 3) (Int32.toNatClampNeg x1)) + x2) 99999) → (k σ2))))
set_option maxRecDepth 100000 in
set_option maxHeartbeats 4000000 in
theorem c_X3_throwIn {s : Nat} {x1 : Int32} {x2 : Int32} {σ : ovSt} {k : ovSt → Prop} (hF : F_X3_throwIn s x1 x2 σ k) : ov_Ct 1 yX3_throwIn cX3_throwIn 3 none ov_S0 [.ref s, .int x1, .int x2] σ (ovKv k) := by
  refine ov_Ct.of (by decide) (Nat.le_of_ble_eq_true rfl) ?_
  unfold F_X3_throwIn at hF
  have hs := hF.1
  have hF := hF.2
  show vv_X3_throwIn k 0 [(0, .ref s), (1, .int x1), (2, .int x2)] [] σ
  refine ov_aload_n dX3_throwIn_0 0 rfl ?_
  refine ov_getr (T := TX3) (kf := 3) dX3_throwIn_1 qf_X3_18 (ov_stk0 hs) rfl (Nat.le_of_ble_eq_true rfl) rfl (ov_stkn hs 3 (by decide)) ?_
  refine ov_iload_n dX3_throwIn_4 1 rfl ?_
  refine ov_aload_n dX3_throwIn_5 0 rfl ?_
  refine ov_getr (T := TX3) (kf := 3) dX3_throwIn_6 qf_X3_18 (ov_stk0 hs) rfl (Nat.le_of_ble_eq_true rfl) rfl (ov_stkn hs 3 (by decide)) ?_
  refine ov_iload_n dX3_throwIn_9 1 rfl ?_
  have h1 := hF.1
  have hF := hF.2
  refine ov_iaload dX3_throwIn_10 (ov_stk3 hs) h1 ?_
  refine ov_iload_n dX3_throwIn_11 2 rfl ?_
  refine ov_iadd dX3_throwIn_12 ?_
  refine ov_ldc dX3_throwIn_13 qc_X3_71 ?_
  refine ov_mmin dX3_throwIn_15 lk_X3_72 (Nat.le_of_ble_eq_true rfl) (Nat.le_of_ble_eq_true rfl) (Nat.le_refl _) (Nat.le_refl _) ?_
  refine ov_iastore dX3_throwIn_18 (ov_stk3 hs) h1 ?_
  refine ov_nmS (fun σ2 es2 => ?_)
  have hF := hF σ2 es2
  exact ov_return dX3_throwIn_19 (Nat.le_refl _) (Nat.le_refl _) ⟨rfl, trivial, rfl, hF⟩
/-! X3_resetThing -/
abbrev vv_X3_resetThing (k : ovSt → Prop) (pc : Nat) (L : List (Nat × Value)) (st : List Value) (σ : ovSt) : Prop := ov_V (ovZs 0 yX3_resetThing cX3_resetThing 3) (ovKs none ov_S0 (ovKv k)) (0, 0) ov_S0 pc L st σ
def F_X3_resetThing (s : Nat) (s1 : Nat) (x2 : Int32) (σ : ovSt) (k : ovSt → Prop) : Prop := (ov_stk s ∧ (ov_stk s1 ∧ (vp_in x2 8 ∧ (∀ σ2 : ovSt, σ2 = ov_up σ (s + 3) (Int32.toNatClampNeg x2) (σ (s1 + 3) (Int32.toNatClampNeg x2)) → (∀ σ3 : ovSt, σ3 = ov_up σ2 (s + 4) (Int32.toNatClampNeg x2) (σ2 (s1 + 4) (Int32.toNatClampNeg x2)) → (k σ3))))))
set_option maxRecDepth 100000 in
set_option maxHeartbeats 4000000 in
theorem c_X3_resetThing {s : Nat} {s1 : Nat} {x2 : Int32} {σ : ovSt} {k : ovSt → Prop} (hF : F_X3_resetThing s s1 x2 σ k) : ov_Ct 0 yX3_resetThing cX3_resetThing 3 none ov_S0 [.ref s, .ref s1, .int x2] σ (ovKv k) := by
  refine ov_Ct.of (by decide) (Nat.le_of_ble_eq_true rfl) ?_
  unfold F_X3_resetThing at hF
  have hs := hF.1
  have hF := hF.2
  have hs1 := hF.1
  have hF := hF.2
  show vv_X3_resetThing k 0 [(0, .ref s), (1, .ref s1), (2, .int x2)] [] σ
  refine ov_aload_n dX3_resetThing_0 0 rfl ?_
  refine ov_getr (T := TX3) (kf := 3) dX3_resetThing_1 qf_X3_18 (ov_stk0 hs) rfl (Nat.le_of_ble_eq_true rfl) rfl (ov_stkn hs 3 (by decide)) ?_
  refine ov_iload_n dX3_resetThing_4 2 rfl ?_
  refine ov_aload_n dX3_resetThing_5 1 rfl ?_
  refine ov_getr (T := TX3) (kf := 3) dX3_resetThing_6 qf_X3_18 (ov_stk0 hs1) rfl (Nat.le_of_ble_eq_true rfl) rfl (ov_stkn hs1 3 (by decide)) ?_
  refine ov_iload_n dX3_resetThing_9 2 rfl ?_
  have h1 := hF.1
  have hF := hF.2
  refine ov_iaload dX3_resetThing_10 (ov_stk3 hs1) h1 ?_
  refine ov_iastore dX3_resetThing_11 (ov_stk3 hs) h1 ?_
  refine ov_nmS (fun σ2 es2 => ?_)
  have hF := hF σ2 es2
  refine ov_aload_n dX3_resetThing_12 0 rfl ?_
  refine ov_getr (T := TX3) (kf := 4) dX3_resetThing_13 qf_X3_21 (ov_stk0 hs) rfl (Nat.le_of_ble_eq_true rfl) rfl (ov_stkn hs 4 (by decide)) ?_
  refine ov_iload_n dX3_resetThing_16 2 rfl ?_
  refine ov_aload_n dX3_resetThing_17 1 rfl ?_
  refine ov_getr (T := TX3) (kf := 4) dX3_resetThing_18 qf_X3_21 (ov_stk0 hs1) rfl (Nat.le_of_ble_eq_true rfl) rfl (ov_stkn hs1 4 (by decide)) ?_
  refine ov_iload_n dX3_resetThing_21 2 rfl ?_
  refine ov_iaload dX3_resetThing_22 (ov_stk4 hs1) h1 ?_
  refine ov_iastore dX3_resetThing_23 (ov_stk4 hs) h1 ?_
  refine ov_nmS (fun σ3 es3 => ?_)
  have hF := hF σ3 es3
  exact ov_return dX3_resetThing_24 (Nat.le_refl _) (Nat.le_refl _) ⟨rfl, trivial, rfl, hF⟩
/-! X3_halveAll -/
abbrev vv_X3_halveAll (k : ovSt → Prop) (pc : Nat) (L : List (Nat × Value)) (st : List Value) (σ : ovSt) : Prop := ov_V (ovZs 0 yX3_halveAll cX3_halveAll 2) (ovKs none ov_S0 (ovKv k)) (0, 0) ov_S0 pc L st σ
def F_X3_halveAll_2 (s : Nat) (k : ovSt → Prop) : Nat → Int32 → ovSt → Prop
  | 0 => fun _ _ => False
  | n + 1 => fun x1 σ => (if (σ s 6) ≤ x1 then (k σ) else (vp_in x1 8 ∧ (∀ σ2 : ovSt, σ2 = ov_up σ (s + 3) (Int32.toNatClampNeg x1) ((σ (s + 3) (Int32.toNatClampNeg x1)) / 2) → F_X3_halveAll_2 s k n (x1 + 1) σ2)))
set_option maxRecDepth 100000 in
set_option maxHeartbeats 4000000 in
theorem V_X3_halveAll_2 {k : ovSt → Prop} {s : Nat} (hs : ov_stk s) : ∀ (n : Nat) (x1 : Int32) (σ : ovSt), F_X3_halveAll_2 s k n x1 σ → vv_X3_halveAll k 2 [(0, .ref s), (1, .int x1)] [] σ := by
  intro n
  induction n with
  | zero => intro x1 σ hF; exact hF.elim
  | succ n ih =>
    intro x1 σ hF
    unfold F_X3_halveAll_2 at hF
    refine ov_iload_n dX3_halveAll_2 1 rfl ?_
    refine ov_aload_n dX3_halveAll_3 0 rfl ?_
    refine ov_geti (T := TX3) (kf := 6) dX3_halveAll_4 qf_X3_27 (ov_stk0 hs) rfl (Nat.le_of_ble_eq_true rfl) rfl ?_
    refine ov_icmp_ge 26 dX3_halveAll_7 (by decide) hF (fun hF => ?_) (fun hF => ?_)
    · exact ov_return dX3_halveAll_26 (Nat.le_refl _) (Nat.le_refl _) ⟨rfl, trivial, rfl, hF⟩
    · refine ov_aload_n dX3_halveAll_10 0 rfl ?_
      refine ov_getr (T := TX3) (kf := 3) dX3_halveAll_11 qf_X3_18 (ov_stk0 hs) rfl (Nat.le_of_ble_eq_true rfl) rfl (ov_stkn hs 3 (by decide)) ?_
      refine ov_iload_n dX3_halveAll_14 1 rfl ?_
      refine ov_dup2 rfl rfl dX3_halveAll_15 ?_
      have h1 := hF.1
      have hF := hF.2
      refine ov_iaload dX3_halveAll_16 (ov_stk3 hs) h1 ?_
      refine ov_iconst 2 (by decide) dX3_halveAll_17 ?_
      refine ov_idiv (by decide) dX3_halveAll_18 ?_
      refine ov_iastore dX3_halveAll_19 (ov_stk3 hs) h1 ?_
      refine ov_nmS (fun σ2 es2 => ?_)
      have hF := hF σ2 es2
      refine ov_iinc dX3_halveAll_20 1 rfl (x1 + 1) rfl (Nat.le_of_ble_eq_true rfl) [(1, .int (x1 + 1)), (0, .ref s)] rfl ?_
      refine ov_goto 2 dX3_halveAll_23 (by decide) ?_
      refine ov_pick [1, 0] [(0, .ref s), (1, .int (x1 + 1))] rfl ?_
      exact ih (x1 + 1) σ2 hF
def F_X3_halveAll (s : Nat) (σ : ovSt) (k : ovSt → Prop) : Prop := (ov_stk s ∧ (∃ n3, F_X3_halveAll_2 s k n3 0 σ))
set_option maxRecDepth 100000 in
set_option maxHeartbeats 4000000 in
theorem c_X3_halveAll {s : Nat} {σ : ovSt} {k : ovSt → Prop} (hF : F_X3_halveAll s σ k) : ov_Ct 0 yX3_halveAll cX3_halveAll 2 none ov_S0 [.ref s] σ (ovKv k) := by
  refine ov_Ct.of (by decide) (Nat.le_of_ble_eq_true rfl) ?_
  unfold F_X3_halveAll at hF
  have hs := hF.1
  have hF := hF.2
  show vv_X3_halveAll k 0 [(0, .ref s)] [] σ
  refine ov_iconst 0 (by decide) dX3_halveAll_0 ?_
  refine ov_istore_n dX3_halveAll_1 (Nat.le_of_ble_eq_true rfl) [(1, .int 0), (0, .ref s)] rfl ?_
  refine ov_pick [1, 0] [(0, .ref s), (1, .int 0)] rfl ?_
  obtain ⟨n3, hF⟩ := hF
  exact V_X3_halveAll_2 hs n3 0 σ hF
/-! X3_wearsAsHerb -/
abbrev vv_X3_wearsAsHerb (k : Int32 → ovSt → Prop) (pc : Nat) (L : List (Nat × Value)) (st : List Value) (σ : ovSt) : Prop := ov_V (ovZs 1 yX3_wearsAsHerb cX3_wearsAsHerb 2) (ovKs (some .int) ov_S0 (ovKi k)) (0, 0) ov_S0 pc L st σ
def F_X3_wearsAsHerb (s : Nat) (x1 : Int32) (σ : ovSt) (k : Int32 → ovSt → Prop) : Prop := (ov_stk s ∧ (vp_in x1 8 ∧ (k (ov_min (((σ (s + 3) (Int32.toNatClampNeg x1)) / 20) + 1) (σ (s + 3) (Int32.toNatClampNeg x1))) σ)))
set_option maxRecDepth 100000 in
set_option maxHeartbeats 4000000 in
theorem c_X3_wearsAsHerb {s : Nat} {x1 : Int32} {σ : ovSt} {k : Int32 → ovSt → Prop} (hF : F_X3_wearsAsHerb s x1 σ k) : ov_Ct 1 yX3_wearsAsHerb cX3_wearsAsHerb 2 (some .int) ov_S0 [.ref s, .int x1] σ (ovKi k) := by
  refine ov_Ct.of (by decide) (Nat.le_of_ble_eq_true rfl) ?_
  unfold F_X3_wearsAsHerb at hF
  have hs := hF.1
  have hF := hF.2
  show vv_X3_wearsAsHerb k 0 [(0, .ref s), (1, .int x1)] [] σ
  refine ov_aload_n dX3_wearsAsHerb_0 0 rfl ?_
  refine ov_getr (T := TX3) (kf := 3) dX3_wearsAsHerb_1 qf_X3_18 (ov_stk0 hs) rfl (Nat.le_of_ble_eq_true rfl) rfl (ov_stkn hs 3 (by decide)) ?_
  refine ov_iload_n dX3_wearsAsHerb_4 1 rfl ?_
  have h1 := hF.1
  have hF := hF.2
  refine ov_iaload dX3_wearsAsHerb_5 (ov_stk3 hs) h1 ?_
  refine ov_bipush 20 (by decide) dX3_wearsAsHerb_6 ?_
  refine ov_idiv (by decide) dX3_wearsAsHerb_8 ?_
  refine ov_iconst 1 (by decide) dX3_wearsAsHerb_9 ?_
  refine ov_iadd dX3_wearsAsHerb_10 ?_
  refine ov_aload_n dX3_wearsAsHerb_11 0 rfl ?_
  refine ov_getr (T := TX3) (kf := 3) dX3_wearsAsHerb_12 qf_X3_18 (ov_stk0 hs) rfl (Nat.le_of_ble_eq_true rfl) rfl (ov_stkn hs 3 (by decide)) ?_
  refine ov_iload_n dX3_wearsAsHerb_15 1 rfl ?_
  refine ov_iaload dX3_wearsAsHerb_16 (ov_stk3 hs) h1 ?_
  refine ov_mmin dX3_wearsAsHerb_17 lk_X3_72 (Nat.le_of_ble_eq_true rfl) (Nat.le_of_ble_eq_true rfl) (Nat.le_refl _) (Nat.le_refl _) ?_
  exact ov_ireturn dX3_wearsAsHerb_20 (Nat.le_refl _) (Nat.le_refl _) ⟨rfl, trivial, _, rfl, hF⟩
/-! X3_wearsOf -/
abbrev vv_X3_wearsOf (k : Int32 → ovSt → Prop) (pc : Nat) (L : List (Nat × Value)) (st : List Value) (σ : ovSt) : Prop := ov_V (ovZs 2 yX3_wearsOf cX3_wearsOf 2) (ovKs (some .int) ov_S0 (ovKi k)) (0, 0) ov_S0 pc L st σ
def F_X3_wearsOf (s : Nat) (x1 : Int32) (σ : ovSt) (k : Int32 → ovSt → Prop) : Prop := (ov_stk s ∧ (vp_in x1 8 ∧ (if (σ (s + 1) (Int32.toNatClampNeg x1)) = 1 then (k ((σ (s + 3) (Int32.toNatClampNeg x1)) / 100) σ) else (if (σ (s + 1) (Int32.toNatClampNeg x1)) = 2 then (F_X3_wearsAsHerb s x1 σ (fun v8 σ9 => (k v8 σ9))) else (if (σ (s + 1) (Int32.toNatClampNeg x1)) = 3 then (k ((σ (s + 3) (Int32.toNatClampNeg x1)) / 100) σ) else (if (σ (s + 1) (Int32.toNatClampNeg x1)) = 4 then (F_X3_wearsAsHerb s x1 σ (fun v6 σ7 => (k (ov_min (2 * v6) (σ7 (s + 3) (Int32.toNatClampNeg x1))) σ7))) else (k 0 σ)))))))
set_option maxRecDepth 100000 in
set_option maxHeartbeats 4000000 in
theorem c_X3_wearsOf {s : Nat} {x1 : Int32} {σ : ovSt} {k : Int32 → ovSt → Prop} (hF : F_X3_wearsOf s x1 σ k) : ov_Ct 2 yX3_wearsOf cX3_wearsOf 2 (some .int) ov_S0 [.ref s, .int x1] σ (ovKi k) := by
  refine ov_Ct.of (by decide) (Nat.le_of_ble_eq_true rfl) ?_
  unfold F_X3_wearsOf at hF
  have hs := hF.1
  have hF := hF.2
  show vv_X3_wearsOf k 0 [(0, .ref s), (1, .int x1)] [] σ
  refine ov_aload_n dX3_wearsOf_0 0 rfl ?_
  refine ov_getr (T := TX3) (kf := 1) dX3_wearsOf_1 qf_X3_9 (ov_stk0 hs) rfl (Nat.le_of_ble_eq_true rfl) rfl (ov_stkn hs 1 (by decide)) ?_
  refine ov_iload_n dX3_wearsOf_4 1 rfl ?_
  have h1 := hF.1
  have hF := hF.2
  refine ov_iaload dX3_wearsOf_5 (ov_stk1 hs) h1 ?_
  refine ov_br hF (fun z2 hF => ?_) (fun z2 hF => ?_)
  · refine ov_tin 1 30 36 dX3_wearsOf_6 z2 (by decide) (by decide) rfl (by decide) ?_
    refine ov_aload_n dX3_wearsOf_36 0 rfl ?_
    refine ov_getr (T := TX3) (kf := 3) dX3_wearsOf_37 qf_X3_18 (ov_stk0 hs) rfl (Nat.le_of_ble_eq_true rfl) rfl (ov_stkn hs 3 (by decide)) ?_
    refine ov_iload_n dX3_wearsOf_40 1 rfl ?_
    refine ov_iaload dX3_wearsOf_41 (ov_stk3 hs) h1 ?_
    refine ov_bipush 100 (by decide) dX3_wearsOf_42 ?_
    refine ov_idiv (by decide) dX3_wearsOf_44 ?_
    exact ov_ireturn dX3_wearsOf_45 (Nat.le_refl _) (Nat.le_refl _) ⟨rfl, trivial, _, rfl, hF⟩
  · refine ov_br hF (fun z3 hF => ?_) (fun z3 hF => ?_)
    · refine ov_tin 2 50 56 dX3_wearsOf_6 z3 (by decide) (by decide) rfl (by decide) ?_
      refine ov_aload_n dX3_wearsOf_56 0 rfl ?_
      refine ov_iload_n dX3_wearsOf_57 1 rfl ?_
      refine ov_callV [.int x1] dX3_wearsOf_58 (c_X3_wearsAsHerb hF) (Nat.le_of_ble_eq_true rfl) (Nat.le_of_ble_eq_true rfl) lk_X3_89 (ov_stk0 hs) rfl (Nat.le_of_ble_eq_true rfl) (Nat.le_refl _) (Nat.le_refl _) (fun rr σ9 hF => ?_)
      obtain ⟨v8, rfl, hF⟩ := hF
      show vv_X3_wearsOf k 61 [(0, .ref s), (1, .int x1)] [.int v8] σ9
      exact ov_ireturn dX3_wearsOf_61 (Nat.le_refl _) (Nat.le_refl _) ⟨rfl, trivial, _, rfl, hF⟩
    · refine ov_br hF (fun z4 hF => ?_) (fun z4 hF => ?_)
      · refine ov_tin 3 40 46 dX3_wearsOf_6 z4 (by decide) (by decide) rfl (by decide) ?_
        refine ov_aload_n dX3_wearsOf_46 0 rfl ?_
        refine ov_getr (T := TX3) (kf := 3) dX3_wearsOf_47 qf_X3_18 (ov_stk0 hs) rfl (Nat.le_of_ble_eq_true rfl) rfl (ov_stkn hs 3 (by decide)) ?_
        refine ov_iload_n dX3_wearsOf_50 1 rfl ?_
        refine ov_iaload dX3_wearsOf_51 (ov_stk3 hs) h1 ?_
        refine ov_bipush 100 (by decide) dX3_wearsOf_52 ?_
        refine ov_idiv (by decide) dX3_wearsOf_54 ?_
        exact ov_ireturn dX3_wearsOf_55 (Nat.le_refl _) (Nat.le_refl _) ⟨rfl, trivial, _, rfl, hF⟩
      · refine ov_br hF (fun z5 hF => ?_) (fun z5 hF => ?_)
        · refine ov_tin 4 56 62 dX3_wearsOf_6 z5 (by decide) (by decide) rfl (by decide) ?_
          refine ov_iconst 2 (by decide) dX3_wearsOf_62 ?_
          refine ov_aload_n dX3_wearsOf_63 0 rfl ?_
          refine ov_iload_n dX3_wearsOf_64 1 rfl ?_
          refine ov_callV [.int x1] dX3_wearsOf_65 (c_X3_wearsAsHerb hF) (Nat.le_of_ble_eq_true rfl) (Nat.le_of_ble_eq_true rfl) lk_X3_89 (ov_stk0 hs) rfl (Nat.le_of_ble_eq_true rfl) (Nat.le_refl _) (Nat.le_refl _) (fun rr σ7 hF => ?_)
          obtain ⟨v6, rfl, hF⟩ := hF
          show vv_X3_wearsOf k 68 [(0, .ref s), (1, .int x1)] [.int v6, .int 2] σ7
          refine ov_imul dX3_wearsOf_68 ?_
          refine ov_aload_n dX3_wearsOf_69 0 rfl ?_
          refine ov_getr (T := TX3) (kf := 3) dX3_wearsOf_70 qf_X3_18 (ov_stk0 hs) rfl (Nat.le_of_ble_eq_true rfl) rfl (ov_stkn hs 3 (by decide)) ?_
          refine ov_iload_n dX3_wearsOf_73 1 rfl ?_
          refine ov_iaload dX3_wearsOf_74 (ov_stk3 hs) h1 ?_
          refine ov_mmin dX3_wearsOf_75 lk_X3_72 (Nat.le_of_ble_eq_true rfl) (Nat.le_of_ble_eq_true rfl) (Nat.le_refl _) (Nat.le_refl _) ?_
          exact ov_ireturn dX3_wearsOf_78 (Nat.le_refl _) (Nat.le_refl _) ⟨rfl, trivial, _, rfl, hF⟩
        · refine ov_tout 79 dX3_wearsOf_6 (by have q0 := lv_neT (k := 1) (a := 1) z2 rfl; have q1 := lv_neT (k := 2) (a := 2) z3 rfl; have q2 := lv_neT (k := 3) (a := 3) z4 rfl; have q3 := lv_neT (k := 4) (a := 4) z5 rfl; omega) (by decide) ?_
          refine ov_iconst 0 (by decide) dX3_wearsOf_79 ?_
          exact ov_ireturn dX3_wearsOf_80 (Nat.le_refl _) (Nat.le_refl _) ⟨rfl, trivial, _, rfl, hF⟩
/-! X3_passDayOf -/
abbrev vv_X3_passDayOf (k : ovSt → Prop) (pc : Nat) (L : List (Nat × Value)) (st : List Value) (σ : ovSt) : Prop := ov_V (ovZs 3 yX3_passDayOf cX3_passDayOf 4) (ovKs none ov_S0 (ovKv k)) (0, 0) ov_S0 pc L st σ
def F_X3_passDayOf_120 (s : Nat) (k : ovSt → Prop) (t0 : Int32) (t1 : Int32) (σ : ovSt) : Prop := (vp_in t1 8 ∧ (∀ σ2 : ovSt, σ2 = ov_up σ (s + 4) (Int32.toNatClampNeg t1) t0 → (k σ2)))
set_option maxRecDepth 100000 in
set_option maxHeartbeats 4000000 in
theorem V_X3_passDayOf_120 {k : ovSt → Prop} {s : Nat} (hs : ov_stk s) (t0 : Int32) (t1 : Int32) (σ : ovSt) (hF : F_X3_passDayOf_120 s k t0 t1 σ) : vv_X3_passDayOf k 120 [] [.int t0, .int t1, .ref (s + 4)] σ := by
  unfold F_X3_passDayOf_120 at hF
  have h1 := hF.1
  have hF := hF.2
  refine ov_iastore dX3_passDayOf_120 (ov_stk4 hs) h1 ?_
  refine ov_nmS (fun σ2 es2 => ?_)
  have hF := hF σ2 es2
  exact ov_return dX3_passDayOf_121 (Nat.le_refl _) (Nat.le_refl _) ⟨rfl, trivial, rfl, hF⟩
def F_X3_passDayOf_42 (s : Nat) (k : ovSt → Prop) (x1 : Int32) (x2 : Int32) (σ : ovSt) : Prop := (vp_in x1 8 ∧ (∀ σ4 : ovSt, σ4 = ov_up σ (s + 3) (Int32.toNatClampNeg x1) ((σ (s + 3) (Int32.toNatClampNeg x1)) - x2) → (∀ σ5 : ovSt, σ5 = ov_up σ4 s 10 ((σ4 s 10) + x2) → (F_X3_wearsOf s x1 σ5 (fun v6 σ7 => (∀ σ8 : ovSt, σ8 = ov_up σ7 (s + 3) (Int32.toNatClampNeg x1) ((σ7 (s + 3) (Int32.toNatClampNeg x1)) - v6) → (∀ σ9 : ovSt, σ9 = ov_up σ8 s 11 ((σ8 s 11) + v6) → (if (σ9 (s + 3) (Int32.toNatClampNeg x1)) ≤ 0 then (F_X3_passDayOf_120 s k 0 x1 σ9) else (F_X3_passDayOf_120 s k (ov_min ((σ9 (s + 4) (Int32.toNatClampNeg x1)) + 1) 9999) x1 σ9)))))))))
set_option maxRecDepth 100000 in
set_option maxHeartbeats 4000000 in
theorem V_X3_passDayOf_42 {k : ovSt → Prop} {s : Nat} (hs : ov_stk s) (x1 : Int32) (x2 : Int32) (σ : ovSt) (hF : F_X3_passDayOf_42 s k x1 x2 σ) : vv_X3_passDayOf k 42 [(0, .ref s), (1, .int x1), (2, .int x2)] [] σ := by
  unfold F_X3_passDayOf_42 at hF
  refine ov_aload_n dX3_passDayOf_42 0 rfl ?_
  refine ov_getr (T := TX3) (kf := 3) dX3_passDayOf_43 qf_X3_18 (ov_stk0 hs) rfl (Nat.le_of_ble_eq_true rfl) rfl (ov_stkn hs 3 (by decide)) ?_
  refine ov_iload_n dX3_passDayOf_46 1 rfl ?_
  refine ov_dup2 rfl rfl dX3_passDayOf_47 ?_
  have h3 := hF.1
  have hF := hF.2
  refine ov_iaload dX3_passDayOf_48 (ov_stk3 hs) h3 ?_
  refine ov_iload_n dX3_passDayOf_49 2 rfl ?_
  refine ov_isub dX3_passDayOf_50 ?_
  refine ov_iastore dX3_passDayOf_51 (ov_stk3 hs) h3 ?_
  refine ov_nmS (fun σ4 es4 => ?_)
  have hF := hF σ4 es4
  refine ov_aload_n dX3_passDayOf_52 0 rfl ?_
  refine ov_dup rfl dX3_passDayOf_53 ?_
  refine ov_geti (T := TX3) (kf := 10) dX3_passDayOf_54 qf_X3_40 (ov_stk0 hs) rfl (Nat.le_of_ble_eq_true rfl) rfl ?_
  refine ov_iload_n dX3_passDayOf_57 2 rfl ?_
  refine ov_iadd dX3_passDayOf_58 ?_
  refine ov_puti (T := TX3) (kf := 10) dX3_passDayOf_59 qf_X3_40 (ov_stk0 hs) rfl (Nat.le_of_ble_eq_true rfl) rfl rfl (by decide +kernel) ?_
  refine ov_nmS (fun σ5 es5 => ?_)
  have hF := hF σ5 es5
  refine ov_aload_n dX3_passDayOf_62 0 rfl ?_
  refine ov_iload_n dX3_passDayOf_63 1 rfl ?_
  refine ov_callV [.int x1] dX3_passDayOf_64 (c_X3_wearsOf hF) (Nat.le_of_ble_eq_true rfl) (Nat.le_of_ble_eq_true rfl) lk_X3_85 (ov_stk0 hs) rfl (Nat.le_of_ble_eq_true rfl) (Nat.le_refl _) (Nat.le_refl _) (fun rr σ7 hF => ?_)
  obtain ⟨v6, rfl, hF⟩ := hF
  show vv_X3_passDayOf k 67 [(0, .ref s), (1, .int x1), (2, .int x2)] [.int v6] σ7
  refine ov_istore_n dX3_passDayOf_67 (Nat.le_of_ble_eq_true rfl) [(3, .int v6), (0, .ref s), (1, .int x1), (2, .int x2)] rfl ?_
  refine ov_aload_n dX3_passDayOf_68 1 rfl ?_
  refine ov_getr (T := TX3) (kf := 3) dX3_passDayOf_69 qf_X3_18 (ov_stk0 hs) rfl (Nat.le_of_ble_eq_true rfl) rfl (ov_stkn hs 3 (by decide)) ?_
  refine ov_iload_n dX3_passDayOf_72 2 rfl ?_
  refine ov_dup2 rfl rfl dX3_passDayOf_73 ?_
  refine ov_iaload dX3_passDayOf_74 (ov_stk3 hs) h3 ?_
  refine ov_iload_n dX3_passDayOf_75 0 rfl ?_
  refine ov_isub dX3_passDayOf_76 ?_
  refine ov_iastore dX3_passDayOf_77 (ov_stk3 hs) h3 ?_
  refine ov_nmS (fun σ8 es8 => ?_)
  have hF := hF σ8 es8
  refine ov_aload_n dX3_passDayOf_78 1 rfl ?_
  refine ov_dup rfl dX3_passDayOf_79 ?_
  refine ov_geti (T := TX3) (kf := 11) dX3_passDayOf_80 qf_X3_43 (ov_stk0 hs) rfl (Nat.le_of_ble_eq_true rfl) rfl ?_
  refine ov_iload_n dX3_passDayOf_83 0 rfl ?_
  refine ov_iadd dX3_passDayOf_84 ?_
  refine ov_puti (T := TX3) (kf := 11) dX3_passDayOf_85 qf_X3_43 (ov_stk0 hs) rfl (Nat.le_of_ble_eq_true rfl) rfl rfl (by decide +kernel) ?_
  refine ov_nmS (fun σ9 es9 => ?_)
  have hF := hF σ9 es9
  refine ov_aload_n dX3_passDayOf_88 1 rfl ?_
  refine ov_getr (T := TX3) (kf := 4) dX3_passDayOf_89 qf_X3_21 (ov_stk0 hs) rfl (Nat.le_of_ble_eq_true rfl) rfl (ov_stkn hs 4 (by decide)) ?_
  refine ov_iload_n dX3_passDayOf_92 2 rfl ?_
  refine ov_aload_n dX3_passDayOf_93 1 rfl ?_
  refine ov_getr (T := TX3) (kf := 3) dX3_passDayOf_94 qf_X3_18 (ov_stk0 hs) rfl (Nat.le_of_ble_eq_true rfl) rfl (ov_stkn hs 3 (by decide)) ?_
  refine ov_iload_n dX3_passDayOf_97 2 rfl ?_
  refine ov_iaload dX3_passDayOf_98 (ov_stk3 hs) h3 ?_
  refine ov_if_le 119 dX3_passDayOf_99 (by decide) hF (fun hF => ?_) (fun hF => ?_)
  · refine ov_iconst 0 (by decide) dX3_passDayOf_119 ?_
    refine ov_pick [] [] rfl ?_
    exact V_X3_passDayOf_120 hs 0 x1 σ9 hF
  · refine ov_aload_n dX3_passDayOf_102 1 rfl ?_
    refine ov_getr (T := TX3) (kf := 4) dX3_passDayOf_103 qf_X3_21 (ov_stk0 hs) rfl (Nat.le_of_ble_eq_true rfl) rfl (ov_stkn hs 4 (by decide)) ?_
    refine ov_iload_n dX3_passDayOf_106 2 rfl ?_
    refine ov_iaload dX3_passDayOf_107 (ov_stk4 hs) h3 ?_
    refine ov_iconst 1 (by decide) dX3_passDayOf_108 ?_
    refine ov_iadd dX3_passDayOf_109 ?_
    refine ov_sipush 9999 (by decide) dX3_passDayOf_110 ?_
    refine ov_mmin dX3_passDayOf_113 lk_X3_72 (Nat.le_of_ble_eq_true rfl) (Nat.le_of_ble_eq_true rfl) (Nat.le_refl _) (Nat.le_refl _) ?_
    refine ov_goto 120 dX3_passDayOf_116 (by decide) ?_
    refine ov_pick [] [] rfl ?_
    exact V_X3_passDayOf_120 hs (ov_min ((σ9 (s + 4) (Int32.toNatClampNeg x1)) + 1) 9999) x1 σ9 hF
def F_X3_passDayOf (s : Nat) (x1 : Int32) (σ : ovSt) (k : ovSt → Prop) : Prop := (ov_stk s ∧ (vp_in x1 8 ∧ (∀ v11 : Int32, v11 = (σ (s + 3) (Int32.toNatClampNeg x1)) → (if (σ s 7) ≤ 0 then (F_X3_passDayOf_42 s k x1 v11 σ) else (if (σ s 7) ≤ (σ s 8) then (F_X3_passDayOf_42 s k x1 v11 σ) else (¬ (σ s 7) = 0 ∧ (∀ v13 : Int32, v13 = (((σ (s + 3) (Int32.toNatClampNeg x1)) * (σ s 8)) / (σ s 7)) → (F_X3_passDayOf_42 s k x1 v13 σ))))))))
set_option maxRecDepth 100000 in
set_option maxHeartbeats 4000000 in
theorem c_X3_passDayOf {s : Nat} {x1 : Int32} {σ : ovSt} {k : ovSt → Prop} (hF : F_X3_passDayOf s x1 σ k) : ov_Ct 3 yX3_passDayOf cX3_passDayOf 4 none ov_S0 [.ref s, .int x1] σ (ovKv k) := by
  refine ov_Ct.of (by decide) (Nat.le_of_ble_eq_true rfl) ?_
  unfold F_X3_passDayOf at hF
  have hs := hF.1
  have hF := hF.2
  show vv_X3_passDayOf k 0 [(0, .ref s), (1, .int x1)] [] σ
  refine ov_aload_n dX3_passDayOf_0 0 rfl ?_
  refine ov_getr (T := TX3) (kf := 3) dX3_passDayOf_1 qf_X3_18 (ov_stk0 hs) rfl (Nat.le_of_ble_eq_true rfl) rfl (ov_stkn hs 3 (by decide)) ?_
  refine ov_iload_n dX3_passDayOf_4 1 rfl ?_
  have h10 := hF.1
  have hF := hF.2
  refine ov_iaload dX3_passDayOf_5 (ov_stk3 hs) h10 ?_
  refine ov_nmI (fun v11 ev11 => ?_)
  have hF := hF v11 ev11
  refine ov_istore_n dX3_passDayOf_6 (Nat.le_of_ble_eq_true rfl) [(2, .int v11), (0, .ref s), (1, .int x1)] rfl ?_
  refine ov_aload_n dX3_passDayOf_7 1 rfl ?_
  refine ov_geti (T := TX3) (kf := 7) dX3_passDayOf_8 qf_X3_31 (ov_stk0 hs) rfl (Nat.le_of_ble_eq_true rfl) rfl ?_
  refine ov_if_le 42 dX3_passDayOf_11 (by decide) hF (fun hF => ?_) (fun hF => ?_)
  · refine ov_pick [1, 2, 0] [(0, .ref s), (1, .int x1), (2, .int v11)] rfl ?_
    exact V_X3_passDayOf_42 hs x1 v11 σ hF
  · refine ov_aload_n dX3_passDayOf_14 1 rfl ?_
    refine ov_geti (T := TX3) (kf := 8) dX3_passDayOf_15 qf_X3_34 (ov_stk0 hs) rfl (Nat.le_of_ble_eq_true rfl) rfl ?_
    refine ov_aload_n dX3_passDayOf_18 1 rfl ?_
    refine ov_geti (T := TX3) (kf := 7) dX3_passDayOf_19 qf_X3_31 (ov_stk0 hs) rfl (Nat.le_of_ble_eq_true rfl) rfl ?_
    refine ov_icmp_ge 42 dX3_passDayOf_22 (by decide) hF (fun hF => ?_) (fun hF => ?_)
    · refine ov_pick [1, 2, 0] [(0, .ref s), (1, .int x1), (2, .int v11)] rfl ?_
      exact V_X3_passDayOf_42 hs x1 v11 σ hF
    · refine ov_aload_n dX3_passDayOf_25 1 rfl ?_
      refine ov_getr (T := TX3) (kf := 3) dX3_passDayOf_26 qf_X3_18 (ov_stk0 hs) rfl (Nat.le_of_ble_eq_true rfl) rfl (ov_stkn hs 3 (by decide)) ?_
      refine ov_iload_n dX3_passDayOf_29 2 rfl ?_
      refine ov_iaload dX3_passDayOf_30 (ov_stk3 hs) h10 ?_
      refine ov_aload_n dX3_passDayOf_31 1 rfl ?_
      refine ov_geti (T := TX3) (kf := 8) dX3_passDayOf_32 qf_X3_34 (ov_stk0 hs) rfl (Nat.le_of_ble_eq_true rfl) rfl ?_
      refine ov_imul dX3_passDayOf_35 ?_
      refine ov_aload_n dX3_passDayOf_36 1 rfl ?_
      refine ov_geti (T := TX3) (kf := 7) dX3_passDayOf_37 qf_X3_31 (ov_stk0 hs) rfl (Nat.le_of_ble_eq_true rfl) rfl ?_
      have h12 := hF.1
      have hF := hF.2
      refine ov_idiv h12 dX3_passDayOf_40 ?_
      refine ov_nmI (fun v13 ev13 => ?_)
      have hF := hF v13 ev13
      refine ov_istore_n dX3_passDayOf_41 (Nat.le_of_ble_eq_true rfl) [(2, .int v13), (0, .ref s), (1, .int x1)] rfl ?_
      refine ov_pick [1, 2, 0] [(0, .ref s), (1, .int x1), (2, .int v13)] rfl ?_
      exact V_X3_passDayOf_42 hs x1 v13 σ hF
/-! X3_passDay -/
abbrev vv_X3_passDay (k : ovSt → Prop) (pc : Nat) (L : List (Nat × Value)) (st : List Value) (σ : ovSt) : Prop := ov_V (ovZs 4 yX3_passDay cX3_passDay 2) (ovKs none ov_S0 (ovKv k)) (0, 0) ov_S0 pc L st σ
def F_X3_passDay_2 (s : Nat) (k : ovSt → Prop) : Nat → Int32 → ovSt → Prop
  | 0 => fun _ _ => False
  | n + 1 => fun x1 σ => (if (σ s 6) ≤ x1 then (∀ σ1 : ovSt, σ1 = ov_up σ s 9 ((σ s 9) + 1) → (k σ1)) else (F_X3_passDayOf s x1 σ (fun σ3 => F_X3_passDay_2 s k n (x1 + 1) σ3)))
set_option maxRecDepth 100000 in
set_option maxHeartbeats 4000000 in
theorem V_X3_passDay_2 {k : ovSt → Prop} {s : Nat} (hs : ov_stk s) : ∀ (n : Nat) (x1 : Int32) (σ : ovSt), F_X3_passDay_2 s k n x1 σ → vv_X3_passDay k 2 [(0, .ref s), (1, .int x1)] [] σ := by
  intro n
  induction n with
  | zero => intro x1 σ hF; exact hF.elim
  | succ n ih =>
    intro x1 σ hF
    unfold F_X3_passDay_2 at hF
    refine ov_iload_n dX3_passDay_2 1 rfl ?_
    refine ov_aload_n dX3_passDay_3 0 rfl ?_
    refine ov_geti (T := TX3) (kf := 6) dX3_passDay_4 qf_X3_27 (ov_stk0 hs) rfl (Nat.le_of_ble_eq_true rfl) rfl ?_
    refine ov_icmp_ge 21 dX3_passDay_7 (by decide) hF (fun hF => ?_) (fun hF => ?_)
    · refine ov_aload_n dX3_passDay_21 0 rfl ?_
      refine ov_dup rfl dX3_passDay_22 ?_
      refine ov_geti (T := TX3) (kf := 9) dX3_passDay_23 qf_X3_37 (ov_stk0 hs) rfl (Nat.le_of_ble_eq_true rfl) rfl ?_
      refine ov_iconst 1 (by decide) dX3_passDay_26 ?_
      refine ov_iadd dX3_passDay_27 ?_
      refine ov_puti (T := TX3) (kf := 9) dX3_passDay_28 qf_X3_37 (ov_stk0 hs) rfl (Nat.le_of_ble_eq_true rfl) rfl rfl (by decide +kernel) ?_
      refine ov_nmS (fun σ1 es1 => ?_)
      have hF := hF σ1 es1
      exact ov_return dX3_passDay_31 (Nat.le_refl _) (Nat.le_refl _) ⟨rfl, trivial, rfl, hF⟩
    · refine ov_aload_n dX3_passDay_10 0 rfl ?_
      refine ov_iload_n dX3_passDay_11 1 rfl ?_
      refine ov_callV [.int x1] dX3_passDay_12 (c_X3_passDayOf hF) (Nat.le_of_ble_eq_true rfl) (Nat.le_of_ble_eq_true rfl) lk_X3_81 (ov_stk0 hs) rfl (Nat.le_of_ble_eq_true rfl) (Nat.le_refl _) (Nat.le_refl _) (fun rr σ3 hF => ?_)
      obtain ⟨rfl, hF⟩ := hF
      show vv_X3_passDay k 15 [(0, .ref s), (1, .int x1)] [] σ3
      refine ov_iinc dX3_passDay_15 1 rfl (x1 + 1) rfl (Nat.le_of_ble_eq_true rfl) [(1, .int (x1 + 1)), (0, .ref s)] rfl ?_
      refine ov_goto 2 dX3_passDay_18 (by decide) ?_
      refine ov_pick [1, 0] [(0, .ref s), (1, .int (x1 + 1))] rfl ?_
      exact ih (x1 + 1) σ3 hF
def F_X3_passDay (s : Nat) (σ : ovSt) (k : ovSt → Prop) : Prop := (ov_stk s ∧ (∃ n4, F_X3_passDay_2 s k n4 0 σ))
set_option maxRecDepth 100000 in
set_option maxHeartbeats 4000000 in
theorem c_X3_passDay {s : Nat} {σ : ovSt} {k : ovSt → Prop} (hF : F_X3_passDay s σ k) : ov_Ct 4 yX3_passDay cX3_passDay 2 none ov_S0 [.ref s] σ (ovKv k) := by
  refine ov_Ct.of (by decide) (Nat.le_of_ble_eq_true rfl) ?_
  unfold F_X3_passDay at hF
  have hs := hF.1
  have hF := hF.2
  show vv_X3_passDay k 0 [(0, .ref s)] [] σ
  refine ov_iconst 0 (by decide) dX3_passDay_0 ?_
  refine ov_istore_n dX3_passDay_1 (Nat.le_of_ble_eq_true rfl) [(1, .int 0), (0, .ref s)] rfl ?_
  refine ov_pick [1, 0] [(0, .ref s), (1, .int 0)] rfl ?_
  obtain ⟨n4, hF⟩ := hF
  exact V_X3_passDay_2 hs n4 0 σ hF
/-! X3_passDays -/
abbrev vv_X3_passDays (k : ovSt → Prop) (pc : Nat) (L : List (Nat × Value)) (st : List Value) (σ : ovSt) : Prop := ov_V (ovZs 5 yX3_passDays cX3_passDays 3) (ovKs none ov_S0 (ovKv k)) (0, 0) ov_S0 pc L st σ
def F_X3_passDays_2 (s : Nat) (k : ovSt → Prop) : Nat → Int32 → Int32 → ovSt → Prop
  | 0 => fun _ _ _ => False
  | n + 1 => fun x1 x2 σ => (if x1 ≤ x2 then (k σ) else (F_X3_passDay s σ (fun σ2 => F_X3_passDays_2 s k n x1 (x2 + 1) σ2)))
set_option maxRecDepth 100000 in
set_option maxHeartbeats 4000000 in
theorem V_X3_passDays_2 {k : ovSt → Prop} {s : Nat} (hs : ov_stk s) : ∀ (n : Nat) (x1 : Int32) (x2 : Int32) (σ : ovSt), F_X3_passDays_2 s k n x1 x2 σ → vv_X3_passDays k 2 [(0, .ref s), (1, .int x1), (2, .int x2)] [] σ := by
  intro n
  induction n with
  | zero => intro x1 x2 σ hF; exact hF.elim
  | succ n ih =>
    intro x1 x2 σ hF
    unfold F_X3_passDays_2 at hF
    refine ov_iload_n dX3_passDays_2 2 rfl ?_
    refine ov_iload_n dX3_passDays_3 1 rfl ?_
    refine ov_icmp_ge 17 dX3_passDays_4 (by decide) hF (fun hF => ?_) (fun hF => ?_)
    · exact ov_return dX3_passDays_17 (Nat.le_refl _) (Nat.le_refl _) ⟨rfl, trivial, rfl, hF⟩
    · refine ov_aload_n dX3_passDays_7 0 rfl ?_
      refine ov_callV [] dX3_passDays_8 (c_X3_passDay hF) (Nat.le_of_ble_eq_true rfl) (Nat.le_of_ble_eq_true rfl) lk_X3_78 (ov_stk0 hs) rfl (Nat.le_of_ble_eq_true rfl) (Nat.le_refl _) (Nat.le_refl _) (fun rr σ2 hF => ?_)
      obtain ⟨rfl, hF⟩ := hF
      show vv_X3_passDays k 11 [(0, .ref s), (1, .int x1), (2, .int x2)] [] σ2
      refine ov_iinc dX3_passDays_11 2 rfl (x2 + 1) rfl (Nat.le_of_ble_eq_true rfl) [(2, .int (x2 + 1)), (0, .ref s), (1, .int x1)] rfl ?_
      refine ov_goto 2 dX3_passDays_14 (by decide) ?_
      refine ov_pick [1, 2, 0] [(0, .ref s), (1, .int x1), (2, .int (x2 + 1))] rfl ?_
      exact ih x1 (x2 + 1) σ2 hF
def F_X3_passDays (s : Nat) (x1 : Int32) (σ : ovSt) (k : ovSt → Prop) : Prop := (ov_stk s ∧ (∃ n3, F_X3_passDays_2 s k n3 x1 0 σ))
set_option maxRecDepth 100000 in
set_option maxHeartbeats 4000000 in
theorem c_X3_passDays {s : Nat} {x1 : Int32} {σ : ovSt} {k : ovSt → Prop} (hF : F_X3_passDays s x1 σ k) : ov_Ct 5 yX3_passDays cX3_passDays 3 none ov_S0 [.ref s, .int x1] σ (ovKv k) := by
  refine ov_Ct.of (by decide) (Nat.le_of_ble_eq_true rfl) ?_
  unfold F_X3_passDays at hF
  have hs := hF.1
  have hF := hF.2
  show vv_X3_passDays k 0 [(0, .ref s), (1, .int x1)] [] σ
  refine ov_iconst 0 (by decide) dX3_passDays_0 ?_
  refine ov_istore_n dX3_passDays_1 (Nat.le_of_ble_eq_true rfl) [(2, .int 0), (0, .ref s), (1, .int x1)] rfl ?_
  refine ov_pick [1, 2, 0] [(0, .ref s), (1, .int x1), (2, .int 0)] rfl ?_
  obtain ⟨n3, hF⟩ := hF
  exact V_X3_passDays_2 hs n3 x1 0 σ hF
/-! X3_passDaysOf -/
abbrev vv_X3_passDaysOf (k : ovSt → Prop) (pc : Nat) (L : List (Nat × Value)) (st : List Value) (σ : ovSt) : Prop := ov_V (ovZs 4 yX3_passDaysOf cX3_passDaysOf 4) (ovKs none ov_S0 (ovKv k)) (0, 0) ov_S0 pc L st σ
def F_X3_passDaysOf_2 (s : Nat) (k : ovSt → Prop) : Nat → Int32 → Int32 → Int32 → ovSt → Prop
  | 0 => fun _ _ _ _ => False
  | n + 1 => fun x1 x2 x3 σ => (if x2 ≤ x3 then (k σ) else (F_X3_passDayOf s x1 σ (fun σ2 => F_X3_passDaysOf_2 s k n x1 x2 (x3 + 1) σ2)))
set_option maxRecDepth 100000 in
set_option maxHeartbeats 4000000 in
theorem V_X3_passDaysOf_2 {k : ovSt → Prop} {s : Nat} (hs : ov_stk s) : ∀ (n : Nat) (x1 : Int32) (x2 : Int32) (x3 : Int32) (σ : ovSt), F_X3_passDaysOf_2 s k n x1 x2 x3 σ → vv_X3_passDaysOf k 2 [(0, .ref s), (1, .int x1), (2, .int x2), (3, .int x3)] [] σ := by
  intro n
  induction n with
  | zero => intro x1 x2 x3 σ hF; exact hF.elim
  | succ n ih =>
    intro x1 x2 x3 σ hF
    unfold F_X3_passDaysOf_2 at hF
    refine ov_iload_n dX3_passDaysOf_2 3 rfl ?_
    refine ov_iload_n dX3_passDaysOf_3 2 rfl ?_
    refine ov_icmp_ge 18 dX3_passDaysOf_4 (by decide) hF (fun hF => ?_) (fun hF => ?_)
    · exact ov_return dX3_passDaysOf_18 (Nat.le_refl _) (Nat.le_refl _) ⟨rfl, trivial, rfl, hF⟩
    · refine ov_aload_n dX3_passDaysOf_7 0 rfl ?_
      refine ov_iload_n dX3_passDaysOf_8 1 rfl ?_
      refine ov_callV [.int x1] dX3_passDaysOf_9 (c_X3_passDayOf hF) (Nat.le_of_ble_eq_true rfl) (Nat.le_of_ble_eq_true rfl) lk_X3_81 (ov_stk0 hs) rfl (Nat.le_of_ble_eq_true rfl) (Nat.le_refl _) (Nat.le_refl _) (fun rr σ2 hF => ?_)
      obtain ⟨rfl, hF⟩ := hF
      show vv_X3_passDaysOf k 12 [(0, .ref s), (1, .int x1), (2, .int x2), (3, .int x3)] [] σ2
      refine ov_iinc dX3_passDaysOf_12 3 rfl (x3 + 1) rfl (Nat.le_of_ble_eq_true rfl) [(3, .int (x3 + 1)), (0, .ref s), (1, .int x1), (2, .int x2)] rfl ?_
      refine ov_goto 2 dX3_passDaysOf_15 (by decide) ?_
      refine ov_pick [1, 2, 3, 0] [(0, .ref s), (1, .int x1), (2, .int x2), (3, .int (x3 + 1))] rfl ?_
      exact ih x1 x2 (x3 + 1) σ2 hF
def F_X3_passDaysOf (s : Nat) (x1 : Int32) (x2 : Int32) (σ : ovSt) (k : ovSt → Prop) : Prop := (ov_stk s ∧ (∃ n3, F_X3_passDaysOf_2 s k n3 x1 x2 0 σ))
set_option maxRecDepth 100000 in
set_option maxHeartbeats 4000000 in
theorem c_X3_passDaysOf {s : Nat} {x1 : Int32} {x2 : Int32} {σ : ovSt} {k : ovSt → Prop} (hF : F_X3_passDaysOf s x1 x2 σ k) : ov_Ct 4 yX3_passDaysOf cX3_passDaysOf 4 none ov_S0 [.ref s, .int x1, .int x2] σ (ovKv k) := by
  refine ov_Ct.of (by decide) (Nat.le_of_ble_eq_true rfl) ?_
  unfold F_X3_passDaysOf at hF
  have hs := hF.1
  have hF := hF.2
  show vv_X3_passDaysOf k 0 [(0, .ref s), (1, .int x1), (2, .int x2)] [] σ
  refine ov_iconst 0 (by decide) dX3_passDaysOf_0 ?_
  refine ov_istore_n dX3_passDaysOf_1 (Nat.le_of_ble_eq_true rfl) [(3, .int 0), (0, .ref s), (1, .int x1), (2, .int x2)] rfl ?_
  refine ov_pick [1, 2, 3, 0] [(0, .ref s), (1, .int x1), (2, .int x2), (3, .int 0)] rfl ?_
  obtain ⟨n3, hF⟩ := hF
  exact V_X3_passDaysOf_2 hs n3 x1 x2 0 σ hF
/-! X3_tasteAsThing -/
abbrev vv_X3_tasteAsThing (k : Int32 → ovSt → Prop) (pc : Nat) (L : List (Nat × Value)) (st : List Value) (σ : ovSt) : Prop := ov_V (ovZs 0 yX3_tasteAsThing cX3_tasteAsThing 2) (ovKs (some .int) ov_S0 (ovKi k)) (0, 0) ov_S0 pc L st σ
def F_X3_tasteAsThing (s : Nat) (x1 : Int32) (σ : ovSt) (k : Int32 → ovSt → Prop) : Prop := (ov_stk s ∧ (vp_in x1 8 ∧ (k (((σ (s + 3) (Int32.toNatClampNeg x1)) * (σ (s + 2) (Int32.toNatClampNeg x1))) / 100) σ)))
set_option maxRecDepth 100000 in
set_option maxHeartbeats 4000000 in
theorem c_X3_tasteAsThing {s : Nat} {x1 : Int32} {σ : ovSt} {k : Int32 → ovSt → Prop} (hF : F_X3_tasteAsThing s x1 σ k) : ov_Ct 0 yX3_tasteAsThing cX3_tasteAsThing 2 (some .int) ov_S0 [.ref s, .int x1] σ (ovKi k) := by
  refine ov_Ct.of (by decide) (Nat.le_of_ble_eq_true rfl) ?_
  unfold F_X3_tasteAsThing at hF
  have hs := hF.1
  have hF := hF.2
  show vv_X3_tasteAsThing k 0 [(0, .ref s), (1, .int x1)] [] σ
  refine ov_aload_n dX3_tasteAsThing_0 0 rfl ?_
  refine ov_getr (T := TX3) (kf := 3) dX3_tasteAsThing_1 qf_X3_18 (ov_stk0 hs) rfl (Nat.le_of_ble_eq_true rfl) rfl (ov_stkn hs 3 (by decide)) ?_
  refine ov_iload_n dX3_tasteAsThing_4 1 rfl ?_
  have h1 := hF.1
  have hF := hF.2
  refine ov_iaload dX3_tasteAsThing_5 (ov_stk3 hs) h1 ?_
  refine ov_aload_n dX3_tasteAsThing_6 0 rfl ?_
  refine ov_getr (T := TX3) (kf := 2) dX3_tasteAsThing_7 qf_X3_15 (ov_stk0 hs) rfl (Nat.le_of_ble_eq_true rfl) rfl (ov_stkn hs 2 (by decide)) ?_
  refine ov_iload_n dX3_tasteAsThing_10 1 rfl ?_
  refine ov_iaload dX3_tasteAsThing_11 (ov_stk2 hs) h1 ?_
  refine ov_imul dX3_tasteAsThing_12 ?_
  refine ov_bipush 100 (by decide) dX3_tasteAsThing_13 ?_
  refine ov_idiv (by decide) dX3_tasteAsThing_15 ?_
  exact ov_ireturn dX3_tasteAsThing_16 (Nat.le_refl _) (Nat.le_refl _) ⟨rfl, trivial, _, rfl, hF⟩
/-! X3_tasteAsBone -/
abbrev vv_X3_tasteAsBone (k : Int32 → ovSt → Prop) (pc : Nat) (L : List (Nat × Value)) (st : List Value) (σ : ovSt) : Prop := ov_V (ovZs 1 yX3_tasteAsBone cX3_tasteAsBone 3) (ovKs (some .int) ov_S0 (ovKi k)) (0, 0) ov_S0 pc L st σ
def F_X3_tasteAsBone_24 (s : Nat) (k : Int32 → ovSt → Prop) (x1 : Int32) (t0 : Int32) (σ : ovSt) : Prop := (F_X3_tasteAsThing s x1 σ (fun v1 σ2 => (k (v1 + t0) σ2)))
set_option maxRecDepth 100000 in
set_option maxHeartbeats 4000000 in
theorem V_X3_tasteAsBone_24 {k : Int32 → ovSt → Prop} {s : Nat} (hs : ov_stk s) (x1 : Int32) (t0 : Int32) (σ : ovSt) (hF : F_X3_tasteAsBone_24 s k x1 t0 σ) : vv_X3_tasteAsBone k 24 [(0, .ref s), (1, .int x1)] [.int t0] σ := by
  unfold F_X3_tasteAsBone_24 at hF
  refine ov_istore_n dX3_tasteAsBone_24 (Nat.le_of_ble_eq_true rfl) [(2, .int t0), (0, .ref s), (1, .int x1)] rfl ?_
  refine ov_aload_n dX3_tasteAsBone_25 1 rfl ?_
  refine ov_iload_n dX3_tasteAsBone_26 2 rfl ?_
  refine ov_callV [.int x1] dX3_tasteAsBone_27 (c_X3_tasteAsThing hF) (Nat.le_of_ble_eq_true rfl) (Nat.le_of_ble_eq_true rfl) lk_X3_98 (ov_stk0 hs) rfl (Nat.le_of_ble_eq_true rfl) (Nat.le_refl _) (Nat.le_refl _) (fun rr σ2 hF => ?_)
  obtain ⟨v1, rfl, hF⟩ := hF
  show vv_X3_tasteAsBone k 30 [(2, .int t0), (0, .ref s), (1, .int x1)] [.int v1] σ2
  refine ov_iload_n dX3_tasteAsBone_30 0 rfl ?_
  refine ov_iadd dX3_tasteAsBone_31 ?_
  exact ov_ireturn dX3_tasteAsBone_32 (Nat.le_refl _) (Nat.le_refl _) ⟨rfl, trivial, _, rfl, hF⟩
def F_X3_tasteAsBone (s : Nat) (x1 : Int32) (σ : ovSt) (k : Int32 → ovSt → Prop) : Prop := (ov_stk s ∧ (vp_in x1 8 ∧ (if (σ (s + 3) (Int32.toNatClampNeg x1)) ≤ 0 then (F_X3_tasteAsBone_24 s k x1 0 σ) else (F_X3_tasteAsBone_24 s k x1 (ov_min (σ (s + 4) (Int32.toNatClampNeg x1)) 30) σ))))
set_option maxRecDepth 100000 in
set_option maxHeartbeats 4000000 in
theorem c_X3_tasteAsBone {s : Nat} {x1 : Int32} {σ : ovSt} {k : Int32 → ovSt → Prop} (hF : F_X3_tasteAsBone s x1 σ k) : ov_Ct 1 yX3_tasteAsBone cX3_tasteAsBone 3 (some .int) ov_S0 [.ref s, .int x1] σ (ovKi k) := by
  refine ov_Ct.of (by decide) (Nat.le_of_ble_eq_true rfl) ?_
  unfold F_X3_tasteAsBone at hF
  have hs := hF.1
  have hF := hF.2
  show vv_X3_tasteAsBone k 0 [(0, .ref s), (1, .int x1)] [] σ
  refine ov_aload_n dX3_tasteAsBone_0 0 rfl ?_
  refine ov_getr (T := TX3) (kf := 3) dX3_tasteAsBone_1 qf_X3_18 (ov_stk0 hs) rfl (Nat.le_of_ble_eq_true rfl) rfl (ov_stkn hs 3 (by decide)) ?_
  refine ov_iload_n dX3_tasteAsBone_4 1 rfl ?_
  have h3 := hF.1
  have hF := hF.2
  refine ov_iaload dX3_tasteAsBone_5 (ov_stk3 hs) h3 ?_
  refine ov_if_le 23 dX3_tasteAsBone_6 (by decide) hF (fun hF => ?_) (fun hF => ?_)
  · refine ov_iconst 0 (by decide) dX3_tasteAsBone_23 ?_
    exact V_X3_tasteAsBone_24 hs x1 0 σ hF
  · refine ov_aload_n dX3_tasteAsBone_9 0 rfl ?_
    refine ov_getr (T := TX3) (kf := 4) dX3_tasteAsBone_10 qf_X3_21 (ov_stk0 hs) rfl (Nat.le_of_ble_eq_true rfl) rfl (ov_stkn hs 4 (by decide)) ?_
    refine ov_iload_n dX3_tasteAsBone_13 1 rfl ?_
    refine ov_iaload dX3_tasteAsBone_14 (ov_stk4 hs) h3 ?_
    refine ov_bipush 30 (by decide) dX3_tasteAsBone_15 ?_
    refine ov_mmin dX3_tasteAsBone_17 lk_X3_72 (Nat.le_of_ble_eq_true rfl) (Nat.le_of_ble_eq_true rfl) (Nat.le_refl _) (Nat.le_refl _) ?_
    refine ov_goto 24 dX3_tasteAsBone_20 (by decide) ?_
    exact V_X3_tasteAsBone_24 hs x1 (ov_min (σ (s + 4) (Int32.toNatClampNeg x1)) 30) σ hF
/-! X0_join -/
abbrev vv_X0_join (k : Int32 → ovSt → Prop) (pc : Nat) (L : List (Nat × Value)) (st : List Value) (σ : ovSt) : Prop := ov_V (ovZs 0 yX0_join cX0_join 3) (ovKs (some .int) ov_S0 (ovKi k)) (0, 0) ov_S0 pc L st σ
def F_X0_join_103 (k : Int32 → ovSt → Prop) (t0 : Int32) (σ : ovSt) : Prop := (k t0 σ)
set_option maxRecDepth 100000 in
set_option maxHeartbeats 4000000 in
theorem V_X0_join_103 {k : Int32 → ovSt → Prop} (t0 : Int32) (σ : ovSt) (hF : F_X0_join_103 k t0 σ) : vv_X0_join k 103 [] [.int t0] σ := by
  unfold F_X0_join_103 at hF
  exact ov_ireturn dX0_join_103 (Nat.le_refl _) (Nat.le_refl _) ⟨rfl, trivial, _, rfl, hF⟩
def F_X0_join_102 (k : Int32 → ovSt → Prop) (σ : ovSt) : Prop := (F_X0_join_103 k 0 σ)
set_option maxRecDepth 100000 in
set_option maxHeartbeats 4000000 in
theorem V_X0_join_102 {k : Int32 → ovSt → Prop} (σ : ovSt) (hF : F_X0_join_102 k σ) : vv_X0_join k 102 [] [] σ := by
  unfold F_X0_join_102 at hF
  refine ov_iconst 0 (by decide) dX0_join_102 ?_
  exact V_X0_join_103 0 σ hF
def F_X0_join_114 (k : Int32 → ovSt → Prop) (t0 : Int32) (σ : ovSt) : Prop := (k t0 σ)
set_option maxRecDepth 100000 in
set_option maxHeartbeats 4000000 in
theorem V_X0_join_114 {k : Int32 → ovSt → Prop} (t0 : Int32) (σ : ovSt) (hF : F_X0_join_114 k t0 σ) : vv_X0_join k 114 [] [.int t0] σ := by
  unfold F_X0_join_114 at hF
  exact ov_ireturn dX0_join_114 (Nat.le_refl _) (Nat.le_refl _) ⟨rfl, trivial, _, rfl, hF⟩
def F_X0_join_125 (k : Int32 → ovSt → Prop) (t0 : Int32) (σ : ovSt) : Prop := (k t0 σ)
set_option maxRecDepth 100000 in
set_option maxHeartbeats 4000000 in
theorem V_X0_join_125 {k : Int32 → ovSt → Prop} (t0 : Int32) (σ : ovSt) (hF : F_X0_join_125 k t0 σ) : vv_X0_join k 125 [] [.int t0] σ := by
  unfold F_X0_join_125 at hF
  exact ov_ireturn dX0_join_125 (Nat.le_refl _) (Nat.le_refl _) ⟨rfl, trivial, _, rfl, hF⟩
def F_X0_join_136 (k : Int32 → ovSt → Prop) (t0 : Int32) (σ : ovSt) : Prop := (k t0 σ)
set_option maxRecDepth 100000 in
set_option maxHeartbeats 4000000 in
theorem V_X0_join_136 {k : Int32 → ovSt → Prop} (t0 : Int32) (σ : ovSt) (hF : F_X0_join_136 k t0 σ) : vv_X0_join k 136 [] [.int t0] σ := by
  unfold F_X0_join_136 at hF
  exact ov_ireturn dX0_join_136 (Nat.le_refl _) (Nat.le_refl _) ⟨rfl, trivial, _, rfl, hF⟩
def F_X0_join_89 (k : Int32 → ovSt → Prop) (t0 : Int32) (σ : ovSt) : Prop := (k t0 σ)
set_option maxRecDepth 100000 in
set_option maxHeartbeats 4000000 in
theorem V_X0_join_89 {k : Int32 → ovSt → Prop} (t0 : Int32) (σ : ovSt) (hF : F_X0_join_89 k t0 σ) : vv_X0_join k 89 [] [.int t0] σ := by
  unfold F_X0_join_89 at hF
  exact ov_ireturn dX0_join_89 (Nat.le_refl _) (Nat.le_refl _) ⟨rfl, trivial, _, rfl, hF⟩
def F_X0_join_84 (k : Int32 → ovSt → Prop) (σ : ovSt) : Prop := (F_X0_join_89 k 1 σ)
set_option maxRecDepth 100000 in
set_option maxHeartbeats 4000000 in
theorem V_X0_join_84 {k : Int32 → ovSt → Prop} (σ : ovSt) (hF : F_X0_join_84 k σ) : vv_X0_join k 84 [] [] σ := by
  unfold F_X0_join_84 at hF
  refine ov_iconst 1 (by decide) dX0_join_84 ?_
  refine ov_goto 89 dX0_join_85 (by decide) ?_
  exact V_X0_join_89 1 σ hF
def F_X0_join_160 (k : Int32 → ovSt → Prop) (t0 : Int32) (σ : ovSt) : Prop := (k t0 σ)
set_option maxRecDepth 100000 in
set_option maxHeartbeats 4000000 in
theorem V_X0_join_160 {k : Int32 → ovSt → Prop} (t0 : Int32) (σ : ovSt) (hF : F_X0_join_160 k t0 σ) : vv_X0_join k 160 [] [.int t0] σ := by
  unfold F_X0_join_160 at hF
  exact ov_ireturn dX0_join_160 (Nat.le_refl _) (Nat.le_refl _) ⟨rfl, trivial, _, rfl, hF⟩
def F_X0_join (x0 : Int32) (x1 : Int32) (x2 : Int32) (σ : ovSt) (k : Int32 → ovSt → Prop) : Prop := (if x0 = 38 then (if x1 = 0 then (F_X0_join_102 k σ) else (if x2 = 0 then (F_X0_join_102 k σ) else (F_X0_join_103 k 1 σ))) else (if x0 = 42 then (k (x1 * x2) σ) else (if x0 = 43 then (k (x1 + x2) σ) else (if x0 = 45 then (k (x1 - x2) σ) else (if x0 = 60 then (if x2 ≤ x1 then (F_X0_join_114 k 0 σ) else (F_X0_join_114 k 1 σ)) else (if x0 = 61 then (if x1 = x2 then (F_X0_join_125 k 1 σ) else (F_X0_join_125 k 0 σ)) else (if x0 = 62 then (if x1 ≤ x2 then (F_X0_join_136 k 0 σ) else (F_X0_join_136 k 1 σ)) else (if x0 = 124 then (if x1 = 0 then (if x2 = 0 then (F_X0_join_89 k 0 σ) else (F_X0_join_84 k σ)) else (F_X0_join_84 k σ)) else (if x2 = 0 then (F_X0_join_160 k 0 σ) else (¬ x2 = 0 ∧ (F_X0_join_160 k (x1 / x2) σ)))))))))))
set_option maxRecDepth 100000 in
set_option maxHeartbeats 4000000 in
theorem c_X0_join {x0 : Int32} {x1 : Int32} {x2 : Int32} {σ : ovSt} {k : Int32 → ovSt → Prop} (hF : F_X0_join x0 x1 x2 σ k) : ov_Ct 0 yX0_join cX0_join 3 (some .int) ov_S0 [.int x0, .int x1, .int x2] σ (ovKi k) := by
  refine ov_Ct.of (by decide) (Nat.le_of_ble_eq_true rfl) ?_
  unfold F_X0_join at hF
  show vv_X0_join k 0 [(0, .int x0), (1, .int x1), (2, .int x2)] [] σ
  refine ov_iload_n dX0_join_0 0 rfl ?_
  refine ov_br hF (fun z2 hF => ?_) (fun z2 hF => ?_)
  · refine ov_lsw 89 90 dX0_join_1 (by decide) (by rw [z2]; decide) (by decide) ?_
    refine ov_iload_n dX0_join_90 1 rfl ?_
    refine ov_if_eq 102 dX0_join_91 (by decide) hF (fun hF => ?_) (fun hF => ?_)
    · refine ov_pick [] [] rfl ?_
      exact V_X0_join_102 σ hF
    · refine ov_iload_n dX0_join_94 2 rfl ?_
      refine ov_if_eq 102 dX0_join_95 (by decide) hF (fun hF => ?_) (fun hF => ?_)
      · refine ov_pick [] [] rfl ?_
        exact V_X0_join_102 σ hF
      · refine ov_iconst 1 (by decide) dX0_join_98 ?_
        refine ov_goto 103 dX0_join_99 (by decide) ?_
        refine ov_pick [] [] rfl ?_
        exact V_X0_join_103 1 σ hF
  · refine ov_br hF (fun z3 hF => ?_) (fun z3 hF => ?_)
    · refine ov_lsw 144 145 dX0_join_1 (by decide) (by rw [z3]; decide) (by decide) ?_
      refine ov_iload_n dX0_join_145 1 rfl ?_
      refine ov_iload_n dX0_join_146 2 rfl ?_
      refine ov_imul dX0_join_147 ?_
      exact ov_ireturn dX0_join_148 (Nat.le_refl _) (Nat.le_refl _) ⟨rfl, trivial, _, rfl, hF⟩
    · refine ov_br hF (fun z4 hF => ?_) (fun z4 hF => ?_)
      · refine ov_lsw 136 137 dX0_join_1 (by decide) (by rw [z4]; decide) (by decide) ?_
        refine ov_iload_n dX0_join_137 1 rfl ?_
        refine ov_iload_n dX0_join_138 2 rfl ?_
        refine ov_iadd dX0_join_139 ?_
        exact ov_ireturn dX0_join_140 (Nat.le_refl _) (Nat.le_refl _) ⟨rfl, trivial, _, rfl, hF⟩
      · refine ov_br hF (fun z5 hF => ?_) (fun z5 hF => ?_)
        · refine ov_lsw 140 141 dX0_join_1 (by decide) (by rw [z5]; decide) (by decide) ?_
          refine ov_iload_n dX0_join_141 1 rfl ?_
          refine ov_iload_n dX0_join_142 2 rfl ?_
          refine ov_isub dX0_join_143 ?_
          exact ov_ireturn dX0_join_144 (Nat.le_refl _) (Nat.le_refl _) ⟨rfl, trivial, _, rfl, hF⟩
        · refine ov_br hF (fun z6 hF => ?_) (fun z6 hF => ?_)
          · refine ov_lsw 103 104 dX0_join_1 (by decide) (by rw [z6]; decide) (by decide) ?_
            refine ov_iload_n dX0_join_104 1 rfl ?_
            refine ov_iload_n dX0_join_105 2 rfl ?_
            refine ov_icmp_ge 113 dX0_join_106 (by decide) hF (fun hF => ?_) (fun hF => ?_)
            · refine ov_iconst 0 (by decide) dX0_join_113 ?_
              refine ov_pick [] [] rfl ?_
              exact V_X0_join_114 0 σ hF
            · refine ov_iconst 1 (by decide) dX0_join_109 ?_
              refine ov_goto 114 dX0_join_110 (by decide) ?_
              refine ov_pick [] [] rfl ?_
              exact V_X0_join_114 1 σ hF
          · refine ov_br hF (fun z7 hF => ?_) (fun z7 hF => ?_)
            · refine ov_lsw 114 115 dX0_join_1 (by decide) (by rw [z7]; decide) (by decide) ?_
              refine ov_iload_n dX0_join_115 1 rfl ?_
              refine ov_iload_n dX0_join_116 2 rfl ?_
              refine ov_icmp_ne 124 dX0_join_117 (by decide) hF (fun hF => ?_) (fun hF => ?_)
              · refine ov_iconst 0 (by decide) dX0_join_124 ?_
                refine ov_pick [] [] rfl ?_
                exact V_X0_join_125 0 σ hF
              · refine ov_iconst 1 (by decide) dX0_join_120 ?_
                refine ov_goto 125 dX0_join_121 (by decide) ?_
                refine ov_pick [] [] rfl ?_
                exact V_X0_join_125 1 σ hF
            · refine ov_br hF (fun z8 hF => ?_) (fun z8 hF => ?_)
              · refine ov_lsw 125 126 dX0_join_1 (by decide) (by rw [z8]; decide) (by decide) ?_
                refine ov_iload_n dX0_join_126 1 rfl ?_
                refine ov_iload_n dX0_join_127 2 rfl ?_
                refine ov_icmp_le 135 dX0_join_128 (by decide) hF (fun hF => ?_) (fun hF => ?_)
                · refine ov_iconst 0 (by decide) dX0_join_135 ?_
                  refine ov_pick [] [] rfl ?_
                  exact V_X0_join_136 0 σ hF
                · refine ov_iconst 1 (by decide) dX0_join_131 ?_
                  refine ov_goto 136 dX0_join_132 (by decide) ?_
                  refine ov_pick [] [] rfl ?_
                  exact V_X0_join_136 1 σ hF
              · refine ov_br hF (fun z9 hF => ?_) (fun z9 hF => ?_)
                · refine ov_lsw 75 76 dX0_join_1 (by decide) (by rw [z9]; decide) (by decide) ?_
                  refine ov_iload_n dX0_join_76 1 rfl ?_
                  refine ov_if_ne 84 dX0_join_77 (by decide) hF (fun hF => ?_) (fun hF => ?_)
                  · refine ov_pick [] [] rfl ?_
                    exact V_X0_join_84 σ hF
                  · refine ov_iload_n dX0_join_80 2 rfl ?_
                    refine ov_if_eq 88 dX0_join_81 (by decide) hF (fun hF => ?_) (fun hF => ?_)
                    · refine ov_iconst 0 (by decide) dX0_join_88 ?_
                      refine ov_pick [] [] rfl ?_
                      exact V_X0_join_89 0 σ hF
                    · refine ov_pick [] [] rfl ?_
                      exact V_X0_join_84 σ hF
                · refine ov_lsw 148 149 dX0_join_1 (by decide) ((lv_osw (k := 38) z2 rfl).trans ((lv_osw (k := 42) z3 rfl).trans ((lv_osw (k := 43) z4 rfl).trans ((lv_osw (k := 45) z5 rfl).trans ((lv_osw (k := 60) z6 rfl).trans ((lv_osw (k := 61) z7 rfl).trans ((lv_osw (k := 62) z8 rfl).trans ((lv_osw (k := 124) z9 rfl).trans (rfl))))))))) (by decide) ?_
                  refine ov_iload_n dX0_join_149 2 rfl ?_
                  refine ov_if_ne 157 dX0_join_150 (by decide) hF (fun hF => ?_) (fun hF => ?_)
                  · refine ov_iload_n dX0_join_157 1 rfl ?_
                    refine ov_iload_n dX0_join_158 2 rfl ?_
                    have h1 := hF.1
                    have hF := hF.2
                    refine ov_idiv h1 dX0_join_159 ?_
                    refine ov_pick [] [] rfl ?_
                    exact V_X0_join_160 (x1 / x2) σ hF
                  · refine ov_iconst 0 (by decide) dX0_join_153 ?_
                    refine ov_goto 160 dX0_join_154 (by decide) ?_
                    refine ov_pick [] [] rfl ?_
                    exact V_X0_join_160 0 σ hF
/-! X0_workOut -/
abbrev vv_X0_workOut (k : Int32 → ovSt → Prop) (pc : Nat) (L : List (Nat × Value)) (st : List Value) (σ : ovSt) : Prop := ov_V (ovZs 1 yX0_workOut cX0_workOut 9) (ovKs (some .int) ov_S0 (ovKi k)) (0, 0) ov_S0 pc L st σ
def F_X0_workOut_181 (R21 : Int32 → Int32 → Int32 → Int32 → Nat → Int32 → Int32 → ovSt → Prop) (k : Int32 → ovSt → Prop) (x1 : Int32) (x2 : Int32) (x3 : Int32) (x4 : Int32) (r5 : Nat) (x6 : Int32) (x7 : Int32) (σ : ovSt) : Prop := R21 x1 x2 x3 x4 r5 x6 (x7 + 1) σ
set_option maxRecDepth 100000 in
set_option maxHeartbeats 4000000 in
theorem V_X0_workOut_181 {k : Int32 → ovSt → Prop} {R21 : Int32 → Int32 → Int32 → Int32 → Nat → Int32 → Int32 → ovSt → Prop} (hR21 : ∀ (x1 : Int32) (x2 : Int32) (x3 : Int32) (x4 : Int32) (r5 : Nat) (x6 : Int32) (x7 : Int32) (σ : ovSt), ov_S0[r5]? = some (9, 96, []) → R21 x1 x2 x3 x4 r5 x6 x7 σ → vv_X0_workOut k 21 [(0, .ref 1), (1, .int x1), (2, .int x2), (3, .int x3), (4, .int x4), (5, .ref r5), (6, .int x6), (7, .int x7)] [] σ) (x1 : Int32) (x2 : Int32) (x3 : Int32) (x4 : Int32) (r5 : Nat) (x6 : Int32) (x7 : Int32) (σ : ovSt) (hr5 : ov_S0[r5]? = some (9, 96, [])) (hF : F_X0_workOut_181 R21 k x1 x2 x3 x4 r5 x6 x7 σ) : vv_X0_workOut k 181 [(0, .ref 1), (1, .int x1), (2, .int x2), (3, .int x3), (4, .int x4), (5, .ref r5), (6, .int x6), (7, .int x7)] [] σ := by
  unfold F_X0_workOut_181 at hF
  refine ov_iinc dX0_workOut_181 7 rfl (x7 + 1) rfl (Nat.le_of_ble_eq_true rfl) [(7, .int (x7 + 1)), (0, .ref 1), (1, .int x1), (2, .int x2), (3, .int x3), (4, .int x4), (5, .ref r5), (6, .int x6)] rfl ?_
  refine ov_goto 21 dX0_workOut_184 (by decide) ?_
  refine ov_pick [1, 2, 3, 4, 5, 6, 7, 0] [(0, .ref 1), (1, .int x1), (2, .int x2), (3, .int x3), (4, .int x4), (5, .ref r5), (6, .int x6), (7, .int (x7 + 1))] rfl ?_
  exact hR21 x1 x2 x3 x4 r5 x6 (x7 + 1) σ hr5 hF
def F_X0_workOut_92 (R21 : Int32 → Int32 → Int32 → Int32 → Nat → Int32 → Int32 → ovSt → Prop) (k : Int32 → ovSt → Prop) (x1 : Int32) (x2 : Int32) (x3 : Int32) (x4 : Int32) (r5 : Nat) (x6 : Int32) (x7 : Int32) (t0 : Int32) (t1 : Int32) (σ : ovSt) : Prop := (vp_in t1 96 ∧ (∀ σ2 : ovSt, σ2 = ov_up σ 20 (Int32.toNatClampNeg t1) t0 → (F_X0_workOut_181 R21 k x1 x2 x3 x4 r5 (x6 + 1) x7 σ2)))
set_option maxRecDepth 100000 in
set_option maxHeartbeats 4000000 in
theorem V_X0_workOut_92 {k : Int32 → ovSt → Prop} {R21 : Int32 → Int32 → Int32 → Int32 → Nat → Int32 → Int32 → ovSt → Prop} (hR21 : ∀ (x1 : Int32) (x2 : Int32) (x3 : Int32) (x4 : Int32) (r5 : Nat) (x6 : Int32) (x7 : Int32) (σ : ovSt), ov_S0[r5]? = some (9, 96, []) → R21 x1 x2 x3 x4 r5 x6 x7 σ → vv_X0_workOut k 21 [(0, .ref 1), (1, .int x1), (2, .int x2), (3, .int x3), (4, .int x4), (5, .ref r5), (6, .int x6), (7, .int x7)] [] σ) (x1 : Int32) (x2 : Int32) (x3 : Int32) (x4 : Int32) (r5 : Nat) (x6 : Int32) (x7 : Int32) (t0 : Int32) (t1 : Int32) (σ : ovSt) (hr5 : ov_S0[r5]? = some (9, 96, [])) (hF : F_X0_workOut_92 R21 k x1 x2 x3 x4 r5 x6 x7 t0 t1 σ) : vv_X0_workOut k 92 [(0, .ref 1), (1, .int x1), (2, .int x2), (3, .int x3), (4, .int x4), (5, .ref r5), (6, .int x6), (7, .int x7)] [.int t0, .int t1, .ref 20] σ := by
  unfold F_X0_workOut_92 at hF
  have h1 := hF.1
  have hF := hF.2
  refine ov_iastore dX0_workOut_92 sh_20 h1 ?_
  refine ov_nmS (fun σ2 es2 => ?_)
  have hF := hF σ2 es2
  refine ov_iinc dX0_workOut_93 6 rfl (x6 + 1) rfl (Nat.le_of_ble_eq_true rfl) [(6, .int (x6 + 1)), (0, .ref 1), (1, .int x1), (2, .int x2), (3, .int x3), (4, .int x4), (5, .ref r5), (7, .int x7)] rfl ?_
  refine ov_goto 181 dX0_workOut_96 (by decide) ?_
  refine ov_pick [1, 2, 3, 4, 5, 6, 0, 7] [(0, .ref 1), (1, .int x1), (2, .int x2), (3, .int x3), (4, .int x4), (5, .ref r5), (6, .int (x6 + 1)), (7, .int x7)] rfl ?_
  exact V_X0_workOut_181 hR21 x1 x2 x3 x4 r5 (x6 + 1) x7 σ2 hr5 hF
def F_X0_workOut_137 (R21 : Int32 → Int32 → Int32 → Int32 → Nat → Int32 → Int32 → ovSt → Prop) (k : Int32 → ovSt → Prop) (x1 : Int32) (x2 : Int32) (x3 : Int32) (x4 : Int32) (r5 : Nat) (x6 : Int32) (x7 : Int32) (t0 : Int32) (t1 : Int32) (σ : ovSt) : Prop := (vp_in t1 96 ∧ (∀ σ4 : ovSt, σ4 = ov_up σ 20 (Int32.toNatClampNeg t1) t0 → (F_X0_workOut_181 R21 k x1 x2 x3 x4 r5 x6 x7 σ4)))
set_option maxRecDepth 100000 in
set_option maxHeartbeats 4000000 in
theorem V_X0_workOut_137 {k : Int32 → ovSt → Prop} {R21 : Int32 → Int32 → Int32 → Int32 → Nat → Int32 → Int32 → ovSt → Prop} (hR21 : ∀ (x1 : Int32) (x2 : Int32) (x3 : Int32) (x4 : Int32) (r5 : Nat) (x6 : Int32) (x7 : Int32) (σ : ovSt), ov_S0[r5]? = some (9, 96, []) → R21 x1 x2 x3 x4 r5 x6 x7 σ → vv_X0_workOut k 21 [(0, .ref 1), (1, .int x1), (2, .int x2), (3, .int x3), (4, .int x4), (5, .ref r5), (6, .int x6), (7, .int x7)] [] σ) (x1 : Int32) (x2 : Int32) (x3 : Int32) (x4 : Int32) (r5 : Nat) (x6 : Int32) (x7 : Int32) (t0 : Int32) (t1 : Int32) (σ : ovSt) (hr5 : ov_S0[r5]? = some (9, 96, [])) (hF : F_X0_workOut_137 R21 k x1 x2 x3 x4 r5 x6 x7 t0 t1 σ) : vv_X0_workOut k 137 [(0, .ref 1), (1, .int x1), (2, .int x2), (3, .int x3), (4, .int x4), (5, .ref r5), (6, .int x6), (7, .int x7)] [.int t0, .int t1, .ref 20] σ := by
  unfold F_X0_workOut_137 at hF
  have h3 := hF.1
  have hF := hF.2
  refine ov_iastore dX0_workOut_137 sh_20 h3 ?_
  refine ov_nmS (fun σ4 es4 => ?_)
  have hF := hF σ4 es4
  refine ov_goto 181 dX0_workOut_138 (by decide) ?_
  exact V_X0_workOut_181 hR21 x1 x2 x3 x4 r5 x6 x7 σ4 hr5 hF
def F_X0_workOut_141 (R21 : Int32 → Int32 → Int32 → Int32 → Nat → Int32 → Int32 → ovSt → Prop) (k : Int32 → ovSt → Prop) (x1 : Int32) (x2 : Int32) (x3 : Int32) (x4 : Int32) (r5 : Nat) (x6 : Int32) (x7 : Int32) (x8 : Int32) (σ : ovSt) : Prop := (if x6 < (2 : Int32) then (F_X0_workOut_181 R21 k x1 x2 x3 x4 r5 x6 x7 σ) else (vp_in ((x6 + (-1)) - 1) 96 ∧ (vp_in (x6 + (-1)) 96 ∧ (F_X0_join (-x8) (σ 20 (Int32.toNatClampNeg ((x6 + (-1)) - 1))) (σ 20 (Int32.toNatClampNeg (x6 + (-1)))) σ (fun v7 σ8 => (∀ σ9 : ovSt, σ9 = ov_up σ8 20 (Int32.toNatClampNeg ((x6 + (-1)) - 1)) v7 → (F_X0_workOut_181 R21 k x1 x2 x3 x4 r5 (x6 + (-1)) x7 σ9)))))))
set_option maxRecDepth 100000 in
set_option maxHeartbeats 4000000 in
theorem V_X0_workOut_141 {k : Int32 → ovSt → Prop} {R21 : Int32 → Int32 → Int32 → Int32 → Nat → Int32 → Int32 → ovSt → Prop} (hR21 : ∀ (x1 : Int32) (x2 : Int32) (x3 : Int32) (x4 : Int32) (r5 : Nat) (x6 : Int32) (x7 : Int32) (σ : ovSt), ov_S0[r5]? = some (9, 96, []) → R21 x1 x2 x3 x4 r5 x6 x7 σ → vv_X0_workOut k 21 [(0, .ref 1), (1, .int x1), (2, .int x2), (3, .int x3), (4, .int x4), (5, .ref r5), (6, .int x6), (7, .int x7)] [] σ) (x1 : Int32) (x2 : Int32) (x3 : Int32) (x4 : Int32) (r5 : Nat) (x6 : Int32) (x7 : Int32) (x8 : Int32) (σ : ovSt) (hr5 : ov_S0[r5]? = some (9, 96, [])) (hF : F_X0_workOut_141 R21 k x1 x2 x3 x4 r5 x6 x7 x8 σ) : vv_X0_workOut k 141 [(0, .ref 1), (1, .int x1), (2, .int x2), (3, .int x3), (4, .int x4), (5, .ref r5), (6, .int x6), (7, .int x7), (8, .int x8)] [] σ := by
  unfold F_X0_workOut_141 at hF
  refine ov_iload dX0_workOut_141 6 rfl ?_
  refine ov_iconst 2 (by decide) dX0_workOut_143 ?_
  refine ov_icmp_lt 181 dX0_workOut_144 (by decide) hF (fun hF => ?_) (fun hF => ?_)
  · refine ov_pick [0, 1, 2, 3, 4, 5, 6, 7] [(0, .ref 1), (1, .int x1), (2, .int x2), (3, .int x3), (4, .int x4), (5, .ref r5), (6, .int x6), (7, .int x7)] rfl ?_
    exact V_X0_workOut_181 hR21 x1 x2 x3 x4 r5 x6 x7 σ hr5 hF
  · refine ov_iinc dX0_workOut_147 6 rfl (x6 + (-1)) rfl (Nat.le_of_ble_eq_true rfl) [(6, .int (x6 + (-1))), (0, .ref 1), (1, .int x1), (2, .int x2), (3, .int x3), (4, .int x4), (5, .ref r5), (7, .int x7), (8, .int x8)] rfl ?_
    refine ov_aload_n dX0_workOut_150 1 rfl ?_
    refine ov_getr (T := TX0) (kf := 4) dX0_workOut_151 qf_X0_26 sh_1 rfl (Nat.le_of_ble_eq_true rfl) rfl (by decide) ?_
    refine ov_iload dX0_workOut_154 0 rfl ?_
    refine ov_iconst 1 (by decide) dX0_workOut_156 ?_
    refine ov_isub dX0_workOut_157 ?_
    refine ov_iload dX0_workOut_158 8 rfl ?_
    refine ov_ineg dX0_workOut_160 ?_
    refine ov_aload_n dX0_workOut_161 1 rfl ?_
    refine ov_getr (T := TX0) (kf := 4) dX0_workOut_162 qf_X0_26 sh_1 rfl (Nat.le_of_ble_eq_true rfl) rfl (by decide) ?_
    refine ov_iload dX0_workOut_165 0 rfl ?_
    refine ov_iconst 1 (by decide) dX0_workOut_167 ?_
    refine ov_isub dX0_workOut_168 ?_
    have h5 := hF.1
    have hF := hF.2
    refine ov_iaload dX0_workOut_169 sh_20 h5 ?_
    refine ov_aload_n dX0_workOut_170 1 rfl ?_
    refine ov_getr (T := TX0) (kf := 4) dX0_workOut_171 qf_X0_26 sh_1 rfl (Nat.le_of_ble_eq_true rfl) rfl (by decide) ?_
    refine ov_iload dX0_workOut_174 0 rfl ?_
    have h6 := hF.1
    have hF := hF.2
    refine ov_iaload dX0_workOut_176 sh_20 h6 ?_
    refine ov_callS [.int (-x8), .int (σ 20 (Int32.toNatClampNeg ((x6 + (-1)) - 1))), .int (σ 20 (Int32.toNatClampNeg (x6 + (-1))))] dX0_workOut_177 (c_X0_join hF) (Nat.le_of_ble_eq_true rfl) (Nat.le_of_ble_eq_true rfl) lk_X0_49 (Nat.le_of_ble_eq_true rfl) (Nat.le_refl _) (Nat.le_refl _) (fun rr σ8 hF => ?_)
    obtain ⟨v7, rfl, hF⟩ := hF
    show vv_X0_workOut k 180 [(6, .int (x6 + (-1))), (0, .ref 1), (1, .int x1), (2, .int x2), (3, .int x3), (4, .int x4), (5, .ref r5), (7, .int x7), (8, .int x8)] [.int v7, .int ((x6 + (-1)) - 1), .ref 20] σ8
    refine ov_iastore dX0_workOut_180 sh_20 h5 ?_
    refine ov_nmS (fun σ9 es9 => ?_)
    have hF := hF σ9 es9
    refine ov_pick [1, 2, 3, 4, 5, 6, 0, 7] [(0, .ref 1), (1, .int x1), (2, .int x2), (3, .int x3), (4, .int x4), (5, .ref r5), (6, .int (x6 + (-1))), (7, .int x7)] rfl ?_
    exact V_X0_workOut_181 hR21 x1 x2 x3 x4 r5 (x6 + (-1)) x7 σ9 hr5 hF
def F_X0_workOut_99 (R21 : Int32 → Int32 → Int32 → Int32 → Nat → Int32 → Int32 → ovSt → Prop) (k : Int32 → ovSt → Prop) (x1 : Int32) (x2 : Int32) (x3 : Int32) (x4 : Int32) (r5 : Nat) (x6 : Int32) (x7 : Int32) (x8 : Int32) (σ : ovSt) : Prop := (if x8 = ((-33) : Int32) then (if x6 < (1 : Int32) then (F_X0_workOut_141 R21 k x1 x2 x3 x4 r5 x6 x7 x8 σ) else (vp_in (x6 - 1) 96 ∧ (if (σ 20 (Int32.toNatClampNeg (x6 - 1))) = 0 then (F_X0_workOut_137 R21 k x1 x2 x3 x4 r5 x6 x7 1 (x6 - 1) σ) else (F_X0_workOut_137 R21 k x1 x2 x3 x4 r5 x6 x7 0 (x6 - 1) σ)))) else (F_X0_workOut_141 R21 k x1 x2 x3 x4 r5 x6 x7 x8 σ))
set_option maxRecDepth 100000 in
set_option maxHeartbeats 4000000 in
theorem V_X0_workOut_99 {k : Int32 → ovSt → Prop} {R21 : Int32 → Int32 → Int32 → Int32 → Nat → Int32 → Int32 → ovSt → Prop} (hR21 : ∀ (x1 : Int32) (x2 : Int32) (x3 : Int32) (x4 : Int32) (r5 : Nat) (x6 : Int32) (x7 : Int32) (σ : ovSt), ov_S0[r5]? = some (9, 96, []) → R21 x1 x2 x3 x4 r5 x6 x7 σ → vv_X0_workOut k 21 [(0, .ref 1), (1, .int x1), (2, .int x2), (3, .int x3), (4, .int x4), (5, .ref r5), (6, .int x6), (7, .int x7)] [] σ) (x1 : Int32) (x2 : Int32) (x3 : Int32) (x4 : Int32) (r5 : Nat) (x6 : Int32) (x7 : Int32) (x8 : Int32) (σ : ovSt) (hr5 : ov_S0[r5]? = some (9, 96, [])) (hF : F_X0_workOut_99 R21 k x1 x2 x3 x4 r5 x6 x7 x8 σ) : vv_X0_workOut k 99 [(0, .ref 1), (1, .int x1), (2, .int x2), (3, .int x3), (4, .int x4), (5, .ref r5), (6, .int x6), (7, .int x7), (8, .int x8)] [] σ := by
  unfold F_X0_workOut_99 at hF
  refine ov_iload dX0_workOut_99 8 rfl ?_
  refine ov_bipush (-33) (by decide) dX0_workOut_101 ?_
  refine ov_icmp_ne 141 dX0_workOut_103 (by decide) hF (fun hF => ?_) (fun hF => ?_)
  · exact V_X0_workOut_141 hR21 x1 x2 x3 x4 r5 x6 x7 x8 σ hr5 hF
  · refine ov_iload dX0_workOut_106 6 rfl ?_
    refine ov_iconst 1 (by decide) dX0_workOut_108 ?_
    refine ov_icmp_lt 141 dX0_workOut_109 (by decide) hF (fun hF => ?_) (fun hF => ?_)
    · exact V_X0_workOut_141 hR21 x1 x2 x3 x4 r5 x6 x7 x8 σ hr5 hF
    · refine ov_aload_n dX0_workOut_112 0 rfl ?_
      refine ov_getr (T := TX0) (kf := 4) dX0_workOut_113 qf_X0_26 sh_1 rfl (Nat.le_of_ble_eq_true rfl) rfl (by decide) ?_
      refine ov_iload dX0_workOut_116 6 rfl ?_
      refine ov_iconst 1 (by decide) dX0_workOut_118 ?_
      refine ov_isub dX0_workOut_119 ?_
      refine ov_aload_n dX0_workOut_120 0 rfl ?_
      refine ov_getr (T := TX0) (kf := 4) dX0_workOut_121 qf_X0_26 sh_1 rfl (Nat.le_of_ble_eq_true rfl) rfl (by decide) ?_
      refine ov_iload dX0_workOut_124 6 rfl ?_
      refine ov_iconst 1 (by decide) dX0_workOut_126 ?_
      refine ov_isub dX0_workOut_127 ?_
      have h10 := hF.1
      have hF := hF.2
      refine ov_iaload dX0_workOut_128 sh_20 h10 ?_
      refine ov_if_ne 136 dX0_workOut_129 (by decide) hF (fun hF => ?_) (fun hF => ?_)
      · refine ov_iconst 0 (by decide) dX0_workOut_136 ?_
        refine ov_pick [0, 1, 2, 3, 4, 5, 6, 7] [(0, .ref 1), (1, .int x1), (2, .int x2), (3, .int x3), (4, .int x4), (5, .ref r5), (6, .int x6), (7, .int x7)] rfl ?_
        exact V_X0_workOut_137 hR21 x1 x2 x3 x4 r5 x6 x7 0 (x6 - 1) σ hr5 hF
      · refine ov_iconst 1 (by decide) dX0_workOut_132 ?_
        refine ov_goto 137 dX0_workOut_133 (by decide) ?_
        refine ov_pick [0, 1, 2, 3, 4, 5, 6, 7] [(0, .ref 1), (1, .int x1), (2, .int x2), (3, .int x3), (4, .int x4), (5, .ref r5), (6, .int x6), (7, .int x7)] rfl ?_
        exact V_X0_workOut_137 hR21 x1 x2 x3 x4 r5 x6 x7 1 (x6 - 1) σ hr5 hF
def F_X0_workOut_21 (k : Int32 → ovSt → Prop) : Nat → Int32 → Int32 → Int32 → Int32 → Nat → Int32 → Int32 → ovSt → Prop
  | 0 => fun _ _ _ _ _ _ _ _ => False
  | n + 1 => fun x1 x2 x3 x4 r5 x6 x7 σ => (vp_in x1 14 ∧ (if (σ 17 (Int32.toNatClampNeg x1)) ≤ x7 then (vp_in 0 96 ∧ (k (σ 20 (Int32.toNatClampNeg 0)) σ)) else (vp_in x7 96 ∧ (∀ v14 : Int32, v14 = (σ r5 (Int32.toNatClampNeg x7)) → (if v14 < ((-3) : Int32) then (F_X0_workOut_99 (F_X0_workOut_21 k n) k x1 x2 x3 x4 r5 x6 x7 v14 σ) else (if (96 : Int32) ≤ x6 then (F_X0_workOut_99 (F_X0_workOut_21 k n) k x1 x2 x3 x4 r5 x6 x7 v14 σ) else (if v14 < 0 then (if v14 = ((-1) : Int32) then (F_X0_workOut_92 (F_X0_workOut_21 k n) k x1 x2 x3 x4 r5 x6 x7 x2 x6 σ) else (if v14 = ((-3) : Int32) then (F_X0_workOut_92 (F_X0_workOut_21 k n) k x1 x2 x3 x4 r5 x6 x7 x4 x6 σ) else (F_X0_workOut_92 (F_X0_workOut_21 k n) k x1 x2 x3 x4 r5 x6 x7 x3 x6 σ))) else (F_X0_workOut_92 (F_X0_workOut_21 k n) k x1 x2 x3 x4 r5 x6 x7 v14 x6 σ))))))))
set_option maxRecDepth 100000 in
set_option maxHeartbeats 4000000 in
theorem V_X0_workOut_21 {k : Int32 → ovSt → Prop} : ∀ (n : Nat) (x1 : Int32) (x2 : Int32) (x3 : Int32) (x4 : Int32) (r5 : Nat) (x6 : Int32) (x7 : Int32) (σ : ovSt), ov_S0[r5]? = some (9, 96, []) → F_X0_workOut_21 k n x1 x2 x3 x4 r5 x6 x7 σ → vv_X0_workOut k 21 [(0, .ref 1), (1, .int x1), (2, .int x2), (3, .int x3), (4, .int x4), (5, .ref r5), (6, .int x6), (7, .int x7)] [] σ := by
  intro n
  induction n with
  | zero => intro x1 x2 x3 x4 r5 x6 x7 σ hr5 hF; exact hF.elim
  | succ n ih =>
    intro x1 x2 x3 x4 r5 x6 x7 σ hr5 hF
    unfold F_X0_workOut_21 at hF
    refine ov_iload dX0_workOut_21 7 rfl ?_
    refine ov_aload_n dX0_workOut_23 0 rfl ?_
    refine ov_getr (T := TX0) (kf := 1) dX0_workOut_24 qf_X0_16 sh_1 rfl (Nat.le_of_ble_eq_true rfl) rfl (by decide) ?_
    refine ov_iload_n dX0_workOut_27 1 rfl ?_
    have h11 := hF.1
    have hF := hF.2
    refine ov_iaload dX0_workOut_28 sh_17 h11 ?_
    refine ov_icmp_ge 187 dX0_workOut_29 (by decide) hF (fun hF => ?_) (fun hF => ?_)
    · refine ov_aload_n dX0_workOut_187 0 rfl ?_
      refine ov_getr (T := TX0) (kf := 4) dX0_workOut_188 qf_X0_26 sh_1 rfl (Nat.le_of_ble_eq_true rfl) rfl (by decide) ?_
      refine ov_iconst 0 (by decide) dX0_workOut_191 ?_
      have h12 := hF.1
      have hF := hF.2
      refine ov_iaload dX0_workOut_192 sh_20 h12 ?_
      exact ov_ireturn dX0_workOut_193 (Nat.le_refl _) (Nat.le_refl _) ⟨rfl, trivial, _, rfl, hF⟩
    · refine ov_aload dX0_workOut_32 5 rfl ?_
      refine ov_iload dX0_workOut_34 7 rfl ?_
      have h13 := hF.1
      have hF := hF.2
      refine ov_iaload dX0_workOut_36 hr5 h13 ?_
      refine ov_nmI (fun v14 ev14 => ?_)
      have hF := hF v14 ev14
      refine ov_istore dX0_workOut_37 (Nat.le_of_ble_eq_true rfl) [(8, .int v14), (0, .ref 1), (1, .int x1), (2, .int x2), (3, .int x3), (4, .int x4), (5, .ref r5), (6, .int x6), (7, .int x7)] rfl ?_
      refine ov_iload dX0_workOut_39 0 rfl ?_
      refine ov_bipush (-3) (by decide) dX0_workOut_41 ?_
      refine ov_icmp_lt 99 dX0_workOut_43 (by decide) hF (fun hF => ?_) (fun hF => ?_)
      · refine ov_pick [1, 2, 3, 4, 5, 6, 7, 8, 0] [(0, .ref 1), (1, .int x1), (2, .int x2), (3, .int x3), (4, .int x4), (5, .ref r5), (6, .int x6), (7, .int x7), (8, .int v14)] rfl ?_
        exact V_X0_workOut_99 ih x1 x2 x3 x4 r5 x6 x7 v14 σ hr5 hF
      · refine ov_iload dX0_workOut_46 7 rfl ?_
        refine ov_bipush 96 (by decide) dX0_workOut_48 ?_
        refine ov_icmp_ge 99 dX0_workOut_50 (by decide) hF (fun hF => ?_) (fun hF => ?_)
        · refine ov_pick [1, 2, 3, 4, 5, 6, 7, 8, 0] [(0, .ref 1), (1, .int x1), (2, .int x2), (3, .int x3), (4, .int x4), (5, .ref r5), (6, .int x6), (7, .int x7), (8, .int v14)] rfl ?_
          exact V_X0_workOut_99 ih x1 x2 x3 x4 r5 x6 x7 v14 σ hr5 hF
        · refine ov_aload_n dX0_workOut_53 1 rfl ?_
          refine ov_getr (T := TX0) (kf := 4) dX0_workOut_54 qf_X0_26 sh_1 rfl (Nat.le_of_ble_eq_true rfl) rfl (by decide) ?_
          refine ov_iload dX0_workOut_57 7 rfl ?_
          refine ov_iload dX0_workOut_59 0 rfl ?_
          refine ov_if_lt 69 dX0_workOut_61 (by decide) hF (fun hF => ?_) (fun hF => ?_)
          · refine ov_iload dX0_workOut_69 0 rfl ?_
            refine ov_iconst (-1) (by decide) dX0_workOut_71 ?_
            refine ov_icmp_ne 79 dX0_workOut_72 (by decide) hF (fun hF => ?_) (fun hF => ?_)
            · refine ov_iload dX0_workOut_79 0 rfl ?_
              refine ov_bipush (-3) (by decide) dX0_workOut_81 ?_
              refine ov_icmp_ne 91 dX0_workOut_83 (by decide) hF (fun hF => ?_) (fun hF => ?_)
              · refine ov_iload_n dX0_workOut_91 4 rfl ?_
                refine ov_pick [1, 2, 3, 4, 5, 6, 7, 8] [(0, .ref 1), (1, .int x1), (2, .int x2), (3, .int x3), (4, .int x4), (5, .ref r5), (6, .int x6), (7, .int x7)] rfl ?_
                exact V_X0_workOut_92 ih x1 x2 x3 x4 r5 x6 x7 x3 x6 σ hr5 hF
              · refine ov_iload dX0_workOut_86 5 rfl ?_
                refine ov_goto 92 dX0_workOut_88 (by decide) ?_
                refine ov_pick [1, 2, 3, 4, 5, 6, 7, 8] [(0, .ref 1), (1, .int x1), (2, .int x2), (3, .int x3), (4, .int x4), (5, .ref r5), (6, .int x6), (7, .int x7)] rfl ?_
                exact V_X0_workOut_92 ih x1 x2 x3 x4 r5 x6 x7 x4 x6 σ hr5 hF
            · refine ov_iload_n dX0_workOut_75 3 rfl ?_
              refine ov_goto 92 dX0_workOut_76 (by decide) ?_
              refine ov_pick [1, 2, 3, 4, 5, 6, 7, 8] [(0, .ref 1), (1, .int x1), (2, .int x2), (3, .int x3), (4, .int x4), (5, .ref r5), (6, .int x6), (7, .int x7)] rfl ?_
              exact V_X0_workOut_92 ih x1 x2 x3 x4 r5 x6 x7 x2 x6 σ hr5 hF
          · refine ov_iload dX0_workOut_64 0 rfl ?_
            refine ov_goto 92 dX0_workOut_66 (by decide) ?_
            refine ov_pick [1, 2, 3, 4, 5, 6, 7, 8] [(0, .ref 1), (1, .int x1), (2, .int x2), (3, .int x3), (4, .int x4), (5, .ref r5), (6, .int x6), (7, .int x7)] rfl ?_
            exact V_X0_workOut_92 ih x1 x2 x3 x4 r5 x6 x7 v14 x6 σ hr5 hF
def F_X0_workOut (x1 : Int32) (x2 : Int32) (x3 : Int32) (x4 : Int32) (σ : ovSt) (k : Int32 → ovSt → Prop) : Prop := (vp_in x1 14 ∧ (vp_in 0 96 ∧ (∀ σ17 : ovSt, σ17 = ov_up σ 20 (Int32.toNatClampNeg 0) 0 → (∃ n18, F_X0_workOut_21 k n18 x1 x2 x3 x4 (3 + Int32.toNatClampNeg x1) 0 0 σ17))))
set_option maxRecDepth 100000 in
set_option maxHeartbeats 4000000 in
theorem c_X0_workOut {x1 : Int32} {x2 : Int32} {x3 : Int32} {x4 : Int32} {σ : ovSt} {k : Int32 → ovSt → Prop} (hF : F_X0_workOut x1 x2 x3 x4 σ k) : ov_Ct 1 yX0_workOut cX0_workOut 9 (some .int) ov_S0 [.ref 1, .int x1, .int x2, .int x3, .int x4] σ (ovKi k) := by
  refine ov_Ct.of (by decide) (Nat.le_of_ble_eq_true rfl) ?_
  unfold F_X0_workOut at hF
  show vv_X0_workOut k 0 [(0, .ref 1), (1, .int x1), (2, .int x2), (3, .int x3), (4, .int x4)] [] σ
  refine ov_aload_n dX0_workOut_0 0 rfl ?_
  refine ov_getr (T := TX0) (kf := 0) dX0_workOut_1 qf_X0_11 sh_1 rfl (Nat.le_of_ble_eq_true rfl) rfl (by decide) ?_
  refine ov_iload_n dX0_workOut_4 1 rfl ?_
  have h15 := hF.1
  have hF := hF.2
  refine ov_aaloadI dX0_workOut_5 sh_2 h15 (ov_shL h15) (ov_shLn h15) ?_
  refine ov_astore dX0_workOut_6 (Nat.le_of_ble_eq_true rfl) [(5, .ref (3 + Int32.toNatClampNeg x1)), (0, .ref 1), (1, .int x1), (2, .int x2), (3, .int x3), (4, .int x4)] rfl ?_
  refine ov_iconst 0 (by decide) dX0_workOut_8 ?_
  refine ov_istore dX0_workOut_9 (Nat.le_of_ble_eq_true rfl) [(6, .int 0), (5, .ref (3 + Int32.toNatClampNeg x1)), (0, .ref 1), (1, .int x1), (2, .int x2), (3, .int x3), (4, .int x4)] rfl ?_
  refine ov_aload_n dX0_workOut_11 2 rfl ?_
  refine ov_getr (T := TX0) (kf := 4) dX0_workOut_12 qf_X0_26 sh_1 rfl (Nat.le_of_ble_eq_true rfl) rfl (by decide) ?_
  refine ov_iconst 0 (by decide) dX0_workOut_15 ?_
  refine ov_iconst 0 (by decide) dX0_workOut_16 ?_
  have h16 := hF.1
  have hF := hF.2
  refine ov_iastore dX0_workOut_17 sh_20 h16 ?_
  refine ov_nmS (fun σ17 es17 => ?_)
  have hF := hF σ17 es17
  refine ov_iconst 0 (by decide) dX0_workOut_18 ?_
  refine ov_istore dX0_workOut_19 (Nat.le_of_ble_eq_true rfl) [(7, .int 0), (6, .int 0), (5, .ref (3 + Int32.toNatClampNeg x1)), (0, .ref 1), (1, .int x1), (2, .int x2), (3, .int x3), (4, .int x4)] rfl ?_
  refine ov_pick [3, 4, 5, 6, 7, 2, 1, 0] [(0, .ref 1), (1, .int x1), (2, .int x2), (3, .int x3), (4, .int x4), (5, .ref (3 + Int32.toNatClampNeg x1)), (6, .int 0), (7, .int 0)] rfl ?_
  obtain ⟨n18, hF⟩ := hF
  exact V_X0_workOut_21 n18 x1 x2 x3 x4 (3 + Int32.toNatClampNeg x1) 0 0 σ17 (ov_shL2 h15) hF
/-! X5_held -/
abbrev vv_X5_held (k : Int32 → ovSt → Prop) (pc : Nat) (L : List (Nat × Value)) (st : List Value) (σ : ovSt) : Prop := ov_V (ovZs 1 yX5_held cX5_held 2) (ovKs (some .int) ov_S0 (ovKi k)) (0, 0) ov_S0 pc L st σ
def F_X5_held (x0 : Int32) (x1 : Int32) (σ : ovSt) (k : Int32 → ovSt → Prop) : Prop := (k (ov_max 0 (ov_min x0 x1)) σ)
set_option maxRecDepth 100000 in
set_option maxHeartbeats 4000000 in
theorem c_X5_held {x0 : Int32} {x1 : Int32} {σ : ovSt} {k : Int32 → ovSt → Prop} (hF : F_X5_held x0 x1 σ k) : ov_Ct 1 yX5_held cX5_held 2 (some .int) ov_S0 [.int x0, .int x1] σ (ovKi k) := by
  refine ov_Ct.of (by decide) (Nat.le_of_ble_eq_true rfl) ?_
  unfold F_X5_held at hF
  show vv_X5_held k 0 [(0, .int x0), (1, .int x1)] [] σ
  refine ov_iconst 0 (by decide) dX5_held_0 ?_
  refine ov_iload_n dX5_held_1 0 rfl ?_
  refine ov_iload_n dX5_held_2 1 rfl ?_
  refine ov_mmin dX5_held_3 lk_X5_127 (Nat.le_of_ble_eq_true rfl) (Nat.le_of_ble_eq_true rfl) (Nat.le_refl _) (Nat.le_refl _) ?_
  refine ov_mmax dX5_held_6 lk_X5_300 (Nat.le_of_ble_eq_true rfl) (Nat.le_of_ble_eq_true rfl) (Nat.le_refl _) (Nat.le_refl _) ?_
  exact ov_ireturn dX5_held_9 (Nat.le_refl _) (Nat.le_refl _) ⟨rfl, trivial, _, rfl, hF⟩
/-! X3_tasteAsHerb -/
abbrev vv_X3_tasteAsHerb (k : Int32 → ovSt → Prop) (pc : Nat) (L : List (Nat × Value)) (st : List Value) (σ : ovSt) : Prop := ov_V (ovZs 2 yX3_tasteAsHerb cX3_tasteAsHerb 5) (ovKs (some .int) ov_S0 (ovKi k)) (0, 0) ov_S0 pc L st σ
def F_X3_tasteAsHerb_55 (s : Nat) (k : Int32 → ovSt → Prop) (x2 : Int32) (t0 : Int32) (σ : ovSt) : Prop := (F_X5_held t0 x2 σ (fun v1 σ2 => (k (x2 - v1) σ2)))
set_option maxRecDepth 100000 in
set_option maxHeartbeats 4000000 in
theorem V_X3_tasteAsHerb_55 {k : Int32 → ovSt → Prop} {s : Nat} (hs : ov_stk s) (x2 : Int32) (t0 : Int32) (σ : ovSt) (hF : F_X3_tasteAsHerb_55 s k x2 t0 σ) : vv_X3_tasteAsHerb k 55 [(2, .int x2)] [.int t0] σ := by
  unfold F_X3_tasteAsHerb_55 at hF
  refine ov_istore dX3_tasteAsHerb_55 (Nat.le_of_ble_eq_true rfl) [(4, .int t0), (2, .int x2)] rfl ?_
  refine ov_iload_n dX3_tasteAsHerb_57 1 rfl ?_
  refine ov_iload dX3_tasteAsHerb_58 0 rfl ?_
  refine ov_iload_n dX3_tasteAsHerb_60 1 rfl ?_
  refine ov_callN [.int t0, .int x2] dX3_tasteAsHerb_61 (c_X5_held hF) (Nat.le_of_ble_eq_true rfl) (Nat.le_of_ble_eq_true rfl) lk_X3_107 (Nat.le_of_ble_eq_true rfl) (Nat.le_refl _) (Nat.le_refl _) (fun rr σ2 hF => ?_)
  obtain ⟨v1, rfl, hF⟩ := hF
  show vv_X3_tasteAsHerb k 64 [(4, .int t0), (2, .int x2)] [.int v1, .int x2] σ2
  refine ov_isub dX3_tasteAsHerb_64 ?_
  exact ov_ireturn dX3_tasteAsHerb_65 (Nat.le_refl _) (Nat.le_refl _) ⟨rfl, trivial, _, rfl, hF⟩
def F_X3_tasteAsHerb (s : Nat) (x1 : Int32) (σ : ovSt) (k : Int32 → ovSt → Prop) : Prop := (ov_stk s ∧ (F_X3_tasteAsThing s x1 σ (fun v3 σ4 => (if v3 = 0 then (k 0 σ4) else (vp_in 0 3 ∧ (∀ v6 : Int32, v6 = (σ4 (s + 5) (Int32.toNatClampNeg 0)) → (if 0 ≤ v6 then (vp_in x1 8 ∧ (F_X0_workOut v6 (σ4 (s + 3) (Int32.toNatClampNeg x1)) (σ4 (s + 4) (Int32.toNatClampNeg x1)) v3 σ4 (fun v8 σ9 => (F_X3_tasteAsHerb_55 s k v3 v8 σ9)))) else (vp_in x1 8 ∧ (F_X3_tasteAsHerb_55 s k v3 ((σ4 (s + 4) (Int32.toNatClampNeg x1)) * 2) σ4)))))))))
set_option maxRecDepth 100000 in
set_option maxHeartbeats 4000000 in
theorem c_X3_tasteAsHerb {s : Nat} {x1 : Int32} {σ : ovSt} {k : Int32 → ovSt → Prop} (hF : F_X3_tasteAsHerb s x1 σ k) : ov_Ct 2 yX3_tasteAsHerb cX3_tasteAsHerb 5 (some .int) ov_S0 [.ref s, .int x1] σ (ovKi k) := by
  refine ov_Ct.of (by decide) (Nat.le_of_ble_eq_true rfl) ?_
  unfold F_X3_tasteAsHerb at hF
  have hs := hF.1
  have hF := hF.2
  show vv_X3_tasteAsHerb k 0 [(0, .ref s), (1, .int x1)] [] σ
  refine ov_aload_n dX3_tasteAsHerb_0 0 rfl ?_
  refine ov_iload_n dX3_tasteAsHerb_1 1 rfl ?_
  refine ov_callV [.int x1] dX3_tasteAsHerb_2 (c_X3_tasteAsThing hF) (Nat.le_of_ble_eq_true rfl) (Nat.le_of_ble_eq_true rfl) lk_X3_98 (ov_stk0 hs) rfl (Nat.le_of_ble_eq_true rfl) (Nat.le_refl _) (Nat.le_refl _) (fun rr σ4 hF => ?_)
  obtain ⟨v3, rfl, hF⟩ := hF
  show vv_X3_tasteAsHerb k 5 [(0, .ref s), (1, .int x1)] [.int v3] σ4
  refine ov_istore_n dX3_tasteAsHerb_5 (Nat.le_of_ble_eq_true rfl) [(2, .int v3), (0, .ref s), (1, .int x1)] rfl ?_
  refine ov_iload_n dX3_tasteAsHerb_6 0 rfl ?_
  refine ov_if_ne 12 dX3_tasteAsHerb_7 (by decide) hF (fun hF => ?_) (fun hF => ?_)
  · refine ov_aload_n dX3_tasteAsHerb_12 1 rfl ?_
    refine ov_getr (T := TX3) (kf := 5) dX3_tasteAsHerb_13 qf_X3_24 (ov_stk0 hs) rfl (Nat.le_of_ble_eq_true rfl) rfl (ov_stkn hs 5 (by decide)) ?_
    refine ov_iconst 0 (by decide) dX3_tasteAsHerb_16 ?_
    have h5 := hF.1
    have hF := hF.2
    refine ov_iaload dX3_tasteAsHerb_17 (ov_stk5 hs) h5 ?_
    refine ov_nmI (fun v6 ev6 => ?_)
    have hF := hF v6 ev6
    refine ov_istore_n dX3_tasteAsHerb_18 (Nat.le_of_ble_eq_true rfl) [(3, .int v6), (2, .int v3), (0, .ref s), (1, .int x1)] rfl ?_
    refine ov_iload_n dX3_tasteAsHerb_19 0 rfl ?_
    refine ov_if_ge 34 dX3_tasteAsHerb_20 (by decide) hF (fun hF => ?_) (fun hF => ?_)
    · refine ov_aload_n dX3_tasteAsHerb_34 2 rfl ?_
      refine ov_getr (T := TX3) (kf := 0) dX3_tasteAsHerb_35 qf_X3_52 (ov_stk0 hs) rfl (Nat.le_of_ble_eq_true rfl) rfl (by decide) ?_
      refine ov_iload_n dX3_tasteAsHerb_38 0 rfl ?_
      refine ov_aload_n dX3_tasteAsHerb_39 2 rfl ?_
      refine ov_getr (T := TX3) (kf := 3) dX3_tasteAsHerb_40 qf_X3_18 (ov_stk0 hs) rfl (Nat.le_of_ble_eq_true rfl) rfl (ov_stkn hs 3 (by decide)) ?_
      refine ov_iload_n dX3_tasteAsHerb_43 3 rfl ?_
      have h7 := hF.1
      have hF := hF.2
      refine ov_iaload dX3_tasteAsHerb_44 (ov_stk3 hs) h7 ?_
      refine ov_aload_n dX3_tasteAsHerb_45 2 rfl ?_
      refine ov_getr (T := TX3) (kf := 4) dX3_tasteAsHerb_46 qf_X3_21 (ov_stk0 hs) rfl (Nat.le_of_ble_eq_true rfl) rfl (ov_stkn hs 4 (by decide)) ?_
      refine ov_iload_n dX3_tasteAsHerb_49 3 rfl ?_
      refine ov_iaload dX3_tasteAsHerb_50 (ov_stk4 hs) h7 ?_
      refine ov_iload_n dX3_tasteAsHerb_51 1 rfl ?_
      refine ov_callV [.int v6, .int (σ4 (s + 3) (Int32.toNatClampNeg x1)), .int (σ4 (s + 4) (Int32.toNatClampNeg x1)), .int v3] dX3_tasteAsHerb_52 (c_X0_workOut hF) (Nat.le_of_ble_eq_true rfl) (Nat.le_of_ble_eq_true rfl) lk_X3_101 sh_1 rfl (Nat.le_of_ble_eq_true rfl) (Nat.le_refl _) (Nat.le_refl _) (fun rr σ9 hF => ?_)
      obtain ⟨v8, rfl, hF⟩ := hF
      show vv_X3_tasteAsHerb k 55 [(3, .int v6), (2, .int v3), (0, .ref s), (1, .int x1)] [.int v8] σ9
      refine ov_pick [1] [(2, .int v3)] rfl ?_
      exact V_X3_tasteAsHerb_55 hs v3 v8 σ9 hF
    · refine ov_aload_n dX3_tasteAsHerb_23 2 rfl ?_
      refine ov_getr (T := TX3) (kf := 4) dX3_tasteAsHerb_24 qf_X3_21 (ov_stk0 hs) rfl (Nat.le_of_ble_eq_true rfl) rfl (ov_stkn hs 4 (by decide)) ?_
      refine ov_iload_n dX3_tasteAsHerb_27 3 rfl ?_
      have h10 := hF.1
      have hF := hF.2
      refine ov_iaload dX3_tasteAsHerb_28 (ov_stk4 hs) h10 ?_
      refine ov_iconst 2 (by decide) dX3_tasteAsHerb_29 ?_
      refine ov_imul dX3_tasteAsHerb_30 ?_
      refine ov_goto 55 dX3_tasteAsHerb_31 (by decide) ?_
      refine ov_pick [1] [(2, .int v3)] rfl ?_
      exact V_X3_tasteAsHerb_55 hs v3 ((σ4 (s + 4) (Int32.toNatClampNeg x1)) * 2) σ4 hF
  · refine ov_iconst 0 (by decide) dX3_tasteAsHerb_10 ?_
    exact ov_ireturn dX3_tasteAsHerb_11 (Nat.le_refl _) (Nat.le_refl _) ⟨rfl, trivial, _, rfl, hF⟩
/-! X3_tasteOf -/
abbrev vv_X3_tasteOf (k : Int32 → ovSt → Prop) (pc : Nat) (L : List (Nat × Value)) (st : List Value) (σ : ovSt) : Prop := ov_V (ovZs 3 yX3_tasteOf cX3_tasteOf 2) (ovKs (some .int) ov_S0 (ovKi k)) (0, 0) ov_S0 pc L st σ
def F_X3_tasteOf (s : Nat) (x1 : Int32) (σ : ovSt) (k : Int32 → ovSt → Prop) : Prop := (ov_stk s ∧ (vp_in x1 8 ∧ (if (σ (s + 1) (Int32.toNatClampNeg x1)) = 1 then (F_X3_tasteAsBone s x1 σ (fun v17 σ18 => (k v17 σ18))) else (if (σ (s + 1) (Int32.toNatClampNeg x1)) = 2 then (F_X3_tasteAsHerb s x1 σ (fun v15 σ16 => (k v15 σ16))) else (if (σ (s + 1) (Int32.toNatClampNeg x1)) = 3 then (F_X3_tasteAsBone s x1 σ (fun v13 σ14 => (k (2 * v13) σ14))) else (if (σ (s + 1) (Int32.toNatClampNeg x1)) = 4 then (F_X3_tasteAsHerb s x1 σ (fun v11 σ12 => (k (v11 / 2) σ12))) else (if (σ (s + 1) (Int32.toNatClampNeg x1)) = 5 then (F_X3_tasteAsThing s x1 σ (fun v9 σ10 => (k (2 * v9) σ10))) else (F_X3_tasteAsThing s x1 σ (fun v2 σ3 => (k v2 σ3))))))))))
set_option maxRecDepth 100000 in
set_option maxHeartbeats 4000000 in
theorem c_X3_tasteOf {s : Nat} {x1 : Int32} {σ : ovSt} {k : Int32 → ovSt → Prop} (hF : F_X3_tasteOf s x1 σ k) : ov_Ct 3 yX3_tasteOf cX3_tasteOf 2 (some .int) ov_S0 [.ref s, .int x1] σ (ovKi k) := by
  refine ov_Ct.of (by decide) (Nat.le_of_ble_eq_true rfl) ?_
  unfold F_X3_tasteOf at hF
  have hs := hF.1
  have hF := hF.2
  show vv_X3_tasteOf k 0 [(0, .ref s), (1, .int x1)] [] σ
  refine ov_aload_n dX3_tasteOf_0 0 rfl ?_
  refine ov_getr (T := TX3) (kf := 1) dX3_tasteOf_1 qf_X3_9 (ov_stk0 hs) rfl (Nat.le_of_ble_eq_true rfl) rfl (ov_stkn hs 1 (by decide)) ?_
  refine ov_iload_n dX3_tasteOf_4 1 rfl ?_
  have h1 := hF.1
  have hF := hF.2
  refine ov_iaload dX3_tasteOf_5 (ov_stk1 hs) h1 ?_
  refine ov_br hF (fun z4 hF => ?_) (fun z4 hF => ?_)
  · refine ov_tin 1 34 40 dX3_tasteOf_6 z4 (by decide) (by decide) rfl (by decide) ?_
    refine ov_aload_n dX3_tasteOf_40 0 rfl ?_
    refine ov_iload_n dX3_tasteOf_41 1 rfl ?_
    refine ov_callV [.int x1] dX3_tasteOf_42 (c_X3_tasteAsBone hF) (Nat.le_of_ble_eq_true rfl) (Nat.le_of_ble_eq_true rfl) lk_X3_92 (ov_stk0 hs) rfl (Nat.le_of_ble_eq_true rfl) (Nat.le_refl _) (Nat.le_refl _) (fun rr σ18 hF => ?_)
    obtain ⟨v17, rfl, hF⟩ := hF
    show vv_X3_tasteOf k 45 [(0, .ref s), (1, .int x1)] [.int v17] σ18
    exact ov_ireturn dX3_tasteOf_45 (Nat.le_refl _) (Nat.le_refl _) ⟨rfl, trivial, _, rfl, hF⟩
  · refine ov_br hF (fun z5 hF => ?_) (fun z5 hF => ?_)
    · refine ov_tin 2 48 54 dX3_tasteOf_6 z5 (by decide) (by decide) rfl (by decide) ?_
      refine ov_aload_n dX3_tasteOf_54 0 rfl ?_
      refine ov_iload_n dX3_tasteOf_55 1 rfl ?_
      refine ov_callV [.int x1] dX3_tasteOf_56 (c_X3_tasteAsHerb hF) (Nat.le_of_ble_eq_true rfl) (Nat.le_of_ble_eq_true rfl) lk_X3_95 (ov_stk0 hs) rfl (Nat.le_of_ble_eq_true rfl) (Nat.le_refl _) (Nat.le_refl _) (fun rr σ16 hF => ?_)
      obtain ⟨v15, rfl, hF⟩ := hF
      show vv_X3_tasteOf k 59 [(0, .ref s), (1, .int x1)] [.int v15] σ16
      exact ov_ireturn dX3_tasteOf_59 (Nat.le_refl _) (Nat.le_refl _) ⟨rfl, trivial, _, rfl, hF⟩
    · refine ov_br hF (fun z6 hF => ?_) (fun z6 hF => ?_)
      · refine ov_tin 3 40 46 dX3_tasteOf_6 z6 (by decide) (by decide) rfl (by decide) ?_
        refine ov_iconst 2 (by decide) dX3_tasteOf_46 ?_
        refine ov_aload_n dX3_tasteOf_47 0 rfl ?_
        refine ov_iload_n dX3_tasteOf_48 1 rfl ?_
        refine ov_callV [.int x1] dX3_tasteOf_49 (c_X3_tasteAsBone hF) (Nat.le_of_ble_eq_true rfl) (Nat.le_of_ble_eq_true rfl) lk_X3_92 (ov_stk0 hs) rfl (Nat.le_of_ble_eq_true rfl) (Nat.le_refl _) (Nat.le_refl _) (fun rr σ14 hF => ?_)
        obtain ⟨v13, rfl, hF⟩ := hF
        show vv_X3_tasteOf k 52 [(0, .ref s), (1, .int x1)] [.int v13, .int 2] σ14
        refine ov_imul dX3_tasteOf_52 ?_
        exact ov_ireturn dX3_tasteOf_53 (Nat.le_refl _) (Nat.le_refl _) ⟨rfl, trivial, _, rfl, hF⟩
      · refine ov_br hF (fun z7 hF => ?_) (fun z7 hF => ?_)
        · refine ov_tin 4 54 60 dX3_tasteOf_6 z7 (by decide) (by decide) rfl (by decide) ?_
          refine ov_aload_n dX3_tasteOf_60 0 rfl ?_
          refine ov_iload_n dX3_tasteOf_61 1 rfl ?_
          refine ov_callV [.int x1] dX3_tasteOf_62 (c_X3_tasteAsHerb hF) (Nat.le_of_ble_eq_true rfl) (Nat.le_of_ble_eq_true rfl) lk_X3_95 (ov_stk0 hs) rfl (Nat.le_of_ble_eq_true rfl) (Nat.le_refl _) (Nat.le_refl _) (fun rr σ12 hF => ?_)
          obtain ⟨v11, rfl, hF⟩ := hF
          show vv_X3_tasteOf k 65 [(0, .ref s), (1, .int x1)] [.int v11] σ12
          refine ov_iconst 2 (by decide) dX3_tasteOf_65 ?_
          refine ov_idiv (by decide) dX3_tasteOf_66 ?_
          exact ov_ireturn dX3_tasteOf_67 (Nat.le_refl _) (Nat.le_refl _) ⟨rfl, trivial, _, rfl, hF⟩
        · refine ov_br hF (fun z8 hF => ?_) (fun z8 hF => ?_)
          · refine ov_tin 5 62 68 dX3_tasteOf_6 z8 (by decide) (by decide) rfl (by decide) ?_
            refine ov_iconst 2 (by decide) dX3_tasteOf_68 ?_
            refine ov_aload_n dX3_tasteOf_69 0 rfl ?_
            refine ov_iload_n dX3_tasteOf_70 1 rfl ?_
            refine ov_callV [.int x1] dX3_tasteOf_71 (c_X3_tasteAsThing hF) (Nat.le_of_ble_eq_true rfl) (Nat.le_of_ble_eq_true rfl) lk_X3_98 (ov_stk0 hs) rfl (Nat.le_of_ble_eq_true rfl) (Nat.le_refl _) (Nat.le_refl _) (fun rr σ10 hF => ?_)
            obtain ⟨v9, rfl, hF⟩ := hF
            show vv_X3_tasteOf k 74 [(0, .ref s), (1, .int x1)] [.int v9, .int 2] σ10
            refine ov_imul dX3_tasteOf_74 ?_
            exact ov_ireturn dX3_tasteOf_75 (Nat.le_refl _) (Nat.le_refl _) ⟨rfl, trivial, _, rfl, hF⟩
          · refine ov_tout 76 dX3_tasteOf_6 (by have q0 := lv_neT (k := 1) (a := 1) z4 rfl; have q1 := lv_neT (k := 2) (a := 2) z5 rfl; have q2 := lv_neT (k := 3) (a := 3) z6 rfl; have q3 := lv_neT (k := 4) (a := 4) z7 rfl; have q4 := lv_neT (k := 5) (a := 5) z8 rfl; omega) (by decide) ?_
            refine ov_aload_n dX3_tasteOf_76 0 rfl ?_
            refine ov_iload_n dX3_tasteOf_77 1 rfl ?_
            refine ov_callV [.int x1] dX3_tasteOf_78 (c_X3_tasteAsThing hF) (Nat.le_of_ble_eq_true rfl) (Nat.le_of_ble_eq_true rfl) lk_X3_98 (ov_stk0 hs) rfl (Nat.le_of_ble_eq_true rfl) (Nat.le_refl _) (Nat.le_refl _) (fun rr σ3 hF => ?_)
            obtain ⟨v2, rfl, hF⟩ := hF
            show vv_X3_tasteOf k 81 [(0, .ref s), (1, .int x1)] [.int v2] σ3
            exact ov_ireturn dX3_tasteOf_81 (Nat.le_refl _) (Nat.le_refl _) ⟨rfl, trivial, _, rfl, hF⟩
/-! X5_worthOf -/
abbrev vv_X5_worthOf (k : Int32 → ovSt → Prop) (pc : Nat) (L : List (Nat × Value)) (st : List Value) (σ : ovSt) : Prop := ov_V (ovZs 0 yX5_worthOf cX5_worthOf 2) (ovKs (some .int) ov_S0 (ovKi k)) (0, 0) ov_S0 pc L st σ
def F_X5_worthOf (x0 : Int32) (x1 : Int32) (σ : ovSt) (k : Int32 → ovSt → Prop) : Prop := (if x0 = 1 then (k (x1 + 9) σ) else (if x0 = 2 then (k (40 - x1) σ) else (if x0 = 3 then (k (2 * (x1 + 9)) σ) else (if x0 = 4 then (k ((40 - x1) - 3) σ) else (if x0 = 5 then (k 60 σ) else (k x1 σ))))))
set_option maxRecDepth 100000 in
set_option maxHeartbeats 4000000 in
theorem c_X5_worthOf {x0 : Int32} {x1 : Int32} {σ : ovSt} {k : Int32 → ovSt → Prop} (hF : F_X5_worthOf x0 x1 σ k) : ov_Ct 0 yX5_worthOf cX5_worthOf 2 (some .int) ov_S0 [.int x0, .int x1] σ (ovKi k) := by
  refine ov_Ct.of (by decide) (Nat.le_of_ble_eq_true rfl) ?_
  unfold F_X5_worthOf at hF
  show vv_X5_worthOf k 0 [(0, .int x0), (1, .int x1)] [] σ
  refine ov_iload_n dX5_worthOf_0 0 rfl ?_
  refine ov_br hF (fun z1 hF => ?_) (fun z1 hF => ?_)
  · refine ov_tin 1 35 36 dX5_worthOf_1 z1 (by decide) (by decide) rfl (by decide) ?_
    refine ov_iload_n dX5_worthOf_36 1 rfl ?_
    refine ov_bipush 9 (by decide) dX5_worthOf_37 ?_
    refine ov_iadd dX5_worthOf_39 ?_
    exact ov_ireturn dX5_worthOf_40 (Nat.le_refl _) (Nat.le_refl _) ⟨rfl, trivial, _, rfl, hF⟩
  · refine ov_br hF (fun z2 hF => ?_) (fun z2 hF => ?_)
    · refine ov_tin 2 47 48 dX5_worthOf_1 z2 (by decide) (by decide) rfl (by decide) ?_
      refine ov_bipush 40 (by decide) dX5_worthOf_48 ?_
      refine ov_iload_n dX5_worthOf_50 1 rfl ?_
      refine ov_isub dX5_worthOf_51 ?_
      exact ov_ireturn dX5_worthOf_52 (Nat.le_refl _) (Nat.le_refl _) ⟨rfl, trivial, _, rfl, hF⟩
    · refine ov_br hF (fun z3 hF => ?_) (fun z3 hF => ?_)
      · refine ov_tin 3 40 41 dX5_worthOf_1 z3 (by decide) (by decide) rfl (by decide) ?_
        refine ov_iconst 2 (by decide) dX5_worthOf_41 ?_
        refine ov_iload_n dX5_worthOf_42 1 rfl ?_
        refine ov_bipush 9 (by decide) dX5_worthOf_43 ?_
        refine ov_iadd dX5_worthOf_45 ?_
        refine ov_imul dX5_worthOf_46 ?_
        exact ov_ireturn dX5_worthOf_47 (Nat.le_refl _) (Nat.le_refl _) ⟨rfl, trivial, _, rfl, hF⟩
      · refine ov_br hF (fun z4 hF => ?_) (fun z4 hF => ?_)
        · refine ov_tin 4 52 53 dX5_worthOf_1 z4 (by decide) (by decide) rfl (by decide) ?_
          refine ov_bipush 40 (by decide) dX5_worthOf_53 ?_
          refine ov_iload_n dX5_worthOf_55 1 rfl ?_
          refine ov_isub dX5_worthOf_56 ?_
          refine ov_iconst 3 (by decide) dX5_worthOf_57 ?_
          refine ov_isub dX5_worthOf_58 ?_
          exact ov_ireturn dX5_worthOf_59 (Nat.le_refl _) (Nat.le_refl _) ⟨rfl, trivial, _, rfl, hF⟩
        · refine ov_br hF (fun z5 hF => ?_) (fun z5 hF => ?_)
          · refine ov_tin 5 59 60 dX5_worthOf_1 z5 (by decide) (by decide) rfl (by decide) ?_
            refine ov_bipush 60 (by decide) dX5_worthOf_60 ?_
            exact ov_ireturn dX5_worthOf_62 (Nat.le_refl _) (Nat.le_refl _) ⟨rfl, trivial, _, rfl, hF⟩
          · refine ov_tout 63 dX5_worthOf_1 (by have q0 := lv_neT (k := 1) (a := 1) z1 rfl; have q1 := lv_neT (k := 2) (a := 2) z2 rfl; have q2 := lv_neT (k := 3) (a := 3) z3 rfl; have q3 := lv_neT (k := 4) (a := 4) z4 rfl; have q4 := lv_neT (k := 5) (a := 5) z5 rfl; omega) (by decide) ?_
            refine ov_iload_n dX5_worthOf_63 1 rfl ?_
            exact ov_ireturn dX5_worthOf_64 (Nat.le_refl _) (Nat.le_refl _) ⟨rfl, trivial, _, rfl, hF⟩
/-! X3_billOf -/
abbrev vv_X3_billOf (k : Int32 → ovSt → Prop) (pc : Nat) (L : List (Nat × Value)) (st : List Value) (σ : ovSt) : Prop := ov_V (ovZs 4 yX3_billOf cX3_billOf 4) (ovKs (some .int) ov_S0 (ovKi k)) (0, 0) ov_S0 pc L st σ
def F_X3_billOf_46 (s : Nat) (k : Int32 → ovSt → Prop) (t0 : Int32) (σ : ovSt) : Prop := (k t0 σ)
set_option maxRecDepth 100000 in
set_option maxHeartbeats 4000000 in
theorem V_X3_billOf_46 {k : Int32 → ovSt → Prop} {s : Nat} (hs : ov_stk s) (t0 : Int32) (σ : ovSt) (hF : F_X3_billOf_46 s k t0 σ) : vv_X3_billOf k 46 [] [.int t0] σ := by
  unfold F_X3_billOf_46 at hF
  exact ov_ireturn dX3_billOf_46 (Nat.le_refl _) (Nat.le_refl _) ⟨rfl, trivial, _, rfl, hF⟩
def F_X3_billOf (s : Nat) (x1 : Int32) (σ : ovSt) (k : Int32 → ovSt → Prop) : Prop := (ov_stk s ∧ (vp_in 1 3 ∧ (∀ v2 : Int32, v2 = (σ (s + 5) (Int32.toNatClampNeg 1)) → (F_X3_tasteOf s x1 σ (fun v3 σ4 => (if 0 ≤ v2 then (vp_in x1 8 ∧ (F_X5_worthOf (σ4 (s + 1) (Int32.toNatClampNeg x1)) (σ4 (s + 2) (Int32.toNatClampNeg x1)) σ4 (fun v6 σ7 => (F_X0_workOut v2 v3 v6 0 σ7 (fun v8 σ9 => (F_X3_billOf_46 s k v8 σ9)))))) else (F_X3_billOf_46 s k v3 σ4)))))))
set_option maxRecDepth 100000 in
set_option maxHeartbeats 4000000 in
theorem c_X3_billOf {s : Nat} {x1 : Int32} {σ : ovSt} {k : Int32 → ovSt → Prop} (hF : F_X3_billOf s x1 σ k) : ov_Ct 4 yX3_billOf cX3_billOf 4 (some .int) ov_S0 [.ref s, .int x1] σ (ovKi k) := by
  refine ov_Ct.of (by decide) (Nat.le_of_ble_eq_true rfl) ?_
  unfold F_X3_billOf at hF
  have hs := hF.1
  have hF := hF.2
  show vv_X3_billOf k 0 [(0, .ref s), (1, .int x1)] [] σ
  refine ov_aload_n dX3_billOf_0 0 rfl ?_
  refine ov_getr (T := TX3) (kf := 5) dX3_billOf_1 qf_X3_24 (ov_stk0 hs) rfl (Nat.le_of_ble_eq_true rfl) rfl (ov_stkn hs 5 (by decide)) ?_
  refine ov_iconst 1 (by decide) dX3_billOf_4 ?_
  have h1 := hF.1
  have hF := hF.2
  refine ov_iaload dX3_billOf_5 (ov_stk5 hs) h1 ?_
  refine ov_nmI (fun v2 ev2 => ?_)
  have hF := hF v2 ev2
  refine ov_istore_n dX3_billOf_6 (Nat.le_of_ble_eq_true rfl) [(2, .int v2), (0, .ref s), (1, .int x1)] rfl ?_
  refine ov_aload_n dX3_billOf_7 1 rfl ?_
  refine ov_iload_n dX3_billOf_8 2 rfl ?_
  refine ov_callV [.int x1] dX3_billOf_9 (c_X3_tasteOf hF) (Nat.le_of_ble_eq_true rfl) (Nat.le_of_ble_eq_true rfl) lk_X3_110 (ov_stk0 hs) rfl (Nat.le_of_ble_eq_true rfl) (Nat.le_refl _) (Nat.le_refl _) (fun rr σ4 hF => ?_)
  obtain ⟨v3, rfl, hF⟩ := hF
  show vv_X3_billOf k 12 [(2, .int v2), (0, .ref s), (1, .int x1)] [.int v3] σ4
  refine ov_istore_n dX3_billOf_12 (Nat.le_of_ble_eq_true rfl) [(3, .int v3), (2, .int v2), (0, .ref s), (1, .int x1)] rfl ?_
  refine ov_iload_n dX3_billOf_13 1 rfl ?_
  refine ov_if_ge 21 dX3_billOf_14 (by decide) hF (fun hF => ?_) (fun hF => ?_)
  · refine ov_aload_n dX3_billOf_21 2 rfl ?_
    refine ov_getr (T := TX3) (kf := 0) dX3_billOf_22 qf_X3_52 (ov_stk0 hs) rfl (Nat.le_of_ble_eq_true rfl) rfl (by decide) ?_
    refine ov_iload_n dX3_billOf_25 1 rfl ?_
    refine ov_iload_n dX3_billOf_26 0 rfl ?_
    refine ov_aload_n dX3_billOf_27 2 rfl ?_
    refine ov_getr (T := TX3) (kf := 1) dX3_billOf_28 qf_X3_9 (ov_stk0 hs) rfl (Nat.le_of_ble_eq_true rfl) rfl (ov_stkn hs 1 (by decide)) ?_
    refine ov_iload_n dX3_billOf_31 3 rfl ?_
    have h5 := hF.1
    have hF := hF.2
    refine ov_iaload dX3_billOf_32 (ov_stk1 hs) h5 ?_
    refine ov_aload_n dX3_billOf_33 2 rfl ?_
    refine ov_getr (T := TX3) (kf := 2) dX3_billOf_34 qf_X3_15 (ov_stk0 hs) rfl (Nat.le_of_ble_eq_true rfl) rfl (ov_stkn hs 2 (by decide)) ?_
    refine ov_iload_n dX3_billOf_37 3 rfl ?_
    refine ov_iaload dX3_billOf_38 (ov_stk2 hs) h5 ?_
    refine ov_callN [.int (σ4 (s + 1) (Int32.toNatClampNeg x1)), .int (σ4 (s + 2) (Int32.toNatClampNeg x1))] dX3_billOf_39 (c_X5_worthOf hF) (Nat.le_of_ble_eq_true rfl) (Nat.le_of_ble_eq_true rfl) lk_X3_113 (Nat.le_of_ble_eq_true rfl) (Nat.le_refl _) (Nat.le_refl _) (fun rr σ7 hF => ?_)
    obtain ⟨v6, rfl, hF⟩ := hF
    show vv_X3_billOf k 42 [(3, .int v3), (2, .int v2), (0, .ref s), (1, .int x1)] [.int v6, .int v3, .int v2, .ref 1] σ7
    refine ov_iconst 0 (by decide) dX3_billOf_42 ?_
    refine ov_callV [.int v2, .int v3, .int v6, .int 0] dX3_billOf_43 (c_X0_workOut hF) (Nat.le_of_ble_eq_true rfl) (Nat.le_of_ble_eq_true rfl) lk_X3_101 sh_1 rfl (Nat.le_of_ble_eq_true rfl) (Nat.le_refl _) (Nat.le_refl _) (fun rr σ9 hF => ?_)
    obtain ⟨v8, rfl, hF⟩ := hF
    show vv_X3_billOf k 46 [(3, .int v3), (2, .int v2), (0, .ref s), (1, .int x1)] [.int v8] σ9
    refine ov_pick [] [] rfl ?_
    exact V_X3_billOf_46 hs v8 σ9 hF
  · refine ov_iload_n dX3_billOf_17 0 rfl ?_
    refine ov_goto 46 dX3_billOf_18 (by decide) ?_
    refine ov_pick [] [] rfl ?_
    exact V_X3_billOf_46 hs v3 σ4 hF
/-! X3_amountOfAll -/
abbrev vv_X3_amountOfAll (k : Int32 → ovSt → Prop) (pc : Nat) (L : List (Nat × Value)) (st : List Value) (σ : ovSt) : Prop := ov_V (ovZs 0 yX3_amountOfAll cX3_amountOfAll 3) (ovKs (some .int) ov_S0 (ovKi k)) (0, 0) ov_S0 pc L st σ
def F_X3_amountOfAll_4 (s : Nat) (k : Int32 → ovSt → Prop) : Nat → Int32 → Int32 → ovSt → Prop
  | 0 => fun _ _ _ => False
  | n + 1 => fun x1 x2 σ => (if (σ s 6) ≤ x2 then (k x1 σ) else (vp_in x2 8 ∧ (∀ v2 : Int32, v2 = (x1 + (σ (s + 3) (Int32.toNatClampNeg x2))) → F_X3_amountOfAll_4 s k n v2 (x2 + 1) σ)))
set_option maxRecDepth 100000 in
set_option maxHeartbeats 4000000 in
theorem V_X3_amountOfAll_4 {k : Int32 → ovSt → Prop} {s : Nat} (hs : ov_stk s) : ∀ (n : Nat) (x1 : Int32) (x2 : Int32) (σ : ovSt), F_X3_amountOfAll_4 s k n x1 x2 σ → vv_X3_amountOfAll k 4 [(0, .ref s), (1, .int x1), (2, .int x2)] [] σ := by
  intro n
  induction n with
  | zero => intro x1 x2 σ hF; exact hF.elim
  | succ n ih =>
    intro x1 x2 σ hF
    unfold F_X3_amountOfAll_4 at hF
    refine ov_iload_n dX3_amountOfAll_4 2 rfl ?_
    refine ov_aload_n dX3_amountOfAll_5 0 rfl ?_
    refine ov_geti (T := TX3) (kf := 6) dX3_amountOfAll_6 qf_X3_27 (ov_stk0 hs) rfl (Nat.le_of_ble_eq_true rfl) rfl ?_
    refine ov_icmp_ge 27 dX3_amountOfAll_9 (by decide) hF (fun hF => ?_) (fun hF => ?_)
    · refine ov_iload_n dX3_amountOfAll_27 1 rfl ?_
      exact ov_ireturn dX3_amountOfAll_28 (Nat.le_refl _) (Nat.le_refl _) ⟨rfl, trivial, _, rfl, hF⟩
    · refine ov_iload_n dX3_amountOfAll_12 1 rfl ?_
      refine ov_aload_n dX3_amountOfAll_13 0 rfl ?_
      refine ov_getr (T := TX3) (kf := 3) dX3_amountOfAll_14 qf_X3_18 (ov_stk0 hs) rfl (Nat.le_of_ble_eq_true rfl) rfl (ov_stkn hs 3 (by decide)) ?_
      refine ov_iload_n dX3_amountOfAll_17 2 rfl ?_
      have h1 := hF.1
      have hF := hF.2
      refine ov_iaload dX3_amountOfAll_18 (ov_stk3 hs) h1 ?_
      refine ov_iadd dX3_amountOfAll_19 ?_
      refine ov_nmI (fun v2 ev2 => ?_)
      have hF := hF v2 ev2
      refine ov_istore_n dX3_amountOfAll_20 (Nat.le_of_ble_eq_true rfl) [(1, .int v2), (0, .ref s), (2, .int x2)] rfl ?_
      refine ov_iinc dX3_amountOfAll_21 2 rfl (x2 + 1) rfl (Nat.le_of_ble_eq_true rfl) [(2, .int (x2 + 1)), (1, .int v2), (0, .ref s)] rfl ?_
      refine ov_goto 4 dX3_amountOfAll_24 (by decide) ?_
      refine ov_pick [2, 1, 0] [(0, .ref s), (1, .int v2), (2, .int (x2 + 1))] rfl ?_
      exact ih v2 (x2 + 1) σ hF
def F_X3_amountOfAll (s : Nat) (σ : ovSt) (k : Int32 → ovSt → Prop) : Prop := (ov_stk s ∧ (∃ n3, F_X3_amountOfAll_4 s k n3 0 0 σ))
set_option maxRecDepth 100000 in
set_option maxHeartbeats 4000000 in
theorem c_X3_amountOfAll {s : Nat} {σ : ovSt} {k : Int32 → ovSt → Prop} (hF : F_X3_amountOfAll s σ k) : ov_Ct 0 yX3_amountOfAll cX3_amountOfAll 3 (some .int) ov_S0 [.ref s] σ (ovKi k) := by
  refine ov_Ct.of (by decide) (Nat.le_of_ble_eq_true rfl) ?_
  unfold F_X3_amountOfAll at hF
  have hs := hF.1
  have hF := hF.2
  show vv_X3_amountOfAll k 0 [(0, .ref s)] [] σ
  refine ov_iconst 0 (by decide) dX3_amountOfAll_0 ?_
  refine ov_istore_n dX3_amountOfAll_1 (Nat.le_of_ble_eq_true rfl) [(1, .int 0), (0, .ref s)] rfl ?_
  refine ov_iconst 0 (by decide) dX3_amountOfAll_2 ?_
  refine ov_istore_n dX3_amountOfAll_3 (Nat.le_of_ble_eq_true rfl) [(2, .int 0), (1, .int 0), (0, .ref s)] rfl ?_
  refine ov_pick [2, 1, 0] [(0, .ref s), (1, .int 0), (2, .int 0)] rfl ?_
  obtain ⟨n3, hF⟩ := hF
  exact V_X3_amountOfAll_4 hs n3 0 0 σ hF
/-! X3_shareOf -/
abbrev vv_X3_shareOf (k : Int32 → ovSt → Prop) (pc : Nat) (L : List (Nat × Value)) (st : List Value) (σ : ovSt) : Prop := ov_V (ovZs 1 yX3_shareOf cX3_shareOf 3) (ovKs (some .int) ov_S0 (ovKi k)) (0, 0) ov_S0 pc L st σ
def F_X3_shareOf_28 (s : Nat) (k : Int32 → ovSt → Prop) (t0 : Int32) (σ : ovSt) : Prop := (k t0 σ)
set_option maxRecDepth 100000 in
set_option maxHeartbeats 4000000 in
theorem V_X3_shareOf_28 {k : Int32 → ovSt → Prop} {s : Nat} (hs : ov_stk s) (t0 : Int32) (σ : ovSt) (hF : F_X3_shareOf_28 s k t0 σ) : vv_X3_shareOf k 28 [] [.int t0] σ := by
  unfold F_X3_shareOf_28 at hF
  exact ov_ireturn dX3_shareOf_28 (Nat.le_refl _) (Nat.le_refl _) ⟨rfl, trivial, _, rfl, hF⟩
def F_X3_shareOf (s : Nat) (x1 : Int32) (σ : ovSt) (k : Int32 → ovSt → Prop) : Prop := (ov_stk s ∧ (F_X3_amountOfAll s σ (fun v1 σ2 => (if v1 = 0 then (F_X3_shareOf_28 s k 0 σ2) else (vp_in x1 8 ∧ (¬ (Int32.toInt64 v1) = 0 ∧ (F_X3_shareOf_28 s k (Int64.toInt32 ((10000 * (Int32.toInt64 (σ2 (s + 3) (Int32.toNatClampNeg x1)))) / (Int32.toInt64 v1))) σ2)))))))
set_option maxRecDepth 100000 in
set_option maxHeartbeats 4000000 in
theorem c_X3_shareOf {s : Nat} {x1 : Int32} {σ : ovSt} {k : Int32 → ovSt → Prop} (hF : F_X3_shareOf s x1 σ k) : ov_Ct 1 yX3_shareOf cX3_shareOf 3 (some .int) ov_S0 [.ref s, .int x1] σ (ovKi k) := by
  refine ov_Ct.of (by decide) (Nat.le_of_ble_eq_true rfl) ?_
  unfold F_X3_shareOf at hF
  have hs := hF.1
  have hF := hF.2
  show vv_X3_shareOf k 0 [(0, .ref s), (1, .int x1)] [] σ
  refine ov_aload_n dX3_shareOf_0 0 rfl ?_
  refine ov_callV [] dX3_shareOf_1 (c_X3_amountOfAll hF) (Nat.le_of_ble_eq_true rfl) (Nat.le_of_ble_eq_true rfl) lk_X3_116 (ov_stk0 hs) rfl (Nat.le_of_ble_eq_true rfl) (Nat.le_refl _) (Nat.le_refl _) (fun rr σ2 hF => ?_)
  obtain ⟨v1, rfl, hF⟩ := hF
  show vv_X3_shareOf k 4 [(0, .ref s), (1, .int x1)] [.int v1] σ2
  refine ov_istore_n dX3_shareOf_4 (Nat.le_of_ble_eq_true rfl) [(2, .int v1), (0, .ref s), (1, .int x1)] rfl ?_
  refine ov_iload_n dX3_shareOf_5 0 rfl ?_
  refine ov_if_ne 13 dX3_shareOf_6 (by decide) hF (fun hF => ?_) (fun hF => ?_)
  · refine ov_ldc2 dX3_shareOf_13 qc_X3_119 ?_
    refine ov_aload_n dX3_shareOf_16 1 rfl ?_
    refine ov_getr (T := TX3) (kf := 3) dX3_shareOf_17 qf_X3_18 (ov_stk0 hs) rfl (Nat.le_of_ble_eq_true rfl) rfl (ov_stkn hs 3 (by decide)) ?_
    refine ov_iload_n dX3_shareOf_20 2 rfl ?_
    have h3 := hF.1
    have hF := hF.2
    refine ov_iaload dX3_shareOf_21 (ov_stk3 hs) h3 ?_
    refine ov_i2l dX3_shareOf_22 ?_
    refine ov_lmul dX3_shareOf_23 ?_
    refine ov_iload_n dX3_shareOf_24 0 rfl ?_
    refine ov_i2l dX3_shareOf_25 ?_
    have h4 := hF.1
    have hF := hF.2
    refine ov_ldiv h4 dX3_shareOf_26 ?_
    refine ov_l2i dX3_shareOf_27 ?_
    refine ov_pick [] [] rfl ?_
    exact V_X3_shareOf_28 hs (Int64.toInt32 ((10000 * (Int32.toInt64 (σ2 (s + 3) (Int32.toNatClampNeg x1)))) / (Int32.toInt64 v1))) σ2 hF
  · refine ov_iconst 0 (by decide) dX3_shareOf_9 ?_
    refine ov_goto 28 dX3_shareOf_10 (by decide) ?_
    refine ov_pick [] [] rfl ?_
    exact V_X3_shareOf_28 hs 0 σ2 hF
/-! X3_tasteOfAll -/
abbrev vv_X3_tasteOfAll (k : Int32 → ovSt → Prop) (pc : Nat) (L : List (Nat × Value)) (st : List Value) (σ : ovSt) : Prop := ov_V (ovZs 4 yX3_tasteOfAll cX3_tasteOfAll 3) (ovKs (some .int) ov_S0 (ovKi k)) (0, 0) ov_S0 pc L st σ
def F_X3_tasteOfAll_4 (s : Nat) (k : Int32 → ovSt → Prop) : Nat → Int32 → Int32 → ovSt → Prop
  | 0 => fun _ _ _ => False
  | n + 1 => fun x1 x2 σ => (if (σ s 6) ≤ x2 then (k x1 σ) else (F_X3_tasteOf s x2 σ (fun v1 σ2 => (∀ v3 : Int32, v3 = (x1 + v1) → F_X3_tasteOfAll_4 s k n v3 (x2 + 1) σ2))))
set_option maxRecDepth 100000 in
set_option maxHeartbeats 4000000 in
theorem V_X3_tasteOfAll_4 {k : Int32 → ovSt → Prop} {s : Nat} (hs : ov_stk s) : ∀ (n : Nat) (x1 : Int32) (x2 : Int32) (σ : ovSt), F_X3_tasteOfAll_4 s k n x1 x2 σ → vv_X3_tasteOfAll k 4 [(0, .ref s), (1, .int x1), (2, .int x2)] [] σ := by
  intro n
  induction n with
  | zero => intro x1 x2 σ hF; exact hF.elim
  | succ n ih =>
    intro x1 x2 σ hF
    unfold F_X3_tasteOfAll_4 at hF
    refine ov_iload_n dX3_tasteOfAll_4 2 rfl ?_
    refine ov_aload_n dX3_tasteOfAll_5 0 rfl ?_
    refine ov_geti (T := TX3) (kf := 6) dX3_tasteOfAll_6 qf_X3_27 (ov_stk0 hs) rfl (Nat.le_of_ble_eq_true rfl) rfl ?_
    refine ov_icmp_ge 26 dX3_tasteOfAll_9 (by decide) hF (fun hF => ?_) (fun hF => ?_)
    · refine ov_iload_n dX3_tasteOfAll_26 1 rfl ?_
      exact ov_ireturn dX3_tasteOfAll_27 (Nat.le_refl _) (Nat.le_refl _) ⟨rfl, trivial, _, rfl, hF⟩
    · refine ov_iload_n dX3_tasteOfAll_12 1 rfl ?_
      refine ov_aload_n dX3_tasteOfAll_13 0 rfl ?_
      refine ov_iload_n dX3_tasteOfAll_14 2 rfl ?_
      refine ov_callV [.int x2] dX3_tasteOfAll_15 (c_X3_tasteOf hF) (Nat.le_of_ble_eq_true rfl) (Nat.le_of_ble_eq_true rfl) lk_X3_110 (ov_stk0 hs) rfl (Nat.le_of_ble_eq_true rfl) (Nat.le_refl _) (Nat.le_refl _) (fun rr σ2 hF => ?_)
      obtain ⟨v1, rfl, hF⟩ := hF
      show vv_X3_tasteOfAll k 18 [(0, .ref s), (1, .int x1), (2, .int x2)] [.int v1, .int x1] σ2
      refine ov_iadd dX3_tasteOfAll_18 ?_
      refine ov_nmI (fun v3 ev3 => ?_)
      have hF := hF v3 ev3
      refine ov_istore_n dX3_tasteOfAll_19 (Nat.le_of_ble_eq_true rfl) [(1, .int v3), (0, .ref s), (2, .int x2)] rfl ?_
      refine ov_iinc dX3_tasteOfAll_20 2 rfl (x2 + 1) rfl (Nat.le_of_ble_eq_true rfl) [(2, .int (x2 + 1)), (1, .int v3), (0, .ref s)] rfl ?_
      refine ov_goto 4 dX3_tasteOfAll_23 (by decide) ?_
      refine ov_pick [2, 1, 0] [(0, .ref s), (1, .int v3), (2, .int (x2 + 1))] rfl ?_
      exact ih v3 (x2 + 1) σ2 hF
def F_X3_tasteOfAll (s : Nat) (σ : ovSt) (k : Int32 → ovSt → Prop) : Prop := (ov_stk s ∧ (∃ n4, F_X3_tasteOfAll_4 s k n4 0 0 σ))
set_option maxRecDepth 100000 in
set_option maxHeartbeats 4000000 in
theorem c_X3_tasteOfAll {s : Nat} {σ : ovSt} {k : Int32 → ovSt → Prop} (hF : F_X3_tasteOfAll s σ k) : ov_Ct 4 yX3_tasteOfAll cX3_tasteOfAll 3 (some .int) ov_S0 [.ref s] σ (ovKi k) := by
  refine ov_Ct.of (by decide) (Nat.le_of_ble_eq_true rfl) ?_
  unfold F_X3_tasteOfAll at hF
  have hs := hF.1
  have hF := hF.2
  show vv_X3_tasteOfAll k 0 [(0, .ref s)] [] σ
  refine ov_iconst 0 (by decide) dX3_tasteOfAll_0 ?_
  refine ov_istore_n dX3_tasteOfAll_1 (Nat.le_of_ble_eq_true rfl) [(1, .int 0), (0, .ref s)] rfl ?_
  refine ov_iconst 0 (by decide) dX3_tasteOfAll_2 ?_
  refine ov_istore_n dX3_tasteOfAll_3 (Nat.le_of_ble_eq_true rfl) [(2, .int 0), (1, .int 0), (0, .ref s)] rfl ?_
  refine ov_pick [2, 1, 0] [(0, .ref s), (1, .int 0), (2, .int 0)] rfl ?_
  obtain ⟨n4, hF⟩ := hF
  exact V_X3_tasteOfAll_4 hs n4 0 0 σ hF
