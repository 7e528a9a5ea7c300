/-! X6_tasted -/
abbrev vv_X6_tasted (k : Int32 → ovSt → Prop) (pc : Nat) (L : List (Nat × Value)) (st : List Value) (σ : ovSt) : Prop := ov_V (ovZs 4 yX6_tasted cX6_tasted 3) (ovKs (some .int) ov_S0 (ovKi k)) (0, 0) ov_S0 pc L st σ
def F_X6_tasted_59 (k : Int32 → ovSt → Prop) (t0 : Int32) (σ : ovSt) : Prop := (k t0 σ)
set_option maxRecDepth 100000 in
set_option maxHeartbeats 4000000 in
theorem V_X6_tasted_59 {k : Int32 → ovSt → Prop} (t0 : Int32) (σ : ovSt) (hF : F_X6_tasted_59 k t0 σ) : vv_X6_tasted k 59 [] [.int t0] σ := by
  unfold F_X6_tasted_59 at hF
  exact ov_ireturn dX6_tasted_59 (Nat.le_refl _) (Nat.le_refl _) ⟨rfl, trivial, _, rfl, hF⟩
def F_X6_tasted_42 (k : Int32 → ovSt → Prop) (x2 : Int32) (σ : ovSt) : Prop := (F_X6_putsBack σ (fun σ2 => (if (300 : Int32) < x2 then (F_X6_tasted_59 k (-1000000005) σ2) else (F_X6_tasted_59 k x2 σ2))))
set_option maxRecDepth 100000 in
set_option maxHeartbeats 4000000 in
theorem V_X6_tasted_42 {k : Int32 → ovSt → Prop} (x2 : Int32) (σ : ovSt) (hF : F_X6_tasted_42 k x2 σ) : vv_X6_tasted k 42 [(0, .ref 74), (2, .int x2)] [] σ := by
  unfold F_X6_tasted_42 at hF
  refine ov_aload_n dX6_tasted_42 0 rfl ?_
  refine ov_callV [] dX6_tasted_43 (c_X6_putsBack hF) (Nat.le_of_ble_eq_true rfl) (Nat.le_of_ble_eq_true rfl) lk_X6_168 sh_74 rfl (Nat.le_of_ble_eq_true rfl) (Nat.le_refl _) (Nat.le_refl _) (fun rr σ2 hF => ?_)
  obtain ⟨rfl, hF⟩ := hF
  show vv_X6_tasted k 46 [(0, .ref 74), (2, .int x2)] [] σ2
  refine ov_iload_n dX6_tasted_46 1 rfl ?_
  refine ov_sipush 300 (by decide) dX6_tasted_47 ?_
  refine ov_icmp_gt 57 dX6_tasted_50 (by decide) hF (fun hF => ?_) (fun hF => ?_)
  · refine ov_ldc dX6_tasted_57 qc_X6_81 ?_
    refine ov_pick [] [] rfl ?_
    exact V_X6_tasted_59 (-1000000005) σ2 hF
  · refine ov_iload_n dX6_tasted_53 1 rfl ?_
    refine ov_goto 59 dX6_tasted_54 (by decide) ?_
    refine ov_pick [] [] rfl ?_
    exact V_X6_tasted_59 x2 σ2 hF
def F_X6_tasted_17 (k : Int32 → ovSt → Prop) : Nat → Int32 → Int32 → ovSt → Prop
  | 0 => fun _ _ _ => False
  | n + 1 => fun x1 x2 σ => (if (300 : Int32) < x2 then (F_X6_tasted_42 k x2 σ) else (F_X6_tasteOf x1 σ (fun v3 σ4 => (if v3 ≤ 0 then (F_X6_tasted_42 k x2 σ4) else (F_X6_day σ4 (fun σ6 => F_X6_tasted_17 k n x1 (x2 + 1) σ6))))))
set_option maxRecDepth 100000 in
set_option maxHeartbeats 4000000 in
theorem V_X6_tasted_17 {k : Int32 → ovSt → Prop} : ∀ (n : Nat) (x1 : Int32) (x2 : Int32) (σ : ovSt), F_X6_tasted_17 k n x1 x2 σ → vv_X6_tasted k 17 [(0, .ref 74), (1, .int x1), (2, .int x2)] [] σ := by
  intro n
  induction n with
  | zero => intro x1 x2 σ hF; exact hF.elim
  | succ n ih =>
    intro x1 x2 σ hF
    unfold F_X6_tasted_17 at hF
    refine ov_iload_n dX6_tasted_17 2 rfl ?_
    refine ov_sipush 300 (by decide) dX6_tasted_18 ?_
    refine ov_icmp_gt 42 dX6_tasted_21 (by decide) hF (fun hF => ?_) (fun hF => ?_)
    · refine ov_pick [0, 2] [(0, .ref 74), (2, .int x2)] rfl ?_
      exact V_X6_tasted_42 x2 σ hF
    · refine ov_aload_n dX6_tasted_24 0 rfl ?_
      refine ov_iload_n dX6_tasted_25 1 rfl ?_
      refine ov_callV [.int x1] dX6_tasted_26 (c_X6_tasteOf hF) (Nat.le_of_ble_eq_true rfl) (Nat.le_of_ble_eq_true rfl) lk_X6_122 sh_74 rfl (Nat.le_of_ble_eq_true rfl) (Nat.le_refl _) (Nat.le_refl _) (fun rr σ4 hF => ?_)
      obtain ⟨v3, rfl, hF⟩ := hF
      show vv_X6_tasted k 29 [(0, .ref 74), (1, .int x1), (2, .int x2)] [.int v3] σ4
      refine ov_if_le 42 dX6_tasted_29 (by decide) hF (fun hF => ?_) (fun hF => ?_)
      · refine ov_pick [0, 2] [(0, .ref 74), (2, .int x2)] rfl ?_
        exact V_X6_tasted_42 x2 σ4 hF
      · refine ov_aload_n dX6_tasted_32 0 rfl ?_
        refine ov_callV [] dX6_tasted_33 (c_X6_day hF) (Nat.le_of_ble_eq_true rfl) (Nat.le_of_ble_eq_true rfl) lk_X6_155 sh_74 rfl (Nat.le_of_ble_eq_true rfl) (Nat.le_refl _) (Nat.le_refl _) (fun rr σ6 hF => ?_)
        obtain ⟨rfl, hF⟩ := hF
        show vv_X6_tasted k 36 [(0, .ref 74), (1, .int x1), (2, .int x2)] [] σ6
        refine ov_iinc dX6_tasted_36 2 rfl (x2 + 1) rfl (Nat.le_of_ble_eq_true rfl) [(2, .int (x2 + 1)), (0, .ref 74), (1, .int x1)] rfl ?_
        refine ov_goto 17 dX6_tasted_39 (by decide) ?_
        refine ov_pick [1, 2, 0] [(0, .ref 74), (1, .int x1), (2, .int (x2 + 1))] rfl ?_
        exact ih x1 (x2 + 1) σ6 hF
def F_X6_tasted (x1 : Int32) (σ : ovSt) (k : Int32 → ovSt → Prop) : Prop := (F_X6_isThing x1 σ (fun v7 σ8 => (if v7 = 0 then (k (-1000000001) σ8) else (F_X6_thinks σ8 (fun σ10 => (∃ n11, F_X6_tasted_17 k n11 x1 0 σ10))))))
set_option maxRecDepth 100000 in
set_option maxHeartbeats 4000000 in
theorem c_X6_tasted {x1 : Int32} {σ : ovSt} {k : Int32 → ovSt → Prop} (hF : F_X6_tasted x1 σ k) : ov_Ct 4 yX6_tasted cX6_tasted 3 (some .int) ov_S0 [.ref 74, .int x1] σ (ovKi k) := by
  refine ov_Ct.of (by decide) (Nat.le_of_ble_eq_true rfl) ?_
  unfold F_X6_tasted at hF
  show vv_X6_tasted k 0 [(0, .ref 74), (1, .int x1)] [] σ
  refine ov_aload_n dX6_tasted_0 0 rfl ?_
  refine ov_iload_n dX6_tasted_1 1 rfl ?_
  refine ov_callV [.int x1] dX6_tasted_2 (c_X6_isThing hF) (Nat.le_of_ble_eq_true rfl) (Nat.le_of_ble_eq_true rfl) lk_X6_104 sh_74 rfl (Nat.le_of_ble_eq_true rfl) (Nat.le_refl _) (Nat.le_refl _) (fun rr σ8 hF => ?_)
  obtain ⟨v7, rfl, hF⟩ := hF
  show vv_X6_tasted k 5 [(0, .ref 74), (1, .int x1)] [.int v7] σ8
  refine ov_if_ne 11 dX6_tasted_5 (by decide) hF (fun hF => ?_) (fun hF => ?_)
  · refine ov_aload_n dX6_tasted_11 0 rfl ?_
    refine ov_callV [] dX6_tasted_12 (c_X6_thinks hF) (Nat.le_of_ble_eq_true rfl) (Nat.le_of_ble_eq_true rfl) lk_X6_165 sh_74 rfl (Nat.le_of_ble_eq_true rfl) (Nat.le_refl _) (Nat.le_refl _) (fun rr σ10 hF => ?_)
    obtain ⟨rfl, hF⟩ := hF
    show vv_X6_tasted k 15 [(0, .ref 74), (1, .int x1)] [] σ10
    refine ov_iconst 0 (by decide) dX6_tasted_15 ?_
    refine ov_istore_n dX6_tasted_16 (Nat.le_of_ble_eq_true rfl) [(2, .int 0), (0, .ref 74), (1, .int x1)] rfl ?_
    refine ov_pick [1, 2, 0] [(0, .ref 74), (1, .int x1), (2, .int 0)] rfl ?_
    obtain ⟨n11, hF⟩ := hF
    exact V_X6_tasted_17 n11 x1 0 σ10 hF
  · refine ov_ldc dX6_tasted_8 qc_X6_90 ?_
    exact ov_ireturn dX6_tasted_10 (Nat.le_refl _) (Nat.le_refl _) ⟨rfl, trivial, _, rfl, hF⟩
/-! X6_findSteer -/
abbrev vv_X6_findSteer (k : ovSt → Prop) (pc : Nat) (L : List (Nat × Value)) (st : List Value) (σ : ovSt) : Prop := ov_V (ovZs 5 yX6_findSteer cX6_findSteer 7) (ovKs none ov_S0 (ovKv k)) (0, 0) ov_S0 pc L st σ
def F_X6_findSteer_104 (R9 : Int32 → Int32 → Int32 → Int32 → ovSt → Prop) (R23 : Int32 → Int32 → Int32 → Int32 → Int32 → ovSt → Prop) (k : ovSt → Prop) (x1 : Int32) (x2 : Int32) (x3 : Int32) (x4 : Int32) (x5 : Int32) (σ : ovSt) : Prop := R23 x1 x2 x3 x4 (x5 + 1) σ
set_option maxRecDepth 100000 in
set_option maxHeartbeats 4000000 in
theorem V_X6_findSteer_104 {k : ovSt → Prop} {R9 : Int32 → Int32 → Int32 → Int32 → ovSt → Prop} (hR9 : ∀ (x1 : Int32) (x2 : Int32) (x3 : Int32) (x4 : Int32) (σ : ovSt), R9 x1 x2 x3 x4 σ → vv_X6_findSteer k 9 [(0, .ref 74), (1, .int x1), (2, .int x2), (3, .int x3), (4, .int x4)] [] σ) {R23 : Int32 → Int32 → Int32 → Int32 → Int32 → ovSt → Prop} (hR23 : ∀ (x1 : Int32) (x2 : Int32) (x3 : Int32) (x4 : Int32) (x5 : Int32) (σ : ovSt), R23 x1 x2 x3 x4 x5 σ → vv_X6_findSteer k 23 [(0, .ref 74), (1, .int x1), (2, .int x2), (3, .int x3), (4, .int x4), (5, .int x5)] [] σ) (x1 : Int32) (x2 : Int32) (x3 : Int32) (x4 : Int32) (x5 : Int32) (σ : ovSt) (hF : F_X6_findSteer_104 R9 R23 k x1 x2 x3 x4 x5 σ) : vv_X6_findSteer k 104 [(0, .ref 74), (1, .int x1), (2, .int x2), (3, .int x3), (4, .int x4), (5, .int x5)] [] σ := by
  unfold F_X6_findSteer_104 at hF
  refine ov_iinc dX6_findSteer_104 5 rfl (x5 + 1) rfl (Nat.le_of_ble_eq_true rfl) [(5, .int (x5 + 1)), (0, .ref 74), (1, .int x1), (2, .int x2), (3, .int x3), (4, .int x4)] rfl ?_
  refine ov_goto 23 dX6_findSteer_107 (by decide) ?_
  refine ov_pick [1, 2, 3, 4, 5, 0] [(0, .ref 74), (1, .int x1), (2, .int x2), (3, .int x3), (4, .int x4), (5, .int (x5 + 1))] rfl ?_
  exact hR23 x1 x2 x3 x4 (x5 + 1) σ hF
def F_X6_findSteer_70 (R9 : Int32 → Int32 → Int32 → Int32 → ovSt → Prop) (R23 : Int32 → Int32 → Int32 → Int32 → Int32 → ovSt → Prop) (k : ovSt → Prop) (x1 : Int32) (x2 : Int32) (x4 : Int32) (x5 : Int32) (x6 : Int32) (σ : ovSt) : Prop := (F_X6_off x6 x1 σ (fun v1 σ2 => (vp_in 0 3 ∧ (∀ σ4 : ovSt, σ4 = ov_up σ2 79 (Int32.toNatClampNeg 0) x4 → (vp_in 1 3 ∧ (∀ σ6 : ovSt, σ6 = ov_up σ4 79 (Int32.toNatClampNeg 1) (50 * x5) → (vp_in 2 3 ∧ (∀ σ8 : ovSt, σ8 = ov_up σ6 79 (Int32.toNatClampNeg 2) x6 → (F_X6_findSteer_104 R9 R23 k x1 x2 v1 x4 x5 σ8)))))))))
set_option maxRecDepth 100000 in
set_option maxHeartbeats 4000000 in
theorem V_X6_findSteer_70 {k : ovSt → Prop} {R9 : Int32 → Int32 → Int32 → Int32 → ovSt → Prop} (hR9 : ∀ (x1 : Int32) (x2 : Int32) (x3 : Int32) (x4 : Int32) (σ : ovSt), R9 x1 x2 x3 x4 σ → vv_X6_findSteer k 9 [(0, .ref 74), (1, .int x1), (2, .int x2), (3, .int x3), (4, .int x4)] [] σ) {R23 : Int32 → Int32 → Int32 → Int32 → Int32 → ovSt → Prop} (hR23 : ∀ (x1 : Int32) (x2 : Int32) (x3 : Int32) (x4 : Int32) (x5 : Int32) (σ : ovSt), R23 x1 x2 x3 x4 x5 σ → vv_X6_findSteer k 23 [(0, .ref 74), (1, .int x1), (2, .int x2), (3, .int x3), (4, .int x4), (5, .int x5)] [] σ) (x1 : Int32) (x2 : Int32) (x4 : Int32) (x5 : Int32) (x6 : Int32) (σ : ovSt) (hF : F_X6_findSteer_70 R9 R23 k x1 x2 x4 x5 x6 σ) : vv_X6_findSteer k 70 [(0, .ref 74), (1, .int x1), (2, .int x2), (4, .int x4), (5, .int x5), (6, .int x6)] [] σ := by
  unfold F_X6_findSteer_70 at hF
  refine ov_iload dX6_findSteer_70 5 rfl ?_
  refine ov_iload_n dX6_findSteer_72 1 rfl ?_
  refine ov_callS [.int x6, .int x1] dX6_findSteer_73 (c_X6_off hF) (Nat.le_of_ble_eq_true rfl) (Nat.le_of_ble_eq_true rfl) lk_X6_171 (Nat.le_of_ble_eq_true rfl) (Nat.le_refl _) (Nat.le_refl _) (fun rr σ2 hF => ?_)
  obtain ⟨v1, rfl, hF⟩ := hF
  show vv_X6_findSteer k 76 [(0, .ref 74), (1, .int x1), (2, .int x2), (4, .int x4), (5, .int x5), (6, .int x6)] [.int v1] σ2
  refine ov_istore_n dX6_findSteer_76 (Nat.le_of_ble_eq_true rfl) [(3, .int v1), (0, .ref 74), (1, .int x1), (2, .int x2), (4, .int x4), (5, .int x5), (6, .int x6)] rfl ?_
  refine ov_aload_n dX6_findSteer_77 1 rfl ?_
  refine ov_getr (T := TX6) (kf := 5) dX6_findSteer_78 qf_X6_22 sh_74 rfl (Nat.le_of_ble_eq_true rfl) rfl (by decide) ?_
  refine ov_iconst 0 (by decide) dX6_findSteer_81 ?_
  refine ov_iload dX6_findSteer_82 4 rfl ?_
  have h3 := hF.1
  have hF := hF.2
  refine ov_iastore dX6_findSteer_84 sh_79 h3 ?_
  refine ov_nmS (fun σ4 es4 => ?_)
  have hF := hF σ4 es4
  refine ov_aload_n dX6_findSteer_85 1 rfl ?_
  refine ov_getr (T := TX6) (kf := 5) dX6_findSteer_86 qf_X6_22 sh_74 rfl (Nat.le_of_ble_eq_true rfl) rfl (by decide) ?_
  refine ov_iconst 1 (by decide) dX6_findSteer_89 ?_
  refine ov_bipush 50 (by decide) dX6_findSteer_90 ?_
  refine ov_iload dX6_findSteer_92 5 rfl ?_
  refine ov_imul dX6_findSteer_94 ?_
  have h5 := hF.1
  have hF := hF.2
  refine ov_iastore dX6_findSteer_95 sh_79 h5 ?_
  refine ov_nmS (fun σ6 es6 => ?_)
  have hF := hF σ6 es6
  refine ov_aload_n dX6_findSteer_96 1 rfl ?_
  refine ov_getr (T := TX6) (kf := 5) dX6_findSteer_97 qf_X6_22 sh_74 rfl (Nat.le_of_ble_eq_true rfl) rfl (by decide) ?_
  refine ov_iconst 2 (by decide) dX6_findSteer_100 ?_
  refine ov_iload dX6_findSteer_101 6 rfl ?_
  have h7 := hF.1
  have hF := hF.2
  refine ov_iastore dX6_findSteer_103 sh_79 h7 ?_
  refine ov_nmS (fun σ8 es8 => ?_)
  have hF := hF σ8 es8
  refine ov_pick [1, 2, 3, 0, 4, 5] [(0, .ref 74), (1, .int x1), (2, .int x2), (3, .int v1), (4, .int x4), (5, .int x5)] rfl ?_
  exact V_X6_findSteer_104 hR9 hR23 x1 x2 v1 x4 x5 σ8 hF
def F_X6_findSteer_23 (R9 : Int32 → Int32 → Int32 → Int32 → ovSt → Prop) (k : ovSt → Prop) : Nat → Int32 → Int32 → Int32 → Int32 → Int32 → ovSt → Prop
  | 0 => fun _ _ _ _ _ _ => False
  | n + 1 => fun x1 x2 x3 x4 x5 σ => (if (20 : Int32) < x5 then R9 x1 x2 x3 (x4 + 1) σ else (F_X6_tosses x4 (50 * x5) σ (fun σ10 => (F_X6_goesOn x2 σ10 (fun σ12 => (F_X6_tasteAll σ12 (fun v13 σ14 => (F_X6_putsBack σ14 (fun σ16 => (if x3 < 0 then (F_X6_findSteer_70 R9 (F_X6_findSteer_23 R9 k n) k x1 x2 x4 x5 v13 σ16) else (F_X6_off v13 x1 σ16 (fun v17 σ18 => (if x3 ≤ v17 then (F_X6_findSteer_104 R9 (F_X6_findSteer_23 R9 k n) k x1 x2 x3 x4 x5 σ18) else (F_X6_findSteer_70 R9 (F_X6_findSteer_23 R9 k n) k x1 x2 x4 x5 v13 σ18))))))))))))))
set_option maxRecDepth 100000 in
set_option maxHeartbeats 4000000 in
theorem V_X6_findSteer_23 {k : ovSt → Prop} {R9 : Int32 → Int32 → Int32 → Int32 → ovSt → Prop} (hR9 : ∀ (x1 : Int32) (x2 : Int32) (x3 : Int32) (x4 : Int32) (σ : ovSt), R9 x1 x2 x3 x4 σ → vv_X6_findSteer k 9 [(0, .ref 74), (1, .int x1), (2, .int x2), (3, .int x3), (4, .int x4)] [] σ) : ∀ (n : Nat) (x1 : Int32) (x2 : Int32) (x3 : Int32) (x4 : Int32) (x5 : Int32) (σ : ovSt), F_X6_findSteer_23 R9 k n x1 x2 x3 x4 x5 σ → vv_X6_findSteer k 23 [(0, .ref 74), (1, .int x1), (2, .int x2), (3, .int x3), (4, .int x4), (5, .int x5)] [] σ := by
  intro n
  induction n with
  | zero => intro x1 x2 x3 x4 x5 σ hF; exact hF.elim
  | succ n ih =>
    intro x1 x2 x3 x4 x5 σ hF
    unfold F_X6_findSteer_23 at hF
    refine ov_iload dX6_findSteer_23 5 rfl ?_
    refine ov_bipush 20 (by decide) dX6_findSteer_25 ?_
    refine ov_icmp_gt 110 dX6_findSteer_27 (by decide) hF (fun hF => ?_) (fun hF => ?_)
    · refine ov_iinc dX6_findSteer_110 4 rfl (x4 + 1) rfl (Nat.le_of_ble_eq_true rfl) [(4, .int (x4 + 1)), (0, .ref 74), (1, .int x1), (2, .int x2), (3, .int x3), (5, .int x5)] rfl ?_
      refine ov_goto 9 dX6_findSteer_113 (by decide) ?_
      refine ov_pick [1, 2, 3, 4, 0] [(0, .ref 74), (1, .int x1), (2, .int x2), (3, .int x3), (4, .int (x4 + 1))] rfl ?_
      exact hR9 x1 x2 x3 (x4 + 1) σ hF
    · refine ov_aload_n dX6_findSteer_30 0 rfl ?_
      refine ov_iload dX6_findSteer_31 4 rfl ?_
      refine ov_bipush 50 (by decide) dX6_findSteer_33 ?_
      refine ov_iload dX6_findSteer_35 5 rfl ?_
      refine ov_imul dX6_findSteer_37 ?_
      refine ov_callV [.int x4, .int (50 * x5)] dX6_findSteer_38 (c_X6_tosses hF) (Nat.le_of_ble_eq_true rfl) (Nat.le_of_ble_eq_true rfl) lk_X6_108 sh_74 rfl (Nat.le_of_ble_eq_true rfl) (Nat.le_refl _) (Nat.le_refl _) (fun rr σ10 hF => ?_)
      obtain ⟨rfl, hF⟩ := hF
      show vv_X6_findSteer k 41 [(0, .ref 74), (1, .int x1), (2, .int x2), (3, .int x3), (4, .int x4), (5, .int x5)] [] σ10
      refine ov_aload_n dX6_findSteer_41 0 rfl ?_
      refine ov_iload_n dX6_findSteer_42 2 rfl ?_
      refine ov_callV [.int x2] dX6_findSteer_43 (c_X6_goesOn hF) (Nat.le_of_ble_eq_true rfl) (Nat.le_of_ble_eq_true rfl) lk_X6_158 sh_74 rfl (Nat.le_of_ble_eq_true rfl) (Nat.le_refl _) (Nat.le_refl _) (fun rr σ12 hF => ?_)
      obtain ⟨rfl, hF⟩ := hF
      show vv_X6_findSteer k 46 [(0, .ref 74), (1, .int x1), (2, .int x2), (3, .int x3), (4, .int x4), (5, .int x5)] [] σ12
      refine ov_aload_n dX6_findSteer_46 0 rfl ?_
      refine ov_callV [] dX6_findSteer_47 (c_X6_tasteAll hF) (Nat.le_of_ble_eq_true rfl) (Nat.le_of_ble_eq_true rfl) lk_X6_162 sh_74 rfl (Nat.le_of_ble_eq_true rfl) (Nat.le_refl _) (Nat.le_refl _) (fun rr σ14 hF => ?_)
      obtain ⟨v13, rfl, hF⟩ := hF
      show vv_X6_findSteer k 50 [(0, .ref 74), (1, .int x1), (2, .int x2), (3, .int x3), (4, .int x4), (5, .int x5)] [.int v13] σ14
      refine ov_istore dX6_findSteer_50 (Nat.le_of_ble_eq_true rfl) [(6, .int v13), (0, .ref 74), (1, .int x1), (2, .int x2), (3, .int x3), (4, .int x4), (5, .int x5)] rfl ?_
      refine ov_aload_n dX6_findSteer_52 1 rfl ?_
      refine ov_callV [] dX6_findSteer_53 (c_X6_putsBack hF) (Nat.le_of_ble_eq_true rfl) (Nat.le_of_ble_eq_true rfl) lk_X6_168 sh_74 rfl (Nat.le_of_ble_eq_true rfl) (Nat.le_refl _) (Nat.le_refl _) (fun rr σ16 hF => ?_)
      obtain ⟨rfl, hF⟩ := hF
      show vv_X6_findSteer k 56 [(6, .int v13), (0, .ref 74), (1, .int x1), (2, .int x2), (3, .int x3), (4, .int x4), (5, .int x5)] [] σ16
      refine ov_iload_n dX6_findSteer_56 4 rfl ?_
      refine ov_if_lt 70 dX6_findSteer_57 (by decide) hF (fun hF => ?_) (fun hF => ?_)
      · refine ov_pick [1, 2, 3, 5, 6, 0] [(0, .ref 74), (1, .int x1), (2, .int x2), (4, .int x4), (5, .int x5), (6, .int v13)] rfl ?_
        exact V_X6_findSteer_70 hR9 ih x1 x2 x4 x5 v13 σ16 hF
      · refine ov_iload dX6_findSteer_60 0 rfl ?_
        refine ov_iload_n dX6_findSteer_62 2 rfl ?_
        refine ov_callS [.int v13, .int x1] dX6_findSteer_63 (c_X6_off hF) (Nat.le_of_ble_eq_true rfl) (Nat.le_of_ble_eq_true rfl) lk_X6_171 (Nat.le_of_ble_eq_true rfl) (Nat.le_refl _) (Nat.le_refl _) (fun rr σ18 hF => ?_)
        obtain ⟨v17, rfl, hF⟩ := hF
        show vv_X6_findSteer k 66 [(6, .int v13), (0, .ref 74), (1, .int x1), (2, .int x2), (3, .int x3), (4, .int x4), (5, .int x5)] [.int v17] σ18
        refine ov_iload_n dX6_findSteer_66 4 rfl ?_
        refine ov_icmp_ge 104 dX6_findSteer_67 (by decide) hF (fun hF => ?_) (fun hF => ?_)
        · refine ov_pick [1, 2, 3, 4, 5, 6] [(0, .ref 74), (1, .int x1), (2, .int x2), (3, .int x3), (4, .int x4), (5, .int x5)] rfl ?_
          exact V_X6_findSteer_104 hR9 ih x1 x2 x3 x4 x5 σ18 hF
        · refine ov_pick [1, 2, 3, 5, 6, 0] [(0, .ref 74), (1, .int x1), (2, .int x2), (4, .int x4), (5, .int x5), (6, .int v13)] rfl ?_
          exact V_X6_findSteer_70 hR9 ih x1 x2 x4 x5 v13 σ18 hF
def F_X6_findSteer_9 (k : ovSt → Prop) : Nat → Int32 → Int32 → Int32 → Int32 → ovSt → Prop
  | 0 => fun _ _ _ _ _ => False
  | n + 1 => fun x1 x2 x3 x4 σ => (vp_in 1 1412 ∧ (if (σ 75 (Int32.toNatClampNeg 1)) ≤ x4 then (k σ) else (∃ n20, F_X6_findSteer_23 (F_X6_findSteer_9 k n) k n20 x1 x2 x3 x4 0 σ)))
set_option maxRecDepth 100000 in
set_option maxHeartbeats 4000000 in
theorem V_X6_findSteer_9 {k : ovSt → Prop} : ∀ (n : Nat) (x1 : Int32) (x2 : Int32) (x3 : Int32) (x4 : Int32) (σ : ovSt), F_X6_findSteer_9 k n x1 x2 x3 x4 σ → vv_X6_findSteer k 9 [(0, .ref 74), (1, .int x1), (2, .int x2), (3, .int x3), (4, .int x4)] [] σ := by
  intro n
  induction n with
  | zero => intro x1 x2 x3 x4 σ hF; exact hF.elim
  | succ n ih =>
    intro x1 x2 x3 x4 σ hF
    unfold F_X6_findSteer_9 at hF
    refine ov_iload dX6_findSteer_9 4 rfl ?_
    refine ov_aload_n dX6_findSteer_11 0 rfl ?_
    refine ov_getr (T := TX6) (kf := 0) dX6_findSteer_12 qf_X6_9 sh_74 rfl (Nat.le_of_ble_eq_true rfl) rfl (by decide) ?_
    refine ov_iconst 1 (by decide) dX6_findSteer_15 ?_
    have h19 := hF.1
    have hF := hF.2
    refine ov_iaload dX6_findSteer_16 sh_75 h19 ?_
    refine ov_icmp_ge 116 dX6_findSteer_17 (by decide) hF (fun hF => ?_) (fun hF => ?_)
    · exact ov_return dX6_findSteer_116 (Nat.le_refl _) (Nat.le_refl _) ⟨rfl, trivial, rfl, hF⟩
    · refine ov_iconst 0 (by decide) dX6_findSteer_20 ?_
      refine ov_istore dX6_findSteer_21 (Nat.le_of_ble_eq_true rfl) [(5, .int 0), (0, .ref 74), (1, .int x1), (2, .int x2), (3, .int x3), (4, .int x4)] rfl ?_
      refine ov_pick [1, 2, 3, 4, 5, 0] [(0, .ref 74), (1, .int x1), (2, .int x2), (3, .int x3), (4, .int x4), (5, .int 0)] rfl ?_
      obtain ⟨n20, hF⟩ := hF
      exact V_X6_findSteer_23 ih n20 x1 x2 x3 x4 0 σ hF
def F_X6_findSteer (x1 : Int32) (x2 : Int32) (σ : ovSt) (k : ovSt → Prop) : Prop := (F_X6_thinks σ (fun σ22 => (∃ n23, F_X6_findSteer_9 k n23 x1 x2 (-1) 0 σ22)))
set_option maxRecDepth 100000 in
set_option maxHeartbeats 4000000 in
theorem c_X6_findSteer {x1 : Int32} {x2 : Int32} {σ : ovSt} {k : ovSt → Prop} (hF : F_X6_findSteer x1 x2 σ k) : ov_Ct 5 yX6_findSteer cX6_findSteer 7 none ov_S0 [.ref 74, .int x1, .int x2] σ (ovKv k) := by
  refine ov_Ct.of (by decide) (Nat.le_of_ble_eq_true rfl) ?_
  unfold F_X6_findSteer at hF
  show vv_X6_findSteer k 0 [(0, .ref 74), (1, .int x1), (2, .int x2)] [] σ
  refine ov_aload_n dX6_findSteer_0 0 rfl ?_
  refine ov_callV [] dX6_findSteer_1 (c_X6_thinks hF) (Nat.le_of_ble_eq_true rfl) (Nat.le_of_ble_eq_true rfl) lk_X6_165 sh_74 rfl (Nat.le_of_ble_eq_true rfl) (Nat.le_refl _) (Nat.le_refl _) (fun rr σ22 hF => ?_)
  obtain ⟨rfl, hF⟩ := hF
  show vv_X6_findSteer k 4 [(0, .ref 74), (1, .int x1), (2, .int x2)] [] σ22
  refine ov_iconst (-1) (by decide) dX6_findSteer_4 ?_
  refine ov_istore_n dX6_findSteer_5 (Nat.le_of_ble_eq_true rfl) [(3, .int (-1)), (0, .ref 74), (1, .int x1), (2, .int x2)] rfl ?_
  refine ov_iconst 0 (by decide) dX6_findSteer_6 ?_
  refine ov_istore dX6_findSteer_7 (Nat.le_of_ble_eq_true rfl) [(4, .int 0), (3, .int (-1)), (0, .ref 74), (1, .int x1), (2, .int x2)] rfl ?_
  refine ov_pick [2, 3, 4, 1, 0] [(0, .ref 74), (1, .int x1), (2, .int x2), (3, .int (-1)), (4, .int 0)] rfl ?_
  obtain ⟨n23, hF⟩ := hF
  exact V_X6_findSteer_9 n23 x1 x2 (-1) 0 σ22 hF
/-! X6_steer -/
abbrev vv_X6_steer (k : Int32 → ovSt → Prop) (pc : Nat) (L : List (Nat × Value)) (st : List Value) (σ : ovSt) : Prop := ov_V (ovZs 6 yX6_steer cX6_steer 4) (ovKs (some .int) ov_S0 (ovKi k)) (0, 0) ov_S0 pc L st σ
def F_X6_steer_29 (k : Int32 → ovSt → Prop) (σ : ovSt) : Prop := (k (-1000000001) σ)
set_option maxRecDepth 100000 in
set_option maxHeartbeats 4000000 in
theorem V_X6_steer_29 {k : Int32 → ovSt → Prop} (σ : ovSt) (hF : F_X6_steer_29 k σ) : vv_X6_steer k 29 [] [] σ := by
  unfold F_X6_steer_29 at hF
  refine ov_ldc dX6_steer_29 qc_X6_90 ?_
  exact ov_ireturn dX6_steer_31 (Nat.le_refl _) (Nat.le_refl _) ⟨rfl, trivial, _, rfl, hF⟩
def F_X6_steer (x1 : Int32) (x2 : Int32) (x3 : Int32) (σ : ovSt) (k : Int32 → ovSt → Prop) : Prop := (F_X6_in x1 0 99999 σ (fun v1 σ2 => (if v1 = 0 then (F_X6_steer_29 k σ2) else (F_X6_in x2 0 30 σ2 (fun v3 σ4 => (if v3 = 0 then (F_X6_steer_29 k σ4) else (F_X6_in x3 0 2 σ4 (fun v5 σ6 => (if v5 = 0 then (F_X6_steer_29 k σ6) else (vp_in 1 1412 ∧ (if (σ6 75 (Int32.toNatClampNeg 1)) = 0 then (k (-1000000005) σ6) else (F_X6_findSteer x1 x2 σ6 (fun σ9 => (vp_in x3 3 ∧ (k (σ9 79 (Int32.toNatClampNeg x3)) σ9)))))))))))))))
set_option maxRecDepth 100000 in
set_option maxHeartbeats 4000000 in
theorem c_X6_steer {x1 : Int32} {x2 : Int32} {x3 : Int32} {σ : ovSt} {k : Int32 → ovSt → Prop} (hF : F_X6_steer x1 x2 x3 σ k) : ov_Ct 6 yX6_steer cX6_steer 4 (some .int) ov_S0 [.ref 74, .int x1, .int x2, .int x3] σ (ovKi k) := by
  refine ov_Ct.of (by decide) (Nat.le_of_ble_eq_true rfl) ?_
  unfold F_X6_steer at hF
  show vv_X6_steer k 0 [(0, .ref 74), (1, .int x1), (2, .int x2), (3, .int x3)] [] σ
  refine ov_iload_n dX6_steer_0 1 rfl ?_
  refine ov_iconst 0 (by decide) dX6_steer_1 ?_
  refine ov_ldc dX6_steer_2 qc_X6_100 ?_
  refine ov_callS [.int x1, .int 0, .int 99999] dX6_steer_4 (c_X6_in hF) (Nat.le_of_ble_eq_true rfl) (Nat.le_of_ble_eq_true rfl) lk_X6_82 (Nat.le_of_ble_eq_true rfl) (Nat.le_refl _) (Nat.le_refl _) (fun rr σ2 hF => ?_)
  obtain ⟨v1, rfl, hF⟩ := hF
  show vv_X6_steer k 7 [(0, .ref 74), (1, .int x1), (2, .int x2), (3, .int x3)] [.int v1] σ2
  refine ov_if_eq 29 dX6_steer_7 (by decide) hF (fun hF => ?_) (fun hF => ?_)
  · refine ov_pick [] [] rfl ?_
    exact V_X6_steer_29 σ2 hF
  · refine ov_iload_n dX6_steer_10 2 rfl ?_
    refine ov_iconst 0 (by decide) dX6_steer_11 ?_
    refine ov_bipush 30 (by decide) dX6_steer_12 ?_
    refine ov_callS [.int x2, .int 0, .int 30] dX6_steer_14 (c_X6_in hF) (Nat.le_of_ble_eq_true rfl) (Nat.le_of_ble_eq_true rfl) lk_X6_82 (Nat.le_of_ble_eq_true rfl) (Nat.le_refl _) (Nat.le_refl _) (fun rr σ4 hF => ?_)
    obtain ⟨v3, rfl, hF⟩ := hF
    show vv_X6_steer k 17 [(0, .ref 74), (1, .int x1), (2, .int x2), (3, .int x3)] [.int v3] σ4
    refine ov_if_eq 29 dX6_steer_17 (by decide) hF (fun hF => ?_) (fun hF => ?_)
    · refine ov_pick [] [] rfl ?_
      exact V_X6_steer_29 σ4 hF
    · refine ov_iload_n dX6_steer_20 3 rfl ?_
      refine ov_iconst 0 (by decide) dX6_steer_21 ?_
      refine ov_iconst 2 (by decide) dX6_steer_22 ?_
      refine ov_callS [.int x3, .int 0, .int 2] dX6_steer_23 (c_X6_in hF) (Nat.le_of_ble_eq_true rfl) (Nat.le_of_ble_eq_true rfl) lk_X6_82 (Nat.le_of_ble_eq_true rfl) (Nat.le_refl _) (Nat.le_refl _) (fun rr σ6 hF => ?_)
      obtain ⟨v5, rfl, hF⟩ := hF
      show vv_X6_steer k 26 [(0, .ref 74), (1, .int x1), (2, .int x2), (3, .int x3)] [.int v5] σ6
      refine ov_if_ne 32 dX6_steer_26 (by decide) hF (fun hF => ?_) (fun hF => ?_)
      · refine ov_aload_n dX6_steer_32 0 rfl ?_
        refine ov_getr (T := TX6) (kf := 0) dX6_steer_33 qf_X6_9 sh_74 rfl (Nat.le_of_ble_eq_true rfl) rfl (by decide) ?_
        refine ov_iconst 1 (by decide) dX6_steer_36 ?_
        have h7 := hF.1
        have hF := hF.2
        refine ov_iaload dX6_steer_37 sh_75 h7 ?_
        refine ov_if_ne 44 dX6_steer_38 (by decide) hF (fun hF => ?_) (fun hF => ?_)
        · refine ov_aload_n dX6_steer_44 0 rfl ?_
          refine ov_iload_n dX6_steer_45 1 rfl ?_
          refine ov_iload_n dX6_steer_46 2 rfl ?_
          refine ov_callV [.int x1, .int x2] dX6_steer_47 (c_X6_findSteer hF) (Nat.le_of_ble_eq_true rfl) (Nat.le_of_ble_eq_true rfl) lk_X6_174 sh_74 rfl (Nat.le_of_ble_eq_true rfl) (Nat.le_refl _) (Nat.le_refl _) (fun rr σ9 hF => ?_)
          obtain ⟨rfl, hF⟩ := hF
          show vv_X6_steer k 50 [(0, .ref 74), (1, .int x1), (2, .int x2), (3, .int x3)] [] σ9
          refine ov_aload_n dX6_steer_50 0 rfl ?_
          refine ov_getr (T := TX6) (kf := 5) dX6_steer_51 qf_X6_22 sh_74 rfl (Nat.le_of_ble_eq_true rfl) rfl (by decide) ?_
          refine ov_iload_n dX6_steer_54 3 rfl ?_
          have h10 := hF.1
          have hF := hF.2
          refine ov_iaload dX6_steer_55 sh_79 h10 ?_
          exact ov_ireturn dX6_steer_56 (Nat.le_refl _) (Nat.le_refl _) ⟨rfl, trivial, _, rfl, hF⟩
        · refine ov_ldc dX6_steer_41 qc_X6_81 ?_
          exact ov_ireturn dX6_steer_43 (Nat.le_refl _) (Nat.le_refl _) ⟨rfl, trivial, _, rfl, hF⟩
      · refine ov_pick [] [] rfl ?_
        exact V_X6_steer_29 σ6 hF
/-! X6_leastPot -/
abbrev vv_X6_leastPot (k : Int32 → ovSt → Prop) (pc : Nat) (L : List (Nat × Value)) (st : List Value) (σ : ovSt) : Prop := ov_V (ovZs 4 yX6_leastPot cX6_leastPot 6) (ovKs (some .int) ov_S0 (ovKi k)) (0, 0) ov_S0 pc L st σ
def F_X6_leastPot_28 (k : Int32 → ovSt → Prop) (σ : ovSt) : Prop := (k (-1000000001) σ)
set_option maxRecDepth 100000 in
set_option maxHeartbeats 4000000 in
theorem V_X6_leastPot_28 {k : Int32 → ovSt → Prop} (σ : ovSt) (hF : F_X6_leastPot_28 k σ) : vv_X6_leastPot k 28 [] [] σ := by
  unfold F_X6_leastPot_28 at hF
  refine ov_ldc dX6_leastPot_28 qc_X6_90 ?_
  exact ov_ireturn dX6_leastPot_30 (Nat.le_refl _) (Nat.le_refl _) ⟨rfl, trivial, _, rfl, hF⟩
def F_X6_leastPot_99 (k : Int32 → ovSt → Prop) (t0 : Int32) (σ : ovSt) : Prop := (k t0 σ)
set_option maxRecDepth 100000 in
set_option maxHeartbeats 4000000 in
theorem V_X6_leastPot_99 {k : Int32 → ovSt → Prop} (t0 : Int32) (σ : ovSt) (hF : F_X6_leastPot_99 k t0 σ) : vv_X6_leastPot k 99 [] [.int t0] σ := by
  unfold F_X6_leastPot_99 at hF
  exact ov_ireturn dX6_leastPot_99 (Nat.le_refl _) (Nat.le_refl _) ⟨rfl, trivial, _, rfl, hF⟩
def F_X6_leastPot_86 (k : Int32 → ovSt → Prop) (x2 : Int32) (x4 : Int32) (x5 : Int32) (σ : ovSt) : Prop := (if x2 ≤ x4 then (F_X6_leastPot_99 k x5 σ) else (F_X6_leastPot_99 k (-1000000005) σ))
set_option maxRecDepth 100000 in
set_option maxHeartbeats 4000000 in
theorem V_X6_leastPot_86 {k : Int32 → ovSt → Prop} (x2 : Int32) (x4 : Int32) (x5 : Int32) (σ : ovSt) (hF : F_X6_leastPot_86 k x2 x4 x5 σ) : vv_X6_leastPot k 86 [(2, .int x2), (4, .int x4), (5, .int x5)] [] σ := by
  unfold F_X6_leastPot_86 at hF
  refine ov_iload dX6_leastPot_86 1 rfl ?_
  refine ov_iload_n dX6_leastPot_88 0 rfl ?_
  refine ov_icmp_ge 97 dX6_leastPot_89 (by decide) hF (fun hF => ?_) (fun hF => ?_)
  · refine ov_iload dX6_leastPot_97 2 rfl ?_
    refine ov_pick [] [] rfl ?_
    exact V_X6_leastPot_99 x5 σ hF
  · refine ov_ldc dX6_leastPot_92 qc_X6_81 ?_
    refine ov_goto 99 dX6_leastPot_94 (by decide) ?_
    refine ov_pick [] [] rfl ?_
    exact V_X6_leastPot_99 (-1000000005) σ hF
def F_X6_leastPot_41 (k : Int32 → ovSt → Prop) : Nat → Int32 → Int32 → Int32 → Int32 → Int32 → ovSt → Prop
  | 0 => fun _ _ _ _ _ _ => False
  | n + 1 => fun x1 x2 x3 x4 x5 σ => (if (990 : Int32) ≤ x5 then (F_X6_leastPot_86 k x2 x4 x5 σ) else (if x2 ≤ x4 then (F_X6_leastPot_86 k x2 x4 x5 σ) else (vp_in 2 1412 ∧ (∀ σ2 : ovSt, σ2 = ov_up σ 75 (Int32.toNatClampNeg 2) (x5 + 10) → (F_X6_goesOn x3 σ2 (fun σ4 => (F_X6_of x1 2 σ4 (fun v5 σ6 => (F_X6_putsBack σ6 (fun σ8 => F_X6_leastPot_41 k n x1 x2 x3 v5 (x5 + 10) σ8))))))))))
set_option maxRecDepth 100000 in
set_option maxHeartbeats 4000000 in
theorem V_X6_leastPot_41 {k : Int32 → ovSt → Prop} : ∀ (n : Nat) (x1 : Int32) (x2 : Int32) (x3 : Int32) (x4 : Int32) (x5 : Int32) (σ : ovSt), F_X6_leastPot_41 k n x1 x2 x3 x4 x5 σ → vv_X6_leastPot k 41 [(0, .ref 74), (1, .int x1), (2, .int x2), (3, .int x3), (4, .int x4), (5, .int x5)] [] σ := by
  intro n
  induction n with
  | zero => intro x1 x2 x3 x4 x5 σ hF; exact hF.elim
  | succ n ih =>
    intro x1 x2 x3 x4 x5 σ hF
    unfold F_X6_leastPot_41 at hF
    refine ov_iload dX6_leastPot_41 5 rfl ?_
    refine ov_sipush 990 (by decide) dX6_leastPot_43 ?_
    refine ov_icmp_ge 86 dX6_leastPot_46 (by decide) hF (fun hF => ?_) (fun hF => ?_)
    · refine ov_pick [2, 4, 5] [(2, .int x2), (4, .int x4), (5, .int x5)] rfl ?_
      exact V_X6_leastPot_86 x2 x4 x5 σ hF
    · refine ov_iload dX6_leastPot_49 4 rfl ?_
      refine ov_iload_n dX6_leastPot_51 2 rfl ?_
      refine ov_icmp_ge 86 dX6_leastPot_52 (by decide) hF (fun hF => ?_) (fun hF => ?_)
      · refine ov_pick [2, 4, 5] [(2, .int x2), (4, .int x4), (5, .int x5)] rfl ?_
        exact V_X6_leastPot_86 x2 x4 x5 σ hF
      · refine ov_iinc dX6_leastPot_55 5 rfl (x5 + 10) rfl (Nat.le_of_ble_eq_true rfl) [(5, .int (x5 + 10)), (0, .ref 74), (1, .int x1), (2, .int x2), (3, .int x3), (4, .int x4)] rfl ?_
        refine ov_aload_n dX6_leastPot_58 1 rfl ?_
        refine ov_getr (T := TX6) (kf := 0) dX6_leastPot_59 qf_X6_9 sh_74 rfl (Nat.le_of_ble_eq_true rfl) rfl (by decide) ?_
        refine ov_iconst 2 (by decide) dX6_leastPot_62 ?_
        refine ov_iload dX6_leastPot_63 0 rfl ?_
        have h1 := hF.1
        have hF := hF.2
        refine ov_iastore dX6_leastPot_65 sh_75 h1 ?_
        refine ov_nmS (fun σ2 es2 => ?_)
        have hF := hF σ2 es2
        refine ov_aload_n dX6_leastPot_66 1 rfl ?_
        refine ov_iload_n dX6_leastPot_67 4 rfl ?_
        refine ov_callV [.int x3] dX6_leastPot_68 (c_X6_goesOn hF) (Nat.le_of_ble_eq_true rfl) (Nat.le_of_ble_eq_true rfl) lk_X6_158 sh_74 rfl (Nat.le_of_ble_eq_true rfl) (Nat.le_refl _) (Nat.le_refl _) (fun rr σ4 hF => ?_)
        obtain ⟨rfl, hF⟩ := hF
        show vv_X6_leastPot k 71 [(5, .int (x5 + 10)), (0, .ref 74), (1, .int x1), (2, .int x2), (3, .int x3), (4, .int x4)] [] σ4
        refine ov_aload_n dX6_leastPot_71 1 rfl ?_
        refine ov_iload_n dX6_leastPot_72 2 rfl ?_
        refine ov_iconst 2 (by decide) dX6_leastPot_73 ?_
        refine ov_callV [.int x1, .int 2] dX6_leastPot_74 (c_X6_of hF) (Nat.le_of_ble_eq_true rfl) (Nat.le_of_ble_eq_true rfl) lk_X6_96 sh_74 rfl (Nat.le_of_ble_eq_true rfl) (Nat.le_refl _) (Nat.le_refl _) (fun rr σ6 hF => ?_)
        obtain ⟨v5, rfl, hF⟩ := hF
        show vv_X6_leastPot k 77 [(5, .int (x5 + 10)), (0, .ref 74), (1, .int x1), (2, .int x2), (3, .int x3), (4, .int x4)] [.int v5] σ6
        refine ov_istore dX6_leastPot_77 (Nat.le_of_ble_eq_true rfl) [(4, .int v5), (5, .int (x5 + 10)), (0, .ref 74), (1, .int x1), (2, .int x2), (3, .int x3)] rfl ?_
        refine ov_aload_n dX6_leastPot_79 2 rfl ?_
        refine ov_callV [] dX6_leastPot_80 (c_X6_putsBack hF) (Nat.le_of_ble_eq_true rfl) (Nat.le_of_ble_eq_true rfl) lk_X6_168 sh_74 rfl (Nat.le_of_ble_eq_true rfl) (Nat.le_refl _) (Nat.le_refl _) (fun rr σ8 hF => ?_)
        obtain ⟨rfl, hF⟩ := hF
        show vv_X6_leastPot k 83 [(4, .int v5), (5, .int (x5 + 10)), (0, .ref 74), (1, .int x1), (2, .int x2), (3, .int x3)] [] σ8
        refine ov_goto 41 dX6_leastPot_83 (by decide) ?_
        refine ov_pick [2, 3, 4, 5, 0, 1] [(0, .ref 74), (1, .int x1), (2, .int x2), (3, .int x3), (4, .int v5), (5, .int (x5 + 10))] rfl ?_
        exact ih x1 x2 x3 v5 (x5 + 10) σ8 hF
def F_X6_leastPot (x1 : Int32) (x2 : Int32) (x3 : Int32) (σ : ovSt) (k : Int32 → ovSt → Prop) : Prop := (F_X6_isThing x1 σ (fun v9 σ10 => (if v9 = 0 then (F_X6_leastPot_28 k σ10) else (F_X6_in x2 0 99999 σ10 (fun v11 σ12 => (if v11 = 0 then (F_X6_leastPot_28 k σ12) else (F_X6_in x3 0 60 σ12 (fun v13 σ14 => (if v13 = 0 then (F_X6_leastPot_28 k σ14) else (F_X6_thinks σ14 (fun σ16 => (∃ n17, F_X6_leastPot_41 k n17 x1 x2 x3 (-1) 0 σ16))))))))))))
set_option maxRecDepth 100000 in
set_option maxHeartbeats 4000000 in
theorem c_X6_leastPot {x1 : Int32} {x2 : Int32} {x3 : Int32} {σ : ovSt} {k : Int32 → ovSt → Prop} (hF : F_X6_leastPot x1 x2 x3 σ k) : ov_Ct 4 yX6_leastPot cX6_leastPot 6 (some .int) ov_S0 [.ref 74, .int x1, .int x2, .int x3] σ (ovKi k) := by
  refine ov_Ct.of (by decide) (Nat.le_of_ble_eq_true rfl) ?_
  unfold F_X6_leastPot at hF
  show vv_X6_leastPot k 0 [(0, .ref 74), (1, .int x1), (2, .int x2), (3, .int x3)] [] σ
  refine ov_aload_n dX6_leastPot_0 0 rfl ?_
  refine ov_iload_n dX6_leastPot_1 1 rfl ?_
  refine ov_callV [.int x1] dX6_leastPot_2 (c_X6_isThing hF) (Nat.le_of_ble_eq_true rfl) (Nat.le_of_ble_eq_true rfl) lk_X6_104 sh_74 rfl (Nat.le_of_ble_eq_true rfl) (Nat.le_refl _) (Nat.le_refl _) (fun rr σ10 hF => ?_)
  obtain ⟨v9, rfl, hF⟩ := hF
  show vv_X6_leastPot k 5 [(0, .ref 74), (1, .int x1), (2, .int x2), (3, .int x3)] [.int v9] σ10
  refine ov_if_eq 28 dX6_leastPot_5 (by decide) hF (fun hF => ?_) (fun hF => ?_)
  · refine ov_pick [] [] rfl ?_
    exact V_X6_leastPot_28 σ10 hF
  · refine ov_iload_n dX6_leastPot_8 2 rfl ?_
    refine ov_iconst 0 (by decide) dX6_leastPot_9 ?_
    refine ov_ldc dX6_leastPot_10 qc_X6_100 ?_
    refine ov_callS [.int x2, .int 0, .int 99999] dX6_leastPot_12 (c_X6_in hF) (Nat.le_of_ble_eq_true rfl) (Nat.le_of_ble_eq_true rfl) lk_X6_82 (Nat.le_of_ble_eq_true rfl) (Nat.le_refl _) (Nat.le_refl _) (fun rr σ12 hF => ?_)
    obtain ⟨v11, rfl, hF⟩ := hF
    show vv_X6_leastPot k 15 [(0, .ref 74), (1, .int x1), (2, .int x2), (3, .int x3)] [.int v11] σ12
    refine ov_if_eq 28 dX6_leastPot_15 (by decide) hF (fun hF => ?_) (fun hF => ?_)
    · refine ov_pick [] [] rfl ?_
      exact V_X6_leastPot_28 σ12 hF
    · refine ov_iload_n dX6_leastPot_18 3 rfl ?_
      refine ov_iconst 0 (by decide) dX6_leastPot_19 ?_
      refine ov_bipush 60 (by decide) dX6_leastPot_20 ?_
      refine ov_callS [.int x3, .int 0, .int 60] dX6_leastPot_22 (c_X6_in hF) (Nat.le_of_ble_eq_true rfl) (Nat.le_of_ble_eq_true rfl) lk_X6_82 (Nat.le_of_ble_eq_true rfl) (Nat.le_refl _) (Nat.le_refl _) (fun rr σ14 hF => ?_)
      obtain ⟨v13, rfl, hF⟩ := hF
      show vv_X6_leastPot k 25 [(0, .ref 74), (1, .int x1), (2, .int x2), (3, .int x3)] [.int v13] σ14
      refine ov_if_ne 31 dX6_leastPot_25 (by decide) hF (fun hF => ?_) (fun hF => ?_)
      · refine ov_aload_n dX6_leastPot_31 0 rfl ?_
        refine ov_callV [] dX6_leastPot_32 (c_X6_thinks hF) (Nat.le_of_ble_eq_true rfl) (Nat.le_of_ble_eq_true rfl) lk_X6_165 sh_74 rfl (Nat.le_of_ble_eq_true rfl) (Nat.le_refl _) (Nat.le_refl _) (fun rr σ16 hF => ?_)
        obtain ⟨rfl, hF⟩ := hF
        show vv_X6_leastPot k 35 [(0, .ref 74), (1, .int x1), (2, .int x2), (3, .int x3)] [] σ16
        refine ov_iconst (-1) (by decide) dX6_leastPot_35 ?_
        refine ov_istore dX6_leastPot_36 (Nat.le_of_ble_eq_true rfl) [(4, .int (-1)), (0, .ref 74), (1, .int x1), (2, .int x2), (3, .int x3)] rfl ?_
        refine ov_iconst 0 (by decide) dX6_leastPot_38 ?_
        refine ov_istore dX6_leastPot_39 (Nat.le_of_ble_eq_true rfl) [(5, .int 0), (4, .int (-1)), (0, .ref 74), (1, .int x1), (2, .int x2), (3, .int x3)] rfl ?_
        refine ov_pick [2, 3, 4, 5, 1, 0] [(0, .ref 74), (1, .int x1), (2, .int x2), (3, .int x3), (4, .int (-1)), (5, .int 0)] rfl ?_
        obtain ⟨n17, hF⟩ := hF
        exact V_X6_leastPot_41 n17 x1 x2 x3 (-1) 0 σ16 hF
      · refine ov_pick [] [] rfl ?_
        exact V_X6_leastPot_28 σ14 hF
/-! X6_nearest -/
abbrev vv_X6_nearest (k : Int32 → ovSt → Prop) (pc : Nat) (L : List (Nat × Value)) (st : List Value) (σ : ovSt) : Prop := ov_V (ovZs 5 yX6_nearest cX6_nearest 6) (ovKs (some .int) ov_S0 (ovKi k)) (0, 0) ov_S0 pc L st σ
def F_X6_nearest_77 (R31 : Int32 → Int32 → Int32 → Int32 → ovSt → Prop) (k : Int32 → ovSt → Prop) (x1 : Int32) (x2 : Int32) (x4 : Int32) (t0 : Int32) (σ : ovSt) : Prop := R31 x1 x2 t0 (x4 + 1) σ
set_option maxRecDepth 100000 in
set_option maxHeartbeats 4000000 in
theorem V_X6_nearest_77 {k : Int32 → ovSt → Prop} {R31 : Int32 → Int32 → Int32 → Int32 → ovSt → Prop} (hR31 : ∀ (x1 : Int32) (x2 : Int32) (x3 : Int32) (x4 : Int32) (σ : ovSt), R31 x1 x2 x3 x4 σ → vv_X6_nearest k 31 [(0, .ref 74), (1, .int x1), (2, .int x2), (3, .int x3), (4, .int x4)] [] σ) (x1 : Int32) (x2 : Int32) (x4 : Int32) (t0 : Int32) (σ : ovSt) (hF : F_X6_nearest_77 R31 k x1 x2 x4 t0 σ) : vv_X6_nearest k 77 [(0, .ref 74), (1, .int x1), (2, .int x2), (4, .int x4)] [.int t0] σ := by
  unfold F_X6_nearest_77 at hF
  refine ov_istore_n dX6_nearest_77 (Nat.le_of_ble_eq_true rfl) [(3, .int t0), (0, .ref 74), (1, .int x1), (2, .int x2), (4, .int x4)] rfl ?_
  refine ov_iinc dX6_nearest_78 4 rfl (x4 + 1) rfl (Nat.le_of_ble_eq_true rfl) [(4, .int (x4 + 1)), (3, .int t0), (0, .ref 74), (1, .int x1), (2, .int x2)] rfl ?_
  refine ov_goto 31 dX6_nearest_81 (by decide) ?_
  refine ov_pick [2, 3, 4, 1, 0] [(0, .ref 74), (1, .int x1), (2, .int x2), (3, .int t0), (4, .int (x4 + 1))] rfl ?_
  exact hR31 x1 x2 t0 (x4 + 1) σ hF
def F_X6_nearest_64 (R31 : Int32 → Int32 → Int32 → Int32 → ovSt → Prop) (k : Int32 → ovSt → Prop) (x1 : Int32) (x3 : Int32) (x4 : Int32) (x5 : Int32) (t0 : Int32) (σ : ovSt) : Prop := (if x3 ≤ x5 then (F_X6_nearest_77 R31 k x1 t0 x4 x3 σ) else (F_X6_nearest_77 R31 k x1 t0 x4 x5 σ))
set_option maxRecDepth 100000 in
set_option maxHeartbeats 4000000 in
theorem V_X6_nearest_64 {k : Int32 → ovSt → Prop} {R31 : Int32 → Int32 → Int32 → Int32 → ovSt → Prop} (hR31 : ∀ (x1 : Int32) (x2 : Int32) (x3 : Int32) (x4 : Int32) (σ : ovSt), R31 x1 x2 x3 x4 σ → vv_X6_nearest k 31 [(0, .ref 74), (1, .int x1), (2, .int x2), (3, .int x3), (4, .int x4)] [] σ) (x1 : Int32) (x3 : Int32) (x4 : Int32) (x5 : Int32) (t0 : Int32) (σ : ovSt) (hF : F_X6_nearest_64 R31 k x1 x3 x4 x5 t0 σ) : vv_X6_nearest k 64 [(0, .ref 74), (1, .int x1), (3, .int x3), (4, .int x4), (5, .int x5)] [.int t0] σ := by
  unfold F_X6_nearest_64 at hF
  refine ov_istore_n dX6_nearest_64 (Nat.le_of_ble_eq_true rfl) [(2, .int t0), (0, .ref 74), (1, .int x1), (3, .int x3), (4, .int x4), (5, .int x5)] rfl ?_
  refine ov_iload dX6_nearest_65 5 rfl ?_
  refine ov_iload_n dX6_nearest_67 3 rfl ?_
  refine ov_icmp_ge 76 dX6_nearest_68 (by decide) hF (fun hF => ?_) (fun hF => ?_)
  · refine ov_iload_n dX6_nearest_76 3 rfl ?_
    refine ov_pick [1, 2, 0, 4] [(0, .ref 74), (1, .int x1), (2, .int t0), (4, .int x4)] rfl ?_
    exact V_X6_nearest_77 hR31 x1 t0 x4 x3 σ hF
  · refine ov_iload dX6_nearest_71 5 rfl ?_
    refine ov_goto 77 dX6_nearest_73 (by decide) ?_
    refine ov_pick [1, 2, 0, 4] [(0, .ref 74), (1, .int x1), (2, .int t0), (4, .int x4)] rfl ?_
    exact V_X6_nearest_77 hR31 x1 t0 x4 x5 σ hF
def F_X6_nearest_31 (k : Int32 → ovSt → Prop) : Nat → Int32 → Int32 → Int32 → Int32 → ovSt → Prop
  | 0 => fun _ _ _ _ _ => False
  | n + 1 => fun x1 x2 x3 x4 σ => (if (100 : Int32) < x4 then (F_X6_putsBack σ (fun σ2 => (k x2 σ2))) else (F_X6_day σ (fun σ4 => (F_X6_tasteAll σ4 (fun v5 σ6 => (F_X6_off v5 x1 σ6 (fun v7 σ8 => (if x3 ≤ v7 then (F_X6_nearest_64 (F_X6_nearest_31 k n) k x1 x3 x4 v7 x2 σ8) else (F_X6_nearest_64 (F_X6_nearest_31 k n) k x1 x3 x4 v7 x4 σ8)))))))))
set_option maxRecDepth 100000 in
set_option maxHeartbeats 4000000 in
theorem V_X6_nearest_31 {k : Int32 → ovSt → Prop} : ∀ (n : Nat) (x1 : Int32) (x2 : Int32) (x3 : Int32) (x4 : Int32) (σ : ovSt), F_X6_nearest_31 k n x1 x2 x3 x4 σ → vv_X6_nearest k 31 [(0, .ref 74), (1, .int x1), (2, .int x2), (3, .int x3), (4, .int x4)] [] σ := by
  intro n
  induction n with
  | zero => intro x1 x2 x3 x4 σ hF; exact hF.elim
  | succ n ih =>
    intro x1 x2 x3 x4 σ hF
    unfold F_X6_nearest_31 at hF
    refine ov_iload dX6_nearest_31 4 rfl ?_
    refine ov_bipush 100 (by decide) dX6_nearest_33 ?_
    refine ov_icmp_gt 84 dX6_nearest_35 (by decide) hF (fun hF => ?_) (fun hF => ?_)
    · refine ov_aload_n dX6_nearest_84 0 rfl ?_
      refine ov_callV [] dX6_nearest_85 (c_X6_putsBack hF) (Nat.le_of_ble_eq_true rfl) (Nat.le_of_ble_eq_true rfl) lk_X6_168 sh_74 rfl (Nat.le_of_ble_eq_true rfl) (Nat.le_refl _) (Nat.le_refl _) (fun rr σ2 hF => ?_)
      obtain ⟨rfl, hF⟩ := hF
      show vv_X6_nearest k 88 [(0, .ref 74), (1, .int x1), (2, .int x2), (3, .int x3), (4, .int x4)] [] σ2
      refine ov_iload_n dX6_nearest_88 2 rfl ?_
      exact ov_ireturn dX6_nearest_89 (Nat.le_refl _) (Nat.le_refl _) ⟨rfl, trivial, _, rfl, hF⟩
    · refine ov_aload_n dX6_nearest_38 0 rfl ?_
      refine ov_callV [] dX6_nearest_39 (c_X6_day hF) (Nat.le_of_ble_eq_true rfl) (Nat.le_of_ble_eq_true rfl) lk_X6_155 sh_74 rfl (Nat.le_of_ble_eq_true rfl) (Nat.le_refl _) (Nat.le_refl _) (fun rr σ4 hF => ?_)
      obtain ⟨rfl, hF⟩ := hF
      show vv_X6_nearest k 42 [(0, .ref 74), (1, .int x1), (2, .int x2), (3, .int x3), (4, .int x4)] [] σ4
      refine ov_aload_n dX6_nearest_42 0 rfl ?_
      refine ov_callV [] dX6_nearest_43 (c_X6_tasteAll hF) (Nat.le_of_ble_eq_true rfl) (Nat.le_of_ble_eq_true rfl) lk_X6_162 sh_74 rfl (Nat.le_of_ble_eq_true rfl) (Nat.le_refl _) (Nat.le_refl _) (fun rr σ6 hF => ?_)
      obtain ⟨v5, rfl, hF⟩ := hF
      show vv_X6_nearest k 46 [(0, .ref 74), (1, .int x1), (2, .int x2), (3, .int x3), (4, .int x4)] [.int v5] σ6
      refine ov_iload_n dX6_nearest_46 1 rfl ?_
      refine ov_callS [.int v5, .int x1] dX6_nearest_47 (c_X6_off hF) (Nat.le_of_ble_eq_true rfl) (Nat.le_of_ble_eq_true rfl) lk_X6_171 (Nat.le_of_ble_eq_true rfl) (Nat.le_refl _) (Nat.le_refl _) (fun rr σ8 hF => ?_)
      obtain ⟨v7, rfl, hF⟩ := hF
      show vv_X6_nearest k 50 [(0, .ref 74), (1, .int x1), (2, .int x2), (3, .int x3), (4, .int x4)] [.int v7] σ8
      refine ov_istore dX6_nearest_50 (Nat.le_of_ble_eq_true rfl) [(5, .int v7), (0, .ref 74), (1, .int x1), (2, .int x2), (3, .int x3), (4, .int x4)] rfl ?_
      refine ov_iload dX6_nearest_52 0 rfl ?_
      refine ov_iload_n dX6_nearest_54 4 rfl ?_
      refine ov_icmp_ge 63 dX6_nearest_55 (by decide) hF (fun hF => ?_) (fun hF => ?_)
      · refine ov_iload_n dX6_nearest_63 3 rfl ?_
        refine ov_pick [1, 2, 4, 5, 0] [(0, .ref 74), (1, .int x1), (3, .int x3), (4, .int x4), (5, .int v7)] rfl ?_
        exact V_X6_nearest_64 ih x1 x3 x4 v7 x2 σ8 hF
      · refine ov_iload dX6_nearest_58 5 rfl ?_
        refine ov_goto 64 dX6_nearest_60 (by decide) ?_
        refine ov_pick [1, 2, 4, 5, 0] [(0, .ref 74), (1, .int x1), (3, .int x3), (4, .int x4), (5, .int v7)] rfl ?_
        exact V_X6_nearest_64 ih x1 x3 x4 v7 x4 σ8 hF
def F_X6_nearest (x1 : Int32) (σ : ovSt) (k : Int32 → ovSt → Prop) : Prop := (F_X6_in x1 0 99999 σ (fun v9 σ10 => (if v9 = 0 then (k (-1000000001) σ10) else (F_X6_thinks σ10 (fun σ12 => (F_X6_tasteAll σ12 (fun v13 σ14 => (F_X6_off v13 x1 σ14 (fun v15 σ16 => (∃ n17, F_X6_nearest_31 k n17 x1 0 v15 1 σ16))))))))))
set_option maxRecDepth 100000 in
set_option maxHeartbeats 4000000 in
theorem c_X6_nearest {x1 : Int32} {σ : ovSt} {k : Int32 → ovSt → Prop} (hF : F_X6_nearest x1 σ k) : ov_Ct 5 yX6_nearest cX6_nearest 6 (some .int) ov_S0 [.ref 74, .int x1] σ (ovKi k) := by
  refine ov_Ct.of (by decide) (Nat.le_of_ble_eq_true rfl) ?_
  unfold F_X6_nearest at hF
  show vv_X6_nearest k 0 [(0, .ref 74), (1, .int x1)] [] σ
  refine ov_iload_n dX6_nearest_0 1 rfl ?_
  refine ov_iconst 0 (by decide) dX6_nearest_1 ?_
  refine ov_ldc dX6_nearest_2 qc_X6_100 ?_
  refine ov_callS [.int x1, .int 0, .int 99999] dX6_nearest_4 (c_X6_in hF) (Nat.le_of_ble_eq_true rfl) (Nat.le_of_ble_eq_true rfl) lk_X6_82 (Nat.le_of_ble_eq_true rfl) (Nat.le_refl _) (Nat.le_refl _) (fun rr σ10 hF => ?_)
  obtain ⟨v9, rfl, hF⟩ := hF
  show vv_X6_nearest k 7 [(0, .ref 74), (1, .int x1)] [.int v9] σ10
  refine ov_if_ne 13 dX6_nearest_7 (by decide) hF (fun hF => ?_) (fun hF => ?_)
  · refine ov_aload_n dX6_nearest_13 0 rfl ?_
    refine ov_callV [] dX6_nearest_14 (c_X6_thinks hF) (Nat.le_of_ble_eq_true rfl) (Nat.le_of_ble_eq_true rfl) lk_X6_165 sh_74 rfl (Nat.le_of_ble_eq_true rfl) (Nat.le_refl _) (Nat.le_refl _) (fun rr σ12 hF => ?_)
    obtain ⟨rfl, hF⟩ := hF
    show vv_X6_nearest k 17 [(0, .ref 74), (1, .int x1)] [] σ12
    refine ov_iconst 0 (by decide) dX6_nearest_17 ?_
    refine ov_istore_n dX6_nearest_18 (Nat.le_of_ble_eq_true rfl) [(2, .int 0), (0, .ref 74), (1, .int x1)] rfl ?_
    refine ov_aload_n dX6_nearest_19 1 rfl ?_
    refine ov_callV [] dX6_nearest_20 (c_X6_tasteAll hF) (Nat.le_of_ble_eq_true rfl) (Nat.le_of_ble_eq_true rfl) lk_X6_162 sh_74 rfl (Nat.le_of_ble_eq_true rfl) (Nat.le_refl _) (Nat.le_refl _) (fun rr σ14 hF => ?_)
    obtain ⟨v13, rfl, hF⟩ := hF
    show vv_X6_nearest k 23 [(2, .int 0), (0, .ref 74), (1, .int x1)] [.int v13] σ14
    refine ov_iload_n dX6_nearest_23 2 rfl ?_
    refine ov_callS [.int v13, .int x1] dX6_nearest_24 (c_X6_off hF) (Nat.le_of_ble_eq_true rfl) (Nat.le_of_ble_eq_true rfl) lk_X6_171 (Nat.le_of_ble_eq_true rfl) (Nat.le_refl _) (Nat.le_refl _) (fun rr σ16 hF => ?_)
    obtain ⟨v15, rfl, hF⟩ := hF
    show vv_X6_nearest k 27 [(2, .int 0), (0, .ref 74), (1, .int x1)] [.int v15] σ16
    refine ov_istore_n dX6_nearest_27 (Nat.le_of_ble_eq_true rfl) [(3, .int v15), (2, .int 0), (0, .ref 74), (1, .int x1)] rfl ?_
    refine ov_iconst 1 (by decide) dX6_nearest_28 ?_
    refine ov_istore dX6_nearest_29 (Nat.le_of_ble_eq_true rfl) [(4, .int 1), (3, .int v15), (2, .int 0), (0, .ref 74), (1, .int x1)] rfl ?_
    refine ov_pick [3, 4, 2, 1, 0] [(0, .ref 74), (1, .int x1), (2, .int 0), (3, .int v15), (4, .int 1)] rfl ?_
    obtain ⟨n17, hF⟩ := hF
    exact V_X6_nearest_31 n17 x1 0 v15 1 σ16 hF
  · refine ov_ldc dX6_nearest_10 qc_X6_90 ?_
    exact ov_ireturn dX6_nearest_12 (Nat.le_refl _) (Nat.le_refl _) ⟨rfl, trivial, _, rfl, hF⟩
/-! X6_offBy -/
abbrev vv_X6_offBy (k : Int64 → ovSt → Prop) (pc : Nat) (L : List (Nat × Value)) (st : List Value) (σ : ovSt) : Prop := ov_V (ovZs 5 yX6_offBy cX6_offBy 9) (ovKs (some .long) ov_S0 (ovKl k)) (0, 0) ov_S0 pc L st σ
def F_X6_offBy_76 (R13 : Int32 → Int64 → Int32 → ovSt → Prop) (k : Int64 → ovSt → Prop) (x1 : Int32) (x5 : Int32) (t0 : Int64) (t1 : Int64) (σ : ovSt) : Prop := (∀ v1 : Int64, v1 = (t1 + t0) → (F_X6_day σ (fun σ3 => R13 x1 v1 (x5 + 1) σ3)))
set_option maxRecDepth 100000 in
set_option maxHeartbeats 4000000 in
theorem V_X6_offBy_76 {k : Int64 → ovSt → Prop} {R13 : Int32 → Int64 → Int32 → ovSt → Prop} (hR13 : ∀ (x1 : Int32) (x3 : Int64) (x5 : Int32) (σ : ovSt), R13 x1 x3 x5 σ → vv_X6_offBy k 13 [(0, .ref 74), (1, .int x1), (3, .long x3), (5, .int x5)] [] σ) (x1 : Int32) (x5 : Int32) (t0 : Int64) (t1 : Int64) (σ : ovSt) (hF : F_X6_offBy_76 R13 k x1 x5 t0 t1 σ) : vv_X6_offBy k 76 [(0, .ref 74), (1, .int x1), (5, .int x5)] [.long t0, .long t1] σ := by
  unfold F_X6_offBy_76 at hF
  refine ov_ladd dX6_offBy_76 ?_
  refine ov_nmL (fun v1 ev1 => ?_)
  have hF := hF v1 ev1
  refine ov_lstore_n dX6_offBy_77 (Nat.le_of_ble_eq_true rfl) [(3, .long v1), (0, .ref 74), (1, .int x1), (5, .int x5)] rfl ?_
  refine ov_aload_n dX6_offBy_78 1 rfl ?_
  refine ov_callV [] dX6_offBy_79 (c_X6_day hF) (Nat.le_of_ble_eq_true rfl) (Nat.le_of_ble_eq_true rfl) lk_X6_155 sh_74 rfl (Nat.le_of_ble_eq_true rfl) (Nat.le_refl _) (Nat.le_refl _) (fun rr σ3 hF => ?_)
  obtain ⟨rfl, hF⟩ := hF
  show vv_X6_offBy k 82 [(3, .long v1), (0, .ref 74), (1, .int x1), (5, .int x5)] [] σ3
  refine ov_iinc dX6_offBy_82 3 rfl (x5 + 1) rfl (Nat.le_of_ble_eq_true rfl) [(5, .int (x5 + 1)), (3, .long v1), (0, .ref 74), (1, .int x1)] rfl ?_
  refine ov_goto 13 dX6_offBy_85 (by decide) ?_
  refine ov_pick [2, 3, 1, 0] [(0, .ref 74), (1, .int x1), (3, .long v1), (5, .int (x5 + 1))] rfl ?_
  exact hR13 x1 v1 (x5 + 1) σ3 hF
def F_X6_offBy_13 (k : Int64 → ovSt → Prop) : Nat → Int32 → Int64 → Int32 → ovSt → Prop
  | 0 => fun _ _ _ _ => False
  | n + 1 => fun x1 x3 x5 σ => (vp_in x1 4 ∧ (if (σ 90 (Int32.toNatClampNeg x1)) ≤ x5 then (F_X6_putsBack σ (fun σ6 => (k x3 σ6))) else (vp_in ((24 * x1) + x5) 96 ∧ (∀ v8 : Int32, v8 = (σ 91 (Int32.toNatClampNeg ((24 * x1) + x5))) → (F_X6_tasteAll σ (fun v9 σ10 => (∀ v11 : Int64, v11 = ((Int32.toInt64 v8) - (Int32.toInt64 v9)) → (if v8 = ((-1000000005) : Int32) then (F_X6_offBy_76 (F_X6_offBy_13 k n) k x1 x5 0 x3 σ10) else (if 0 ≤ (lg_cmp v11 0) then (F_X6_offBy_76 (F_X6_offBy_13 k n) k x1 x5 v11 x3 σ10) else (F_X6_offBy_76 (F_X6_offBy_13 k n) k x1 x5 (-v11) x3 σ10))))))))))
set_option maxRecDepth 100000 in
set_option maxHeartbeats 4000000 in
theorem V_X6_offBy_13 {k : Int64 → ovSt → Prop} : ∀ (n : Nat) (x1 : Int32) (x3 : Int64) (x5 : Int32) (σ : ovSt), F_X6_offBy_13 k n x1 x3 x5 σ → vv_X6_offBy k 13 [(0, .ref 74), (1, .int x1), (3, .long x3), (5, .int x5)] [] σ := by
  intro n
  induction n with
  | zero => intro x1 x3 x5 σ hF; exact hF.elim
  | succ n ih =>
    intro x1 x3 x5 σ hF
    unfold F_X6_offBy_13 at hF
    refine ov_iload dX6_offBy_13 3 rfl ?_
    refine ov_aload_n dX6_offBy_15 0 rfl ?_
    refine ov_getr (T := TX6) (kf := 26) dX6_offBy_16 qf_X6_57 sh_74 rfl (Nat.le_of_ble_eq_true rfl) rfl (by decide) ?_
    refine ov_iload_n dX6_offBy_19 1 rfl ?_
    have h4 := hF.1
    have hF := hF.2
    refine ov_iaload dX6_offBy_20 sh_90 h4 ?_
    refine ov_icmp_ge 88 dX6_offBy_21 (by decide) hF (fun hF => ?_) (fun hF => ?_)
    · refine ov_aload_n dX6_offBy_88 0 rfl ?_
      refine ov_callV [] dX6_offBy_89 (c_X6_putsBack hF) (Nat.le_of_ble_eq_true rfl) (Nat.le_of_ble_eq_true rfl) lk_X6_168 sh_74 rfl (Nat.le_of_ble_eq_true rfl) (Nat.le_refl _) (Nat.le_refl _) (fun rr σ6 hF => ?_)
      obtain ⟨rfl, hF⟩ := hF
      show vv_X6_offBy k 92 [(0, .ref 74), (1, .int x1), (3, .long x3), (5, .int x5)] [] σ6
      refine ov_lload_n dX6_offBy_92 2 rfl ?_
      exact ov_lreturn dX6_offBy_93 (Nat.le_refl _) (Nat.le_refl _) ⟨rfl, trivial, _, rfl, hF⟩
    · refine ov_aload_n dX6_offBy_24 0 rfl ?_
      refine ov_getr (T := TX6) (kf := 27) dX6_offBy_25 qf_X6_60 sh_74 rfl (Nat.le_of_ble_eq_true rfl) rfl (by decide) ?_
      refine ov_bipush 24 (by decide) dX6_offBy_28 ?_
      refine ov_iload_n dX6_offBy_30 1 rfl ?_
      refine ov_imul dX6_offBy_31 ?_
      refine ov_iload dX6_offBy_32 3 rfl ?_
      refine ov_iadd dX6_offBy_34 ?_
      have h7 := hF.1
      have hF := hF.2
      refine ov_iaload dX6_offBy_35 sh_91 h7 ?_
      refine ov_nmI (fun v8 ev8 => ?_)
      have hF := hF v8 ev8
      refine ov_istore dX6_offBy_36 (Nat.le_of_ble_eq_true rfl) [(6, .int v8), (0, .ref 74), (1, .int x1), (3, .long x3), (5, .int x5)] rfl ?_
      refine ov_iload dX6_offBy_38 0 rfl ?_
      refine ov_i2l dX6_offBy_40 ?_
      refine ov_aload_n dX6_offBy_41 1 rfl ?_
      refine ov_callV [] dX6_offBy_42 (c_X6_tasteAll hF) (Nat.le_of_ble_eq_true rfl) (Nat.le_of_ble_eq_true rfl) lk_X6_162 sh_74 rfl (Nat.le_of_ble_eq_true rfl) (Nat.le_refl _) (Nat.le_refl _) (fun rr σ10 hF => ?_)
      obtain ⟨v9, rfl, hF⟩ := hF
      show vv_X6_offBy k 45 [(6, .int v8), (0, .ref 74), (1, .int x1), (3, .long x3), (5, .int x5)] [.int v9, .long (Int32.toInt64 v8)] σ10
      refine ov_i2l dX6_offBy_45 ?_
      refine ov_lsub dX6_offBy_46 ?_
      refine ov_nmL (fun v11 ev11 => ?_)
      have hF := hF v11 ev11
      refine ov_lstore dX6_offBy_47 (Nat.le_of_ble_eq_true rfl) [(7, .long v11), (6, .int v8), (0, .ref 74), (1, .int x1), (3, .long x3), (5, .int x5)] rfl ?_
      refine ov_lload_n dX6_offBy_49 4 rfl ?_
      refine ov_iload dX6_offBy_50 1 rfl ?_
      refine ov_ldc dX6_offBy_52 qc_X6_81 ?_
      refine ov_icmp_ne 61 dX6_offBy_54 (by decide) hF (fun hF => ?_) (fun hF => ?_)
      · refine ov_lload dX6_offBy_61 0 rfl ?_
        refine ov_lconst 0 (by decide) dX6_offBy_63 ?_
        refine ov_lcmp dX6_offBy_64 ?_
        refine ov_if_ge 74 dX6_offBy_65 (by decide) hF (fun hF => ?_) (fun hF => ?_)
        · refine ov_lload dX6_offBy_74 0 rfl ?_
          refine ov_pick [2, 3, 5] [(0, .ref 74), (1, .int x1), (5, .int x5)] rfl ?_
          exact V_X6_offBy_76 ih x1 x5 v11 x3 σ10 hF
        · refine ov_lload dX6_offBy_68 0 rfl ?_
          refine ov_lneg dX6_offBy_70 ?_
          refine ov_goto 76 dX6_offBy_71 (by decide) ?_
          refine ov_pick [2, 3, 5] [(0, .ref 74), (1, .int x1), (5, .int x5)] rfl ?_
          exact V_X6_offBy_76 ih x1 x5 (-v11) x3 σ10 hF
      · refine ov_lconst 0 (by decide) dX6_offBy_57 ?_
        refine ov_goto 76 dX6_offBy_58 (by decide) ?_
        refine ov_pick [2, 3, 5] [(0, .ref 74), (1, .int x1), (5, .int x5)] rfl ?_
        exact V_X6_offBy_76 ih x1 x5 0 x3 σ10 hF
def F_X6_offBy (x1 : Int32) (x2 : Int32) (σ : ovSt) (k : Int64 → ovSt → Prop) : Prop := (F_X6_tosses x2 500 σ (fun σ13 => (∃ n14, F_X6_offBy_13 k n14 x1 0 0 σ13)))
set_option maxRecDepth 100000 in
set_option maxHeartbeats 4000000 in
theorem c_X6_offBy {x1 : Int32} {x2 : Int32} {σ : ovSt} {k : Int64 → ovSt → Prop} (hF : F_X6_offBy x1 x2 σ k) : ov_Ct 5 yX6_offBy cX6_offBy 9 (some .long) ov_S0 [.ref 74, .int x1, .int x2] σ (ovKl k) := by
  refine ov_Ct.of (by decide) (Nat.le_of_ble_eq_true rfl) ?_
  unfold F_X6_offBy at hF
  show vv_X6_offBy k 0 [(0, .ref 74), (1, .int x1), (2, .int x2)] [] σ
  refine ov_aload_n dX6_offBy_0 0 rfl ?_
  refine ov_iload_n dX6_offBy_1 2 rfl ?_
  refine ov_sipush 500 (by decide) dX6_offBy_2 ?_
  refine ov_callV [.int x2, .int 500] dX6_offBy_5 (c_X6_tosses hF) (Nat.le_of_ble_eq_true rfl) (Nat.le_of_ble_eq_true rfl) lk_X6_108 sh_74 rfl (Nat.le_of_ble_eq_true rfl) (Nat.le_refl _) (Nat.le_refl _) (fun rr σ13 hF => ?_)
  obtain ⟨rfl, hF⟩ := hF
  show vv_X6_offBy k 8 [(0, .ref 74), (1, .int x1), (2, .int x2)] [] σ13
  refine ov_lconst 0 (by decide) dX6_offBy_8 ?_
  refine ov_lstore_n dX6_offBy_9 (Nat.le_of_ble_eq_true rfl) [(3, .long 0), (0, .ref 74), (1, .int x1), (2, .int x2)] rfl ?_
  refine ov_iconst 0 (by decide) dX6_offBy_10 ?_
  refine ov_istore dX6_offBy_11 (Nat.le_of_ble_eq_true rfl) [(5, .int 0), (3, .long 0), (0, .ref 74), (1, .int x1), (2, .int x2)] rfl ?_
  refine ov_pick [2, 3, 1, 0] [(0, .ref 74), (1, .int x1), (3, .long 0), (5, .int 0)] rfl ?_
  obtain ⟨n14, hF⟩ := hF
  exact V_X6_offBy_13 n14 x1 0 0 σ13 hF
/-! X6_isSheet -/
abbrev vv_X6_isSheet (k : Int32 → ovSt → Prop) (pc : Nat) (L : List (Nat × Value)) (st : List Value) (σ : ovSt) : Prop := ov_V (ovZs 1 yX6_isSheet cX6_isSheet 1) (ovKs (some .boolean) ov_S0 (ovKi k)) (0, 0) ov_S0 pc L st σ
def F_X6_isSheet (x0 : Int32) (σ : ovSt) (k : Int32 → ovSt → Prop) : Prop := (F_X6_in x0 0 3 σ (fun v1 σ2 => (ov_bl v1 ∧ (k v1 σ2))))
set_option maxRecDepth 100000 in
set_option maxHeartbeats 4000000 in
theorem c_X6_isSheet {x0 : Int32} {σ : ovSt} {k : Int32 → ovSt → Prop} (hF : F_X6_isSheet x0 σ k) : ov_Ct 1 yX6_isSheet cX6_isSheet 1 (some .boolean) ov_S0 [.int x0] σ (ovKi k) := by
  refine ov_Ct.of (by decide) (Nat.le_of_ble_eq_true rfl) ?_
  unfold F_X6_isSheet at hF
  show vv_X6_isSheet k 0 [(0, .int x0)] [] σ
  refine ov_iload_n dX6_isSheet_0 0 rfl ?_
  refine ov_iconst 0 (by decide) dX6_isSheet_1 ?_
  refine ov_iconst 3 (by decide) dX6_isSheet_2 ?_
  refine ov_callS [.int x0, .int 0, .int 3] dX6_isSheet_3 (c_X6_in hF) (Nat.le_of_ble_eq_true rfl) (Nat.le_of_ble_eq_true rfl) lk_X6_82 (Nat.le_of_ble_eq_true rfl) (Nat.le_refl _) (Nat.le_refl _) (fun rr σ2 hF => ?_)
  obtain ⟨v1, rfl, hF⟩ := hF
  show vv_X6_isSheet k 6 [(0, .int x0)] [.int v1] σ2
  have h3 := hF.1
  have hF := hF.2
  exact ov_ireturn dX6_isSheet_6 (Nat.le_refl _) (Nat.le_refl _) ⟨rfl, h3, _, rfl, hF⟩
/-! X6_thrown -/
abbrev vv_X6_thrown (k : Int32 → ovSt → Prop) (pc : Nat) (L : List (Nat × Value)) (st : List Value) (σ : ovSt) : Prop := ov_V (ovZs 6 yX6_thrown cX6_thrown 9) (ovKs (some .int) ov_S0 (ovKi k)) (0, 0) ov_S0 pc L st σ
def F_X6_thrown_16 (k : Int32 → ovSt → Prop) (σ : ovSt) : Prop := (k (-1000000001) σ)
set_option maxRecDepth 100000 in
set_option maxHeartbeats 4000000 in
theorem V_X6_thrown_16 {k : Int32 → ovSt → Prop} (σ : ovSt) (hF : F_X6_thrown_16 k σ) : vv_X6_thrown k 16 [] [] σ := by
  unfold F_X6_thrown_16 at hF
  refine ov_ldc dX6_thrown_16 qc_X6_90 ?_
  exact ov_ireturn dX6_thrown_18 (Nat.le_refl _) (Nat.le_refl _) ⟨rfl, trivial, _, rfl, hF⟩
def F_X6_thrown_95 (R43 : Int32 → Int32 → Int32 → Int64 → Int32 → ovSt → Prop) (k : Int32 → ovSt → Prop) (x1 : Int32) (x2 : Int32) (x3 : Int32) (x6 : Int32) (t0 : Int64) (σ : ovSt) : Prop := R43 x1 x2 x3 t0 (x6 + 1) σ
set_option maxRecDepth 100000 in
set_option maxHeartbeats 4000000 in
theorem V_X6_thrown_95 {k : Int32 → ovSt → Prop} {R43 : Int32 → Int32 → Int32 → Int64 → Int32 → ovSt → Prop} (hR43 : ∀ (x1 : Int32) (x2 : Int32) (x3 : Int32) (x4 : Int64) (x6 : Int32) (σ : ovSt), R43 x1 x2 x3 x4 x6 σ → vv_X6_thrown k 43 [(0, .ref 74), (1, .int x1), (2, .int x2), (3, .int x3), (4, .long x4), (6, .int x6)] [] σ) (x1 : Int32) (x2 : Int32) (x3 : Int32) (x6 : Int32) (t0 : Int64) (σ : ovSt) (hF : F_X6_thrown_95 R43 k x1 x2 x3 x6 t0 σ) : vv_X6_thrown k 95 [(0, .ref 74), (1, .int x1), (2, .int x2), (3, .int x3), (6, .int x6)] [.long t0] σ := by
  unfold F_X6_thrown_95 at hF
  refine ov_lstore dX6_thrown_95 (Nat.le_of_ble_eq_true rfl) [(4, .long t0), (0, .ref 74), (1, .int x1), (2, .int x2), (3, .int x3), (6, .int x6)] rfl ?_
  refine ov_iinc dX6_thrown_97 5 rfl (x6 + 1) rfl (Nat.le_of_ble_eq_true rfl) [(6, .int (x6 + 1)), (4, .long t0), (0, .ref 74), (1, .int x1), (2, .int x2), (3, .int x3)] rfl ?_
  refine ov_goto 43 dX6_thrown_100 (by decide) ?_
  refine ov_pick [2, 3, 4, 5, 1, 0] [(0, .ref 74), (1, .int x1), (2, .int x2), (3, .int x3), (4, .long t0), (6, .int (x6 + 1))] rfl ?_
  exact hR43 x1 x2 x3 t0 (x6 + 1) σ hF
def F_X6_thrown_81 (R43 : Int32 → Int32 → Int32 → Int64 → Int32 → ovSt → Prop) (k : Int32 → ovSt → Prop) (x1 : Int32) (x2 : Int32) (x4 : Int64) (x6 : Int32) (x7 : Int64) (t0 : Int32) (σ : ovSt) : Prop := (if t0 = x6 then (F_X6_thrown_95 R43 k x1 x2 t0 x6 x7 σ) else (F_X6_thrown_95 R43 k x1 x2 t0 x6 x4 σ))
set_option maxRecDepth 100000 in
set_option maxHeartbeats 4000000 in
theorem V_X6_thrown_81 {k : Int32 → ovSt → Prop} {R43 : Int32 → Int32 → Int32 → Int64 → Int32 → ovSt → Prop} (hR43 : ∀ (x1 : Int32) (x2 : Int32) (x3 : Int32) (x4 : Int64) (x6 : Int32) (σ : ovSt), R43 x1 x2 x3 x4 x6 σ → vv_X6_thrown k 43 [(0, .ref 74), (1, .int x1), (2, .int x2), (3, .int x3), (4, .long x4), (6, .int x6)] [] σ) (x1 : Int32) (x2 : Int32) (x4 : Int64) (x6 : Int32) (x7 : Int64) (t0 : Int32) (σ : ovSt) (hF : F_X6_thrown_81 R43 k x1 x2 x4 x6 x7 t0 σ) : vv_X6_thrown k 81 [(0, .ref 74), (1, .int x1), (2, .int x2), (4, .long x4), (6, .int x6), (7, .long x7)] [.int t0] σ := by
  unfold F_X6_thrown_81 at hF
  refine ov_istore_n dX6_thrown_81 (Nat.le_of_ble_eq_true rfl) [(3, .int t0), (0, .ref 74), (1, .int x1), (2, .int x2), (4, .long x4), (6, .int x6), (7, .long x7)] rfl ?_
  refine ov_iload_n dX6_thrown_82 0 rfl ?_
  refine ov_iload dX6_thrown_83 5 rfl ?_
  refine ov_icmp_ne 93 dX6_thrown_85 (by decide) hF (fun hF => ?_) (fun hF => ?_)
  · refine ov_lload dX6_thrown_93 4 rfl ?_
    refine ov_pick [1, 2, 3, 0, 5] [(0, .ref 74), (1, .int x1), (2, .int x2), (3, .int t0), (6, .int x6)] rfl ?_
    exact V_X6_thrown_95 hR43 x1 x2 t0 x6 x4 σ hF
  · refine ov_lload dX6_thrown_88 6 rfl ?_
    refine ov_goto 95 dX6_thrown_90 (by decide) ?_
    refine ov_pick [1, 2, 3, 0, 5] [(0, .ref 74), (1, .int x1), (2, .int x2), (3, .int t0), (6, .int x6)] rfl ?_
    exact V_X6_thrown_95 hR43 x1 x2 t0 x6 x7 σ hF
def F_X6_thrown_75 (R43 : Int32 → Int32 → Int32 → Int64 → Int32 → ovSt → Prop) (k : Int32 → ovSt → Prop) (x1 : Int32) (x2 : Int32) (x4 : Int64) (x6 : Int32) (x7 : Int64) (σ : ovSt) : Prop := (F_X6_thrown_81 R43 k x1 x2 x4 x6 x7 x6 σ)
set_option maxRecDepth 100000 in
set_option maxHeartbeats 4000000 in
theorem V_X6_thrown_75 {k : Int32 → ovSt → Prop} {R43 : Int32 → Int32 → Int32 → Int64 → Int32 → ovSt → Prop} (hR43 : ∀ (x1 : Int32) (x2 : Int32) (x3 : Int32) (x4 : Int64) (x6 : Int32) (σ : ovSt), R43 x1 x2 x3 x4 x6 σ → vv_X6_thrown k 43 [(0, .ref 74), (1, .int x1), (2, .int x2), (3, .int x3), (4, .long x4), (6, .int x6)] [] σ) (x1 : Int32) (x2 : Int32) (x4 : Int64) (x6 : Int32) (x7 : Int64) (σ : ovSt) (hF : F_X6_thrown_75 R43 k x1 x2 x4 x6 x7 σ) : vv_X6_thrown k 75 [(0, .ref 74), (1, .int x1), (2, .int x2), (4, .long x4), (6, .int x6), (7, .long x7)] [] σ := by
  unfold F_X6_thrown_75 at hF
  refine ov_iload dX6_thrown_75 4 rfl ?_
  refine ov_goto 81 dX6_thrown_77 (by decide) ?_
  exact V_X6_thrown_81 hR43 x1 x2 x4 x6 x7 x6 σ hF
def F_X6_thrown_123 (k : Int32 → ovSt → Prop) (t0 : Int32) (σ : ovSt) : Prop := (k t0 σ)
set_option maxRecDepth 100000 in
set_option maxHeartbeats 4000000 in
theorem V_X6_thrown_123 {k : Int32 → ovSt → Prop} (t0 : Int32) (σ : ovSt) (hF : F_X6_thrown_123 k t0 σ) : vv_X6_thrown k 123 [] [.int t0] σ := by
  unfold F_X6_thrown_123 at hF
  exact ov_ireturn dX6_thrown_123 (Nat.le_refl _) (Nat.le_refl _) ⟨rfl, trivial, _, rfl, hF⟩
def F_X6_thrown_43 (k : Int32 → ovSt → Prop) : Nat → Int32 → Int32 → Int32 → Int64 → Int32 → ovSt → Prop
  | 0 => fun _ _ _ _ _ _ => False
  | n + 1 => fun x1 x2 x3 x4 x6 σ => (vp_in 1 1412 ∧ (if (σ 75 (Int32.toNatClampNeg 1)) ≤ x6 then (if 0 ≤ x3 then (if x2 = 0 then (F_X6_thrown_123 k x3 σ) else (F_X6_thrown_123 k (Int64.toInt32 x4) σ)) else (F_X6_thrown_123 k (-1000000005) σ)) else (F_X6_offBy x1 x6 σ (fun v2 σ3 => (if x3 < 0 then (F_X6_thrown_75 (F_X6_thrown_43 k n) k x1 x2 x4 x6 v2 σ3) else (if 0 ≤ (lg_cmp v2 x4) then (F_X6_thrown_81 (F_X6_thrown_43 k n) k x1 x2 x4 x6 v2 x3 σ3) else (F_X6_thrown_75 (F_X6_thrown_43 k n) k x1 x2 x4 x6 v2 σ3)))))))
set_option maxRecDepth 100000 in
set_option maxHeartbeats 4000000 in
theorem V_X6_thrown_43 {k : Int32 → ovSt → Prop} : ∀ (n : Nat) (x1 : Int32) (x2 : Int32) (x3 : Int32) (x4 : Int64) (x6 : Int32) (σ : ovSt), F_X6_thrown_43 k n x1 x2 x3 x4 x6 σ → vv_X6_thrown k 43 [(0, .ref 74), (1, .int x1), (2, .int x2), (3, .int x3), (4, .long x4), (6, .int x6)] [] σ := by
  intro n
  induction n with
  | zero => intro x1 x2 x3 x4 x6 σ hF; exact hF.elim
  | succ n ih =>
    intro x1 x2 x3 x4 x6 σ hF
    unfold F_X6_thrown_43 at hF
    refine ov_iload dX6_thrown_43 5 rfl ?_
    refine ov_aload_n dX6_thrown_45 0 rfl ?_
    refine ov_getr (T := TX6) (kf := 0) dX6_thrown_46 qf_X6_9 sh_74 rfl (Nat.le_of_ble_eq_true rfl) rfl (by decide) ?_
    refine ov_iconst 1 (by decide) dX6_thrown_49 ?_
    have h1 := hF.1
    have hF := hF.2
    refine ov_iaload dX6_thrown_50 sh_75 h1 ?_
    refine ov_icmp_ge 103 dX6_thrown_51 (by decide) hF (fun hF => ?_) (fun hF => ?_)
    · refine ov_iload_n dX6_thrown_103 3 rfl ?_
      refine ov_if_ge 112 dX6_thrown_104 (by decide) hF (fun hF => ?_) (fun hF => ?_)
      · refine ov_iload_n dX6_thrown_112 2 rfl ?_
        refine ov_if_ne 120 dX6_thrown_113 (by decide) hF (fun hF => ?_) (fun hF => ?_)
        · refine ov_lload dX6_thrown_120 4 rfl ?_
          refine ov_l2i dX6_thrown_122 ?_
          refine ov_pick [] [] rfl ?_
          exact V_X6_thrown_123 (Int64.toInt32 x4) σ hF
        · refine ov_iload_n dX6_thrown_116 3 rfl ?_
          refine ov_goto 123 dX6_thrown_117 (by decide) ?_
          refine ov_pick [] [] rfl ?_
          exact V_X6_thrown_123 x3 σ hF
      · refine ov_ldc dX6_thrown_107 qc_X6_81 ?_
        refine ov_goto 123 dX6_thrown_109 (by decide) ?_
        refine ov_pick [] [] rfl ?_
        exact V_X6_thrown_123 (-1000000005) σ hF
    · refine ov_aload_n dX6_thrown_54 0 rfl ?_
      refine ov_iload_n dX6_thrown_55 1 rfl ?_
      refine ov_iload dX6_thrown_56 5 rfl ?_
      refine ov_callV [.int x1, .int x6] dX6_thrown_58 (c_X6_offBy hF) (Nat.le_of_ble_eq_true rfl) (Nat.le_of_ble_eq_true rfl) lk_X6_181 sh_74 rfl (Nat.le_of_ble_eq_true rfl) (Nat.le_refl _) (Nat.le_refl _) (fun rr σ3 hF => ?_)
      obtain ⟨v2, rfl, hF⟩ := hF
      show vv_X6_thrown k 61 [(0, .ref 74), (1, .int x1), (2, .int x2), (3, .int x3), (4, .long x4), (6, .int x6)] [.long v2] σ3
      refine ov_lstore dX6_thrown_61 (Nat.le_of_ble_eq_true rfl) [(7, .long v2), (0, .ref 74), (1, .int x1), (2, .int x2), (3, .int x3), (4, .long x4), (6, .int x6)] rfl ?_
      refine ov_iload_n dX6_thrown_63 4 rfl ?_
      refine ov_if_lt 75 dX6_thrown_64 (by decide) hF (fun hF => ?_) (fun hF => ?_)
      · refine ov_pick [1, 2, 3, 5, 6, 0] [(0, .ref 74), (1, .int x1), (2, .int x2), (4, .long x4), (6, .int x6), (7, .long v2)] rfl ?_
        exact V_X6_thrown_75 ih x1 x2 x4 x6 v2 σ3 hF
      · refine ov_lload dX6_thrown_67 0 rfl ?_
        refine ov_lload dX6_thrown_69 5 rfl ?_
        refine ov_lcmp dX6_thrown_71 ?_
        refine ov_if_ge 80 dX6_thrown_72 (by decide) hF (fun hF => ?_) (fun hF => ?_)
        · refine ov_iload_n dX6_thrown_80 4 rfl ?_
          refine ov_pick [1, 2, 3, 5, 6, 0] [(0, .ref 74), (1, .int x1), (2, .int x2), (4, .long x4), (6, .int x6), (7, .long v2)] rfl ?_
          exact V_X6_thrown_81 ih x1 x2 x4 x6 v2 x3 σ3 hF
        · refine ov_pick [1, 2, 3, 5, 6, 0] [(0, .ref 74), (1, .int x1), (2, .int x2), (4, .long x4), (6, .int x6), (7, .long v2)] rfl ?_
          exact V_X6_thrown_75 ih x1 x2 x4 x6 v2 σ3 hF
def F_X6_thrown (x1 : Int32) (x2 : Int32) (σ : ovSt) (k : Int32 → ovSt → Prop) : Prop := (F_X6_isSheet x1 σ (fun v4 σ5 => (if v4 = 0 then (F_X6_thrown_16 k σ5) else (F_X6_in x2 0 1 σ5 (fun v6 σ7 => (if v6 = 0 then (F_X6_thrown_16 k σ7) else (vp_in x1 4 ∧ (if 0 ≤ (σ7 89 (Int32.toNatClampNeg x1)) then (F_X6_thinks σ7 (fun σ10 => (∃ n11, F_X6_thrown_43 k n11 x1 x2 (-1) 0 0 σ10))) else (k (-1000000011) σ7)))))))))
set_option maxRecDepth 100000 in
set_option maxHeartbeats 4000000 in
theorem c_X6_thrown {x1 : Int32} {x2 : Int32} {σ : ovSt} {k : Int32 → ovSt → Prop} (hF : F_X6_thrown x1 x2 σ k) : ov_Ct 6 yX6_thrown cX6_thrown 9 (some .int) ov_S0 [.ref 74, .int x1, .int x2] σ (ovKi k) := by
  refine ov_Ct.of (by decide) (Nat.le_of_ble_eq_true rfl) ?_
  unfold F_X6_thrown at hF
  show vv_X6_thrown k 0 [(0, .ref 74), (1, .int x1), (2, .int x2)] [] σ
  refine ov_iload_n dX6_thrown_0 1 rfl ?_
  refine ov_callS [.int x1] dX6_thrown_1 (c_X6_isSheet hF) (Nat.le_of_ble_eq_true rfl) (Nat.le_of_ble_eq_true rfl) lk_X6_177 (Nat.le_of_ble_eq_true rfl) (Nat.le_refl _) (Nat.le_refl _) (fun rr σ5 hF => ?_)
  obtain ⟨v4, rfl, hF⟩ := hF
  show vv_X6_thrown k 4 [(0, .ref 74), (1, .int x1), (2, .int x2)] [.int v4] σ5
  refine ov_if_eq 16 dX6_thrown_4 (by decide) hF (fun hF => ?_) (fun hF => ?_)
  · refine ov_pick [] [] rfl ?_
    exact V_X6_thrown_16 σ5 hF
  · refine ov_iload_n dX6_thrown_7 2 rfl ?_
    refine ov_iconst 0 (by decide) dX6_thrown_8 ?_
    refine ov_iconst 1 (by decide) dX6_thrown_9 ?_
    refine ov_callS [.int x2, .int 0, .int 1] dX6_thrown_10 (c_X6_in hF) (Nat.le_of_ble_eq_true rfl) (Nat.le_of_ble_eq_true rfl) lk_X6_82 (Nat.le_of_ble_eq_true rfl) (Nat.le_refl _) (Nat.le_refl _) (fun rr σ7 hF => ?_)
    obtain ⟨v6, rfl, hF⟩ := hF
    show vv_X6_thrown k 13 [(0, .ref 74), (1, .int x1), (2, .int x2)] [.int v6] σ7
    refine ov_if_ne 19 dX6_thrown_13 (by decide) hF (fun hF => ?_) (fun hF => ?_)
    · refine ov_aload_n dX6_thrown_19 0 rfl ?_
      refine ov_getr (T := TX6) (kf := 25) dX6_thrown_20 qf_X6_54 sh_74 rfl (Nat.le_of_ble_eq_true rfl) rfl (by decide) ?_
      refine ov_iload_n dX6_thrown_23 1 rfl ?_
      have h8 := hF.1
      have hF := hF.2
      refine ov_iaload dX6_thrown_24 sh_89 h8 ?_
      refine ov_if_ge 31 dX6_thrown_25 (by decide) hF (fun hF => ?_) (fun hF => ?_)
      · refine ov_aload_n dX6_thrown_31 0 rfl ?_
        refine ov_callV [] dX6_thrown_32 (c_X6_thinks hF) (Nat.le_of_ble_eq_true rfl) (Nat.le_of_ble_eq_true rfl) lk_X6_165 sh_74 rfl (Nat.le_of_ble_eq_true rfl) (Nat.le_refl _) (Nat.le_refl _) (fun rr σ10 hF => ?_)
        obtain ⟨rfl, hF⟩ := hF
        show vv_X6_thrown k 35 [(0, .ref 74), (1, .int x1), (2, .int x2)] [] σ10
        refine ov_iconst (-1) (by decide) dX6_thrown_35 ?_
        refine ov_istore_n dX6_thrown_36 (Nat.le_of_ble_eq_true rfl) [(3, .int (-1)), (0, .ref 74), (1, .int x1), (2, .int x2)] rfl ?_
        refine ov_lconst 0 (by decide) dX6_thrown_37 ?_
        refine ov_lstore dX6_thrown_38 (Nat.le_of_ble_eq_true rfl) [(4, .long 0), (3, .int (-1)), (0, .ref 74), (1, .int x1), (2, .int x2)] rfl ?_
        refine ov_iconst 0 (by decide) dX6_thrown_40 ?_
        refine ov_istore dX6_thrown_41 (Nat.le_of_ble_eq_true rfl) [(6, .int 0), (4, .long 0), (3, .int (-1)), (0, .ref 74), (1, .int x1), (2, .int x2)] rfl ?_
        refine ov_pick [3, 4, 5, 2, 1, 0] [(0, .ref 74), (1, .int x1), (2, .int x2), (3, .int (-1)), (4, .long 0), (6, .int 0)] rfl ?_
        obtain ⟨n11, hF⟩ := hF
        exact V_X6_thrown_43 n11 x1 x2 (-1) 0 0 σ10 hF
      · refine ov_ldc dX6_thrown_28 qc_X6_180 ?_
        exact ov_ireturn dX6_thrown_30 (Nat.le_refl _) (Nat.le_refl _) ⟨rfl, trivial, _, rfl, hF⟩
    · refine ov_pick [] [] rfl ?_
      exact V_X6_thrown_16 σ7 hF
/-! X6_halved -/
abbrev vv_X6_halved (k : Int32 → ovSt → Prop) (pc : Nat) (L : List (Nat × Value)) (st : List Value) (σ : ovSt) : Prop := ov_V (ovZs 5 yX6_halved cX6_halved 2) (ovKs (some .int) ov_S0 (ovKi k)) (0, 0) ov_S0 pc L st σ
def F_X6_halved_118 (k : Int32 → ovSt → Prop) (t0 : Int32) (σ : ovSt) : Prop := (k t0 σ)
set_option maxRecDepth 100000 in
set_option maxHeartbeats 4000000 in
theorem V_X6_halved_118 {k : Int32 → ovSt → Prop} (t0 : Int32) (σ : ovSt) (hF : F_X6_halved_118 k t0 σ) : vv_X6_halved k 118 [] [.int t0] σ := by
  unfold F_X6_halved_118 at hF
  exact ov_ireturn dX6_halved_118 (Nat.le_refl _) (Nat.le_refl _) ⟨rfl, trivial, _, rfl, hF⟩
def F_X6_halved_101 (k : Int32 → ovSt → Prop) (x1 : Int32) (σ : ovSt) : Prop := (F_X6_putsBack σ (fun σ2 => (if (200 : Int32) < x1 then (F_X6_halved_118 k (-1000000005) σ2) else (F_X6_halved_118 k x1 σ2))))
set_option maxRecDepth 100000 in
set_option maxHeartbeats 4000000 in
theorem V_X6_halved_101 {k : Int32 → ovSt → Prop} (x1 : Int32) (σ : ovSt) (hF : F_X6_halved_101 k x1 σ) : vv_X6_halved k 101 [(0, .ref 74), (1, .int x1)] [] σ := by
  unfold F_X6_halved_101 at hF
  refine ov_aload_n dX6_halved_101 0 rfl ?_
  refine ov_callV [] dX6_halved_102 (c_X6_putsBack hF) (Nat.le_of_ble_eq_true rfl) (Nat.le_of_ble_eq_true rfl) lk_X6_168 sh_74 rfl (Nat.le_of_ble_eq_true rfl) (Nat.le_refl _) (Nat.le_refl _) (fun rr σ2 hF => ?_)
  obtain ⟨rfl, hF⟩ := hF
  show vv_X6_halved k 105 [(0, .ref 74), (1, .int x1)] [] σ2
  refine ov_iload_n dX6_halved_105 1 rfl ?_
  refine ov_sipush 200 (by decide) dX6_halved_106 ?_
  refine ov_icmp_gt 116 dX6_halved_109 (by decide) hF (fun hF => ?_) (fun hF => ?_)
  · refine ov_ldc dX6_halved_116 qc_X6_81 ?_
    refine ov_pick [] [] rfl ?_
    exact V_X6_halved_118 (-1000000005) σ2 hF
  · refine ov_iload_n dX6_halved_112 1 rfl ?_
    refine ov_goto 118 dX6_halved_113 (by decide) ?_
    refine ov_pick [] [] rfl ?_
    exact V_X6_halved_118 x1 σ2 hF
def F_X6_halved_71 (k : Int32 → ovSt → Prop) : Nat → Int32 → ovSt → Prop
  | 0 => fun _ _ => False
  | n + 1 => fun x1 σ => (if (200 : Int32) < x1 then (F_X6_halved_101 k x1 σ) else (F_X6_tasteAll σ (fun v3 σ4 => (vp_in x1 201 ∧ (if v3 = (σ4 80 (Int32.toNatClampNeg x1)) then (F_X6_halved_101 k x1 σ4) else (F_X6_day σ4 (fun σ7 => F_X6_halved_71 k n (x1 + 1) σ7)))))))
set_option maxRecDepth 100000 in
set_option maxHeartbeats 4000000 in
theorem V_X6_halved_71 {k : Int32 → ovSt → Prop} : ∀ (n : Nat) (x1 : Int32) (σ : ovSt), F_X6_halved_71 k n x1 σ → vv_X6_halved k 71 [(0, .ref 74), (1, .int x1)] [] σ := by
  intro n
  induction n with
  | zero => intro x1 σ hF; exact hF.elim
  | succ n ih =>
    intro x1 σ hF
    unfold F_X6_halved_71 at hF
    refine ov_iload_n dX6_halved_71 1 rfl ?_
    refine ov_sipush 200 (by decide) dX6_halved_72 ?_
    refine ov_icmp_gt 101 dX6_halved_75 (by decide) hF (fun hF => ?_) (fun hF => ?_)
    · exact V_X6_halved_101 x1 σ hF
    · refine ov_aload_n dX6_halved_78 0 rfl ?_
      refine ov_callV [] dX6_halved_79 (c_X6_tasteAll hF) (Nat.le_of_ble_eq_true rfl) (Nat.le_of_ble_eq_true rfl) lk_X6_162 sh_74 rfl (Nat.le_of_ble_eq_true rfl) (Nat.le_refl _) (Nat.le_refl _) (fun rr σ4 hF => ?_)
      obtain ⟨v3, rfl, hF⟩ := hF
      show vv_X6_halved k 82 [(0, .ref 74), (1, .int x1)] [.int v3] σ4
      refine ov_aload_n dX6_halved_82 0 rfl ?_
      refine ov_getr (T := TX6) (kf := 6) dX6_halved_83 qf_X6_25 sh_74 rfl (Nat.le_of_ble_eq_true rfl) rfl (by decide) ?_
      refine ov_iload_n dX6_halved_86 1 rfl ?_
      have h5 := hF.1
      have hF := hF.2
      refine ov_iaload dX6_halved_87 sh_80 h5 ?_
      refine ov_icmp_eq 101 dX6_halved_88 (by decide) hF (fun hF => ?_) (fun hF => ?_)
      · exact V_X6_halved_101 x1 σ4 hF
      · refine ov_aload_n dX6_halved_91 0 rfl ?_
        refine ov_callV [] dX6_halved_92 (c_X6_day hF) (Nat.le_of_ble_eq_true rfl) (Nat.le_of_ble_eq_true rfl) lk_X6_155 sh_74 rfl (Nat.le_of_ble_eq_true rfl) (Nat.le_refl _) (Nat.le_refl _) (fun rr σ7 hF => ?_)
        obtain ⟨rfl, hF⟩ := hF
        show vv_X6_halved k 95 [(0, .ref 74), (1, .int x1)] [] σ7
        refine ov_iinc dX6_halved_95 1 rfl (x1 + 1) rfl (Nat.le_of_ble_eq_true rfl) [(1, .int (x1 + 1)), (0, .ref 74)] rfl ?_
        refine ov_goto 71 dX6_halved_98 (by decide) ?_
        refine ov_pick [1, 0] [(0, .ref 74), (1, .int (x1 + 1))] rfl ?_
        exact ih (x1 + 1) σ7 hF
def F_X6_halved_39 (k : Int32 → ovSt → Prop) : Nat → Int32 → ovSt → Prop
  | 0 => fun _ _ => False
  | n + 1 => fun x1 σ => (vp_in 1 1412 ∧ (if (σ 75 (Int32.toNatClampNeg 1)) ≤ x1 then (∃ n9, F_X6_halved_71 k n9 0 σ) else (F_X6_of x1 2 σ (fun v10 σ11 => (F_X6_put x1 2 (v10 / 2) σ11 (fun σ13 => F_X6_halved_39 k n (x1 + 1) σ13))))))
set_option maxRecDepth 100000 in
set_option maxHeartbeats 4000000 in
theorem V_X6_halved_39 {k : Int32 → ovSt → Prop} : ∀ (n : Nat) (x1 : Int32) (σ : ovSt), F_X6_halved_39 k n x1 σ → vv_X6_halved k 39 [(0, .ref 74), (1, .int x1)] [] σ := by
  intro n
  induction n with
  | zero => intro x1 σ hF; exact hF.elim
  | succ n ih =>
    intro x1 σ hF
    unfold F_X6_halved_39 at hF
    refine ov_iload_n dX6_halved_39 1 rfl ?_
    refine ov_aload_n dX6_halved_40 0 rfl ?_
    refine ov_getr (T := TX6) (kf := 0) dX6_halved_41 qf_X6_9 sh_74 rfl (Nat.le_of_ble_eq_true rfl) rfl (by decide) ?_
    refine ov_iconst 1 (by decide) dX6_halved_44 ?_
    have h8 := hF.1
    have hF := hF.2
    refine ov_iaload dX6_halved_45 sh_75 h8 ?_
    refine ov_icmp_ge 69 dX6_halved_46 (by decide) hF (fun hF => ?_) (fun hF => ?_)
    · refine ov_iconst 0 (by decide) dX6_halved_69 ?_
      refine ov_istore_n dX6_halved_70 (Nat.le_of_ble_eq_true rfl) [(1, .int 0), (0, .ref 74)] rfl ?_
      refine ov_pick [1, 0] [(0, .ref 74), (1, .int 0)] rfl ?_
      obtain ⟨n9, hF⟩ := hF
      exact V_X6_halved_71 n9 0 σ hF
    · refine ov_aload_n dX6_halved_49 0 rfl ?_
      refine ov_iload_n dX6_halved_50 1 rfl ?_
      refine ov_iconst 2 (by decide) dX6_halved_51 ?_
      refine ov_aload_n dX6_halved_52 0 rfl ?_
      refine ov_iload_n dX6_halved_53 1 rfl ?_
      refine ov_iconst 2 (by decide) dX6_halved_54 ?_
      refine ov_callV [.int x1, .int 2] dX6_halved_55 (c_X6_of hF) (Nat.le_of_ble_eq_true rfl) (Nat.le_of_ble_eq_true rfl) lk_X6_96 sh_74 rfl (Nat.le_of_ble_eq_true rfl) (Nat.le_refl _) (Nat.le_refl _) (fun rr σ11 hF => ?_)
      obtain ⟨v10, rfl, hF⟩ := hF
      show vv_X6_halved k 58 [(0, .ref 74), (1, .int x1)] [.int v10, .int 2, .int x1, .ref 74] σ11
      refine ov_iconst 2 (by decide) dX6_halved_58 ?_
      refine ov_idiv (by decide) dX6_halved_59 ?_
      refine ov_callV [.int x1, .int 2, .int (v10 / 2)] dX6_halved_60 (c_X6_put hF) (Nat.le_of_ble_eq_true rfl) (Nat.le_of_ble_eq_true rfl) lk_X6_86 sh_74 rfl (Nat.le_of_ble_eq_true rfl) (Nat.le_refl _) (Nat.le_refl _) (fun rr σ13 hF => ?_)
      obtain ⟨rfl, hF⟩ := hF
      show vv_X6_halved k 63 [(0, .ref 74), (1, .int x1)] [] σ13
      refine ov_iinc dX6_halved_63 1 rfl (x1 + 1) rfl (Nat.le_of_ble_eq_true rfl) [(1, .int (x1 + 1)), (0, .ref 74)] rfl ?_
      refine ov_goto 39 dX6_halved_66 (by decide) ?_
      refine ov_pick [1, 0] [(0, .ref 74), (1, .int (x1 + 1))] rfl ?_
      exact ih (x1 + 1) σ13 hF
def F_X6_halved_6 (k : Int32 → ovSt → Prop) : Nat → Int32 → ovSt → Prop
  | 0 => fun _ _ => False
  | n + 1 => fun x1 σ => (if (200 : Int32) < x1 then (F_X6_putsBack σ (fun σ15 => (∃ n16, F_X6_halved_39 k n16 0 σ15))) else (F_X6_tasteAll σ (fun v17 σ18 => (vp_in x1 201 ∧ (∀ σ20 : ovSt, σ20 = ov_up σ18 80 (Int32.toNatClampNeg x1) v17 → (F_X6_day σ20 (fun σ22 => F_X6_halved_6 k n (x1 + 1) σ22)))))))
set_option maxRecDepth 100000 in
set_option maxHeartbeats 4000000 in
theorem V_X6_halved_6 {k : Int32 → ovSt → Prop} : ∀ (n : Nat) (x1 : Int32) (σ : ovSt), F_X6_halved_6 k n x1 σ → vv_X6_halved k 6 [(0, .ref 74), (1, .int x1)] [] σ := by
  intro n
  induction n with
  | zero => intro x1 σ hF; exact hF.elim
  | succ n ih =>
    intro x1 σ hF
    unfold F_X6_halved_6 at hF
    refine ov_iload_n dX6_halved_6 1 rfl ?_
    refine ov_sipush 200 (by decide) dX6_halved_7 ?_
    refine ov_icmp_gt 33 dX6_halved_10 (by decide) hF (fun hF => ?_) (fun hF => ?_)
    · refine ov_aload_n dX6_halved_33 0 rfl ?_
      refine ov_callV [] dX6_halved_34 (c_X6_putsBack hF) (Nat.le_of_ble_eq_true rfl) (Nat.le_of_ble_eq_true rfl) lk_X6_168 sh_74 rfl (Nat.le_of_ble_eq_true rfl) (Nat.le_refl _) (Nat.le_refl _) (fun rr σ15 hF => ?_)
      obtain ⟨rfl, hF⟩ := hF
      show vv_X6_halved k 37 [(0, .ref 74), (1, .int x1)] [] σ15
      refine ov_iconst 0 (by decide) dX6_halved_37 ?_
      refine ov_istore_n dX6_halved_38 (Nat.le_of_ble_eq_true rfl) [(1, .int 0), (0, .ref 74)] rfl ?_
      refine ov_pick [1, 0] [(0, .ref 74), (1, .int 0)] rfl ?_
      obtain ⟨n16, hF⟩ := hF
      exact V_X6_halved_39 n16 0 σ15 hF
    · refine ov_aload_n dX6_halved_13 0 rfl ?_
      refine ov_getr (T := TX6) (kf := 6) dX6_halved_14 qf_X6_25 sh_74 rfl (Nat.le_of_ble_eq_true rfl) rfl (by decide) ?_
      refine ov_iload_n dX6_halved_17 1 rfl ?_
      refine ov_aload_n dX6_halved_18 0 rfl ?_
      refine ov_callV [] dX6_halved_19 (c_X6_tasteAll hF) (Nat.le_of_ble_eq_true rfl) (Nat.le_of_ble_eq_true rfl) lk_X6_162 sh_74 rfl (Nat.le_of_ble_eq_true rfl) (Nat.le_refl _) (Nat.le_refl _) (fun rr σ18 hF => ?_)
      obtain ⟨v17, rfl, hF⟩ := hF
      show vv_X6_halved k 22 [(0, .ref 74), (1, .int x1)] [.int v17, .int x1, .ref 80] σ18
      have h19 := hF.1
      have hF := hF.2
      refine ov_iastore dX6_halved_22 sh_80 h19 ?_
      refine ov_nmS (fun σ20 es20 => ?_)
      have hF := hF σ20 es20
      refine ov_aload_n dX6_halved_23 0 rfl ?_
      refine ov_callV [] dX6_halved_24 (c_X6_day hF) (Nat.le_of_ble_eq_true rfl) (Nat.le_of_ble_eq_true rfl) lk_X6_155 sh_74 rfl (Nat.le_of_ble_eq_true rfl) (Nat.le_refl _) (Nat.le_refl _) (fun rr σ22 hF => ?_)
      obtain ⟨rfl, hF⟩ := hF
      show vv_X6_halved k 27 [(0, .ref 74), (1, .int x1)] [] σ22
      refine ov_iinc dX6_halved_27 1 rfl (x1 + 1) rfl (Nat.le_of_ble_eq_true rfl) [(1, .int (x1 + 1)), (0, .ref 74)] rfl ?_
      refine ov_goto 6 dX6_halved_30 (by decide) ?_
      refine ov_pick [1, 0] [(0, .ref 74), (1, .int (x1 + 1))] rfl ?_
      exact ih (x1 + 1) σ22 hF
def F_X6_halved (σ : ovSt) (k : Int32 → ovSt → Prop) : Prop := (F_X6_thinks σ (fun σ24 => (∃ n25, F_X6_halved_6 k n25 0 σ24)))
set_option maxRecDepth 100000 in
set_option maxHeartbeats 4000000 in
theorem c_X6_halved {σ : ovSt} {k : Int32 → ovSt → Prop} (hF : F_X6_halved σ k) : ov_Ct 5 yX6_halved cX6_halved 2 (some .int) ov_S0 [.ref 74] σ (ovKi k) := by
  refine ov_Ct.of (by decide) (Nat.le_of_ble_eq_true rfl) ?_
  unfold F_X6_halved at hF
  show vv_X6_halved k 0 [(0, .ref 74)] [] σ
  refine ov_aload_n dX6_halved_0 0 rfl ?_
  refine ov_callV [] dX6_halved_1 (c_X6_thinks hF) (Nat.le_of_ble_eq_true rfl) (Nat.le_of_ble_eq_true rfl) lk_X6_165 sh_74 rfl (Nat.le_of_ble_eq_true rfl) (Nat.le_refl _) (Nat.le_refl _) (fun rr σ24 hF => ?_)
  obtain ⟨rfl, hF⟩ := hF
  show vv_X6_halved k 4 [(0, .ref 74)] [] σ24
  refine ov_iconst 0 (by decide) dX6_halved_4 ?_
  refine ov_istore_n dX6_halved_5 (Nat.le_of_ble_eq_true rfl) [(1, .int 0), (0, .ref 74)] rfl ?_
  refine ov_pick [1, 0] [(0, .ref 74), (1, .int 0)] rfl ?_
  obtain ⟨n25, hF⟩ := hF
  exact V_X6_halved_6 n25 0 σ24 hF
/-! X6_differs -/
abbrev vv_X6_differs (k : Int32 → ovSt → Prop) (pc : Nat) (L : List (Nat × Value)) (st : List Value) (σ : ovSt) : Prop := ov_V (ovZs 5 yX6_differs cX6_differs 3) (ovKs (some .int) ov_S0 (ovKi k)) (0, 0) ov_S0 pc L st σ
def F_X6_differs (σ : ovSt) (k : Int32 → ovSt → Prop) : Prop := (if (σ 74 3) = 0 then (k (-1000000002) σ) else (F_X6_tasteAll σ (fun v1 σ2 => (F_X6_copyAll 75 77 σ2 (fun σ4 => (F_X6_copyAll 76 75 σ4 (fun σ6 => (F_X6_tasteAll σ6 (fun v7 σ8 => (F_X6_copyAll 77 75 σ8 (fun σ10 => (k (v1 - v7) σ10))))))))))))
set_option maxRecDepth 100000 in
set_option maxHeartbeats 4000000 in
theorem c_X6_differs {σ : ovSt} {k : Int32 → ovSt → Prop} (hF : F_X6_differs σ k) : ov_Ct 5 yX6_differs cX6_differs 3 (some .int) ov_S0 [.ref 74] σ (ovKi k) := by
  refine ov_Ct.of (by decide) (Nat.le_of_ble_eq_true rfl) ?_
  unfold F_X6_differs at hF
  show vv_X6_differs k 0 [(0, .ref 74)] [] σ
  refine ov_aload_n dX6_differs_0 0 rfl ?_
  refine ov_geti (T := TX6) (kf := 3) dX6_differs_1 qf_X6_185 sh_74 rfl (Nat.le_of_ble_eq_true rfl) rfl ?_
  refine ov_if_ne 10 dX6_differs_4 (by decide) hF (fun hF => ?_) (fun hF => ?_)
  · refine ov_aload_n dX6_differs_10 0 rfl ?_
    refine ov_callV [] dX6_differs_11 (c_X6_tasteAll hF) (Nat.le_of_ble_eq_true rfl) (Nat.le_of_ble_eq_true rfl) lk_X6_162 sh_74 rfl (Nat.le_of_ble_eq_true rfl) (Nat.le_refl _) (Nat.le_refl _) (fun rr σ2 hF => ?_)
    obtain ⟨v1, rfl, hF⟩ := hF
    show vv_X6_differs k 14 [(0, .ref 74)] [.int v1] σ2
    refine ov_istore_n dX6_differs_14 (Nat.le_of_ble_eq_true rfl) [(1, .int v1), (0, .ref 74)] rfl ?_
    refine ov_aload_n dX6_differs_15 1 rfl ?_
    refine ov_getr (T := TX6) (kf := 0) dX6_differs_16 qf_X6_9 sh_74 rfl (Nat.le_of_ble_eq_true rfl) rfl (by decide) ?_
    refine ov_aload_n dX6_differs_19 1 rfl ?_
    refine ov_getr (T := TX6) (kf := 2) dX6_differs_20 qf_X6_16 sh_74 rfl (Nat.le_of_ble_eq_true rfl) rfl (by decide) ?_
    refine ov_callS [.ref 75, .ref 77] dX6_differs_23 (c_X6_copyAll hF) (Nat.le_of_ble_eq_true rfl) (Nat.le_of_ble_eq_true rfl) lk_X6_190 (Nat.le_of_ble_eq_true rfl) (Nat.le_refl _) (Nat.le_refl _) (fun rr σ4 hF => ?_)
    obtain ⟨rfl, hF⟩ := hF
    show vv_X6_differs k 26 [(1, .int v1), (0, .ref 74)] [] σ4
    refine ov_aload_n dX6_differs_26 1 rfl ?_
    refine ov_getr (T := TX6) (kf := 1) dX6_differs_27 qf_X6_13 sh_74 rfl (Nat.le_of_ble_eq_true rfl) rfl (by decide) ?_
    refine ov_aload_n dX6_differs_30 1 rfl ?_
    refine ov_getr (T := TX6) (kf := 0) dX6_differs_31 qf_X6_9 sh_74 rfl (Nat.le_of_ble_eq_true rfl) rfl (by decide) ?_
    refine ov_callS [.ref 76, .ref 75] dX6_differs_34 (c_X6_copyAll hF) (Nat.le_of_ble_eq_true rfl) (Nat.le_of_ble_eq_true rfl) lk_X6_190 (Nat.le_of_ble_eq_true rfl) (Nat.le_refl _) (Nat.le_refl _) (fun rr σ6 hF => ?_)
    obtain ⟨rfl, hF⟩ := hF
    show vv_X6_differs k 37 [(1, .int v1), (0, .ref 74)] [] σ6
    refine ov_aload_n dX6_differs_37 1 rfl ?_
    refine ov_callV [] dX6_differs_38 (c_X6_tasteAll hF) (Nat.le_of_ble_eq_true rfl) (Nat.le_of_ble_eq_true rfl) lk_X6_162 sh_74 rfl (Nat.le_of_ble_eq_true rfl) (Nat.le_refl _) (Nat.le_refl _) (fun rr σ8 hF => ?_)
    obtain ⟨v7, rfl, hF⟩ := hF
    show vv_X6_differs k 41 [(1, .int v1), (0, .ref 74)] [.int v7] σ8
    refine ov_istore_n dX6_differs_41 (Nat.le_of_ble_eq_true rfl) [(2, .int v7), (1, .int v1), (0, .ref 74)] rfl ?_
    refine ov_aload_n dX6_differs_42 2 rfl ?_
    refine ov_getr (T := TX6) (kf := 2) dX6_differs_43 qf_X6_16 sh_74 rfl (Nat.le_of_ble_eq_true rfl) rfl (by decide) ?_
    refine ov_aload_n dX6_differs_46 2 rfl ?_
    refine ov_getr (T := TX6) (kf := 0) dX6_differs_47 qf_X6_9 sh_74 rfl (Nat.le_of_ble_eq_true rfl) rfl (by decide) ?_
    refine ov_callS [.ref 77, .ref 75] dX6_differs_50 (c_X6_copyAll hF) (Nat.le_of_ble_eq_true rfl) (Nat.le_of_ble_eq_true rfl) lk_X6_190 (Nat.le_of_ble_eq_true rfl) (Nat.le_refl _) (Nat.le_refl _) (fun rr σ10 hF => ?_)
    obtain ⟨rfl, hF⟩ := hF
    show vv_X6_differs k 53 [(2, .int v7), (1, .int v1), (0, .ref 74)] [] σ10
    refine ov_iload_n dX6_differs_53 1 rfl ?_
    refine ov_iload_n dX6_differs_54 0 rfl ?_
    refine ov_isub dX6_differs_55 ?_
    exact ov_ireturn dX6_differs_56 (Nat.le_refl _) (Nat.le_refl _) ⟨rfl, trivial, _, rfl, hF⟩
  · refine ov_ldc dX6_differs_7 qc_X6_189 ?_
    exact ov_ireturn dX6_differs_9 (Nat.le_refl _) (Nat.le_refl _) ⟨rfl, trivial, _, rfl, hF⟩
/-! X6_feed -/
abbrev vv_X6_feed (k : Int32 → ovSt → Prop) (pc : Nat) (L : List (Nat × Value)) (st : List Value) (σ : ovSt) : Prop := ov_V (ovZs 0 yX6_feed cX6_feed 6) (ovKs (some .int) ov_S0 (ovKi k)) (0, 0) ov_S0 pc L st σ
def F_X6_feed_47 (R18 : Int32 → Int32 → Int32 → Int32 → ovSt → Prop) (k : Int32 → ovSt → Prop) (x1 : Int32) (x2 : Int32) (x3 : Int32) (x4 : Int32) (t0 : Int32) (σ : ovSt) : Prop := (vp_in ((σ 74 8) + x4) 96 ∧ (∀ σ2 : ovSt, σ2 = ov_up σ 81 (Int32.toNatClampNeg ((σ 74 8) + x4)) ((t0 >>> ((24 - (8 * (x4 - x4 / 4 * 4))) &&& 31)) &&& 255) → R18 x1 x2 x3 (x4 + 1) σ2))
set_option maxRecDepth 100000 in
set_option maxHeartbeats 4000000 in
theorem V_X6_feed_47 {k : Int32 → ovSt → Prop} {R18 : Int32 → Int32 → Int32 → Int32 → ovSt → Prop} (hR18 : ∀ (x1 : Int32) (x2 : Int32) (x3 : Int32) (x4 : Int32) (σ : ovSt), R18 x1 x2 x3 x4 σ → vv_X6_feed k 18 [(0, .ref 74), (1, .int x1), (2, .int x2), (3, .int x3), (4, .int x4)] [] σ) (x1 : Int32) (x2 : Int32) (x3 : Int32) (x4 : Int32) (t0 : Int32) (σ : ovSt) (hF : F_X6_feed_47 R18 k x1 x2 x3 x4 t0 σ) : vv_X6_feed k 47 [(0, .ref 74), (1, .int x1), (2, .int x2), (3, .int x3), (4, .int x4)] [.int t0] σ := by
  unfold F_X6_feed_47 at hF
  refine ov_istore dX6_feed_47 (Nat.le_of_ble_eq_true rfl) [(5, .int t0), (0, .ref 74), (1, .int x1), (2, .int x2), (3, .int x3), (4, .int x4)] rfl ?_
  refine ov_aload_n dX6_feed_49 1 rfl ?_
  refine ov_getr (T := TX6) (kf := 7) dX6_feed_50 qf_X6_28 sh_74 rfl (Nat.le_of_ble_eq_true rfl) rfl (by decide) ?_
  refine ov_aload_n dX6_feed_53 1 rfl ?_
  refine ov_geti (T := TX6) (kf := 8) dX6_feed_54 qf_X6_194 sh_74 rfl (Nat.le_of_ble_eq_true rfl) rfl ?_
  refine ov_iload dX6_feed_57 5 rfl ?_
  refine ov_iadd dX6_feed_59 ?_
  refine ov_iload dX6_feed_60 0 rfl ?_
  refine ov_bipush 24 (by decide) dX6_feed_62 ?_
  refine ov_bipush 8 (by decide) dX6_feed_64 ?_
  refine ov_iload dX6_feed_66 5 rfl ?_
  refine ov_iconst 4 (by decide) dX6_feed_68 ?_
  refine ov_irem (by decide) dX6_feed_69 ?_
  refine ov_imul dX6_feed_70 ?_
  refine ov_isub dX6_feed_71 ?_
  refine ov_ishr dX6_feed_72 ?_
  refine ov_sipush 255 (by decide) dX6_feed_73 ?_
  refine ov_iand dX6_feed_76 ?_
  have h1 := hF.1
  have hF := hF.2
  refine ov_iastore dX6_feed_77 sh_81 h1 ?_
  refine ov_nmS (fun σ2 es2 => ?_)
  have hF := hF σ2 es2
  refine ov_iinc dX6_feed_78 5 rfl (x4 + 1) rfl (Nat.le_of_ble_eq_true rfl) [(4, .int (x4 + 1)), (5, .int t0), (0, .ref 74), (1, .int x1), (2, .int x2), (3, .int x3)] rfl ?_
  refine ov_goto 18 dX6_feed_81 (by decide) ?_
  refine ov_pick [2, 3, 4, 5, 0] [(0, .ref 74), (1, .int x1), (2, .int x2), (3, .int x3), (4, .int (x4 + 1))] rfl ?_
  exact hR18 x1 x2 x3 (x4 + 1) σ2 hF
def F_X6_feed_18 (k : Int32 → ovSt → Prop) : Nat → Int32 → Int32 → Int32 → Int32 → ovSt → Prop
  | 0 => fun _ _ _ _ _ => False
  | n + 1 => fun x1 x2 x3 x4 σ => (if (12 : Int32) ≤ x4 then (∀ σ3 : ovSt, σ3 = ov_up σ 74 8 ((σ 74 8) + 12) → (k (σ3 74 8) σ3)) else (if (4 : Int32) ≤ x4 then (if (8 : Int32) ≤ x4 then (F_X6_feed_47 (F_X6_feed_18 k n) k x1 x2 x3 x4 x3 σ) else (F_X6_feed_47 (F_X6_feed_18 k n) k x1 x2 x3 x4 x2 σ)) else (F_X6_feed_47 (F_X6_feed_18 k n) k x1 x2 x3 x4 x1 σ)))
set_option maxRecDepth 100000 in
set_option maxHeartbeats 4000000 in
theorem V_X6_feed_18 {k : Int32 → ovSt → Prop} : ∀ (n : Nat) (x1 : Int32) (x2 : Int32) (x3 : Int32) (x4 : Int32) (σ : ovSt), F_X6_feed_18 k n x1 x2 x3 x4 σ → vv_X6_feed k 18 [(0, .ref 74), (1, .int x1), (2, .int x2), (3, .int x3), (4, .int x4)] [] σ := by
  intro n
  induction n with
  | zero => intro x1 x2 x3 x4 σ hF; exact hF.elim
  | succ n ih =>
    intro x1 x2 x3 x4 σ hF
    unfold F_X6_feed_18 at hF
    refine ov_iload dX6_feed_18 4 rfl ?_
    refine ov_bipush 12 (by decide) dX6_feed_20 ?_
    refine ov_icmp_ge 84 dX6_feed_22 (by decide) hF (fun hF => ?_) (fun hF => ?_)
    · refine ov_aload_n dX6_feed_84 0 rfl ?_
      refine ov_dup rfl dX6_feed_85 ?_
      refine ov_geti (T := TX6) (kf := 8) dX6_feed_86 qf_X6_194 sh_74 rfl (Nat.le_of_ble_eq_true rfl) rfl ?_
      refine ov_bipush 12 (by decide) dX6_feed_89 ?_
      refine ov_iadd dX6_feed_91 ?_
      refine ov_puti (T := TX6) (kf := 8) dX6_feed_92 qf_X6_194 sh_74 rfl (Nat.le_of_ble_eq_true rfl) rfl rfl (by decide +kernel) ?_
      refine ov_nmS (fun σ3 es3 => ?_)
      have hF := hF σ3 es3
      refine ov_aload_n dX6_feed_95 0 rfl ?_
      refine ov_geti (T := TX6) (kf := 8) dX6_feed_96 qf_X6_194 sh_74 rfl (Nat.le_of_ble_eq_true rfl) rfl ?_
      exact ov_ireturn dX6_feed_99 (Nat.le_refl _) (Nat.le_refl _) ⟨rfl, trivial, _, rfl, hF⟩
    · refine ov_iload dX6_feed_25 4 rfl ?_
      refine ov_iconst 4 (by decide) dX6_feed_27 ?_
      refine ov_icmp_ge 35 dX6_feed_28 (by decide) hF (fun hF => ?_) (fun hF => ?_)
      · refine ov_iload dX6_feed_35 4 rfl ?_
        refine ov_bipush 8 (by decide) dX6_feed_37 ?_
        refine ov_icmp_ge 46 dX6_feed_39 (by decide) hF (fun hF => ?_) (fun hF => ?_)
        · refine ov_iload_n dX6_feed_46 3 rfl ?_
          exact V_X6_feed_47 ih x1 x2 x3 x4 x3 σ hF
        · refine ov_iload_n dX6_feed_42 2 rfl ?_
          refine ov_goto 47 dX6_feed_43 (by decide) ?_
          exact V_X6_feed_47 ih x1 x2 x3 x4 x2 σ hF
      · refine ov_iload_n dX6_feed_31 1 rfl ?_
        refine ov_goto 47 dX6_feed_32 (by decide) ?_
        exact V_X6_feed_47 ih x1 x2 x3 x4 x1 σ hF
def F_X6_feed (x1 : Int32) (x2 : Int32) (x3 : Int32) (σ : ovSt) (k : Int32 → ovSt → Prop) : Prop := (if ((σ 74 8) + 12) ≤ (96 : Int32) then (∃ n4, F_X6_feed_18 k n4 x1 x2 x3 0 σ) else (k (-1000000003) σ))
set_option maxRecDepth 100000 in
set_option maxHeartbeats 4000000 in
theorem c_X6_feed {x1 : Int32} {x2 : Int32} {x3 : Int32} {σ : ovSt} {k : Int32 → ovSt → Prop} (hF : F_X6_feed x1 x2 x3 σ k) : ov_Ct 0 yX6_feed cX6_feed 6 (some .int) ov_S0 [.ref 74, .int x1, .int x2, .int x3] σ (ovKi k) := by
  refine ov_Ct.of (by decide) (Nat.le_of_ble_eq_true rfl) ?_
  unfold F_X6_feed at hF
  show vv_X6_feed k 0 [(0, .ref 74), (1, .int x1), (2, .int x2), (3, .int x3)] [] σ
  refine ov_aload_n dX6_feed_0 0 rfl ?_
  refine ov_geti (T := TX6) (kf := 8) dX6_feed_1 qf_X6_194 sh_74 rfl (Nat.le_of_ble_eq_true rfl) rfl ?_
  refine ov_bipush 12 (by decide) dX6_feed_4 ?_
  refine ov_iadd dX6_feed_6 ?_
  refine ov_bipush 96 (by decide) dX6_feed_7 ?_
  refine ov_icmp_le 15 dX6_feed_9 (by decide) hF (fun hF => ?_) (fun hF => ?_)
  · refine ov_iconst 0 (by decide) dX6_feed_15 ?_
    refine ov_istore dX6_feed_16 (Nat.le_of_ble_eq_true rfl) [(4, .int 0), (0, .ref 74), (1, .int x1), (2, .int x2), (3, .int x3)] rfl ?_
    refine ov_pick [1, 2, 3, 4, 0] [(0, .ref 74), (1, .int x1), (2, .int x2), (3, .int x3), (4, .int 0)] rfl ?_
    obtain ⟨n4, hF⟩ := hF
    exact V_X6_feed_18 n4 x1 x2 x3 0 σ hF
  · refine ov_ldc dX6_feed_12 qc_X6_91 ?_
    exact ov_ireturn dX6_feed_14 (Nat.le_refl _) (Nat.le_refl _) ⟨rfl, trivial, _, rfl, hF⟩
/-! X6_trim -/
abbrev vv_X6_trim (k : Int32 → ovSt → Prop) (pc : Nat) (L : List (Nat × Value)) (st : List Value) (σ : ovSt) : Prop := ov_V (ovZs 1 yX6_trim cX6_trim 2) (ovKs (some .int) ov_S0 (ovKi k)) (0, 0) ov_S0 pc L st σ
def F_X6_trim (x1 : Int32) (σ : ovSt) (k : Int32 → ovSt → Prop) : Prop := (F_X6_in x1 0 (σ 74 8) σ (fun v1 σ2 => (if v1 = 0 then (k (-1000000001) σ2) else (∀ σ3 : ovSt, σ3 = ov_up σ2 74 8 x1 → (k x1 σ3)))))
set_option maxRecDepth 100000 in
set_option maxHeartbeats 4000000 in
theorem c_X6_trim {x1 : Int32} {σ : ovSt} {k : Int32 → ovSt → Prop} (hF : F_X6_trim x1 σ k) : ov_Ct 1 yX6_trim cX6_trim 2 (some .int) ov_S0 [.ref 74, .int x1] σ (ovKi k) := by
  refine ov_Ct.of (by decide) (Nat.le_of_ble_eq_true rfl) ?_
  unfold F_X6_trim at hF
  show vv_X6_trim k 0 [(0, .ref 74), (1, .int x1)] [] σ
  refine ov_iload_n dX6_trim_0 1 rfl ?_
  refine ov_iconst 0 (by decide) dX6_trim_1 ?_
  refine ov_aload_n dX6_trim_2 0 rfl ?_
  refine ov_geti (T := TX6) (kf := 8) dX6_trim_3 qf_X6_194 sh_74 rfl (Nat.le_of_ble_eq_true rfl) rfl ?_
  refine ov_callS [.int x1, .int 0, .int (σ 74 8)] dX6_trim_6 (c_X6_in hF) (Nat.le_of_ble_eq_true rfl) (Nat.le_of_ble_eq_true rfl) lk_X6_82 (Nat.le_of_ble_eq_true rfl) (Nat.le_refl _) (Nat.le_refl _) (fun rr σ2 hF => ?_)
  obtain ⟨v1, rfl, hF⟩ := hF
  show vv_X6_trim k 9 [(0, .ref 74), (1, .int x1)] [.int v1] σ2
  refine ov_if_ne 15 dX6_trim_9 (by decide) hF (fun hF => ?_) (fun hF => ?_)
  · refine ov_aload_n dX6_trim_15 0 rfl ?_
    refine ov_iload_n dX6_trim_16 1 rfl ?_
    refine ov_puti (T := TX6) (kf := 8) dX6_trim_17 qf_X6_194 sh_74 rfl (Nat.le_of_ble_eq_true rfl) rfl rfl (by decide +kernel) ?_
    refine ov_nmS (fun σ3 es3 => ?_)
    have hF := hF σ3 es3
    refine ov_iload_n dX6_trim_20 1 rfl ?_
    exact ov_ireturn dX6_trim_21 (Nat.le_refl _) (Nat.le_refl _) ⟨rfl, trivial, _, rfl, hF⟩
  · refine ov_ldc dX6_trim_12 qc_X6_90 ?_
    exact ov_ireturn dX6_trim_14 (Nat.le_refl _) (Nat.le_refl _) ⟨rfl, trivial, _, rfl, hF⟩
/-! X6_isLetter -/
abbrev vv_X6_isLetter (k : Int32 → ovSt → Prop) (pc : Nat) (L : List (Nat × Value)) (st : List Value) (σ : ovSt) : Prop := ov_V (ovZs 0 yX6_isLetter cX6_isLetter 2) (ovKs (some .boolean) ov_S0 (ovKi k)) (0, 0) ov_S0 pc L st σ
def F_X6_isLetter_35 (k : Int32 → ovSt → Prop) (t0 : Int32) (σ : ovSt) : Prop := (ov_bl t0 ∧ (k t0 σ))
set_option maxRecDepth 100000 in
set_option maxHeartbeats 4000000 in
theorem V_X6_isLetter_35 {k : Int32 → ovSt → Prop} (t0 : Int32) (σ : ovSt) (hF : F_X6_isLetter_35 k t0 σ) : vv_X6_isLetter k 35 [] [.int t0] σ := by
  unfold F_X6_isLetter_35 at hF
  have h1 := hF.1
  have hF := hF.2
  exact ov_ireturn dX6_isLetter_35 (Nat.le_refl _) (Nat.le_refl _) ⟨rfl, h1, _, rfl, hF⟩
def F_X6_isLetter_34 (k : Int32 → ovSt → Prop) (σ : ovSt) : Prop := (F_X6_isLetter_35 k 0 σ)
set_option maxRecDepth 100000 in
set_option maxHeartbeats 4000000 in
theorem V_X6_isLetter_34 {k : Int32 → ovSt → Prop} (σ : ovSt) (hF : F_X6_isLetter_34 k σ) : vv_X6_isLetter k 34 [] [] σ := by
  unfold F_X6_isLetter_34 at hF
  refine ov_iconst 0 (by decide) dX6_isLetter_34 ?_
  exact V_X6_isLetter_35 0 σ hF
def F_X6_isLetter (x1 : Int32) (σ : ovSt) (k : Int32 → ovSt → Prop) : Prop := (if (σ 74 8) ≤ x1 then (F_X6_isLetter_34 k σ) else (vp_in x1 96 ∧ (if (σ 81 (Int32.toNatClampNeg x1)) < (97 : Int32) then (F_X6_isLetter_34 k σ) else (if (122 : Int32) < (σ 81 (Int32.toNatClampNeg x1)) then (F_X6_isLetter_34 k σ) else (F_X6_isLetter_35 k 1 σ)))))
set_option maxRecDepth 100000 in
set_option maxHeartbeats 4000000 in
theorem c_X6_isLetter {x1 : Int32} {σ : ovSt} {k : Int32 → ovSt → Prop} (hF : F_X6_isLetter x1 σ k) : ov_Ct 0 yX6_isLetter cX6_isLetter 2 (some .boolean) ov_S0 [.ref 74, .int x1] σ (ovKi k) := by
  refine ov_Ct.of (by decide) (Nat.le_of_ble_eq_true rfl) ?_
  unfold F_X6_isLetter at hF
  show vv_X6_isLetter k 0 [(0, .ref 74), (1, .int x1)] [] σ
  refine ov_iload_n dX6_isLetter_0 1 rfl ?_
  refine ov_aload_n dX6_isLetter_1 0 rfl ?_
  refine ov_geti (T := TX6) (kf := 8) dX6_isLetter_2 qf_X6_194 sh_74 rfl (Nat.le_of_ble_eq_true rfl) rfl ?_
  refine ov_icmp_ge 34 dX6_isLetter_5 (by decide) hF (fun hF => ?_) (fun hF => ?_)
  · refine ov_pick [] [] rfl ?_
    exact V_X6_isLetter_34 σ hF
  · refine ov_aload_n dX6_isLetter_8 0 rfl ?_
    refine ov_getr (T := TX6) (kf := 7) dX6_isLetter_9 qf_X6_28 sh_74 rfl (Nat.le_of_ble_eq_true rfl) rfl (by decide) ?_
    refine ov_iload_n dX6_isLetter_12 1 rfl ?_
    have h2 := hF.1
    have hF := hF.2
    refine ov_iaload dX6_isLetter_13 sh_81 h2 ?_
    refine ov_bipush 97 (by decide) dX6_isLetter_14 ?_
    refine ov_icmp_lt 34 dX6_isLetter_16 (by decide) hF (fun hF => ?_) (fun hF => ?_)
    · refine ov_pick [] [] rfl ?_
      exact V_X6_isLetter_34 σ hF
    · refine ov_aload_n dX6_isLetter_19 0 rfl ?_
      refine ov_getr (T := TX6) (kf := 7) dX6_isLetter_20 qf_X6_28 sh_74 rfl (Nat.le_of_ble_eq_true rfl) rfl (by decide) ?_
      refine ov_iload_n dX6_isLetter_23 1 rfl ?_
      refine ov_iaload dX6_isLetter_24 sh_81 h2 ?_
      refine ov_bipush 122 (by decide) dX6_isLetter_25 ?_
      refine ov_icmp_gt 34 dX6_isLetter_27 (by decide) hF (fun hF => ?_) (fun hF => ?_)
      · refine ov_pick [] [] rfl ?_
        exact V_X6_isLetter_34 σ hF
      · refine ov_iconst 1 (by decide) dX6_isLetter_30 ?_
        refine ov_goto 35 dX6_isLetter_31 (by decide) ?_
        refine ov_pick [] [] rfl ?_
        exact V_X6_isLetter_35 1 σ hF
/-! X6_isFigure -/
abbrev vv_X6_isFigure (k : Int32 → ovSt → Prop) (pc : Nat) (L : List (Nat × Value)) (st : List Value) (σ : ovSt) : Prop := ov_V (ovZs 0 yX6_isFigure cX6_isFigure 2) (ovKs (some .boolean) ov_S0 (ovKi k)) (0, 0) ov_S0 pc L st σ
def F_X6_isFigure_35 (k : Int32 → ovSt → Prop) (t0 : Int32) (σ : ovSt) : Prop := (ov_bl t0 ∧ (k t0 σ))
set_option maxRecDepth 100000 in
set_option maxHeartbeats 4000000 in
theorem V_X6_isFigure_35 {k : Int32 → ovSt → Prop} (t0 : Int32) (σ : ovSt) (hF : F_X6_isFigure_35 k t0 σ) : vv_X6_isFigure k 35 [] [.int t0] σ := by
  unfold F_X6_isFigure_35 at hF
  have h1 := hF.1
  have hF := hF.2
  exact ov_ireturn dX6_isFigure_35 (Nat.le_refl _) (Nat.le_refl _) ⟨rfl, h1, _, rfl, hF⟩
def F_X6_isFigure_34 (k : Int32 → ovSt → Prop) (σ : ovSt) : Prop := (F_X6_isFigure_35 k 0 σ)
set_option maxRecDepth 100000 in
set_option maxHeartbeats 4000000 in
theorem V_X6_isFigure_34 {k : Int32 → ovSt → Prop} (σ : ovSt) (hF : F_X6_isFigure_34 k σ) : vv_X6_isFigure k 34 [] [] σ := by
  unfold F_X6_isFigure_34 at hF
  refine ov_iconst 0 (by decide) dX6_isFigure_34 ?_
  exact V_X6_isFigure_35 0 σ hF
def F_X6_isFigure (x1 : Int32) (σ : ovSt) (k : Int32 → ovSt → Prop) : Prop := (if (σ 74 8) ≤ x1 then (F_X6_isFigure_34 k σ) else (vp_in x1 96 ∧ (if (σ 81 (Int32.toNatClampNeg x1)) < (48 : Int32) then (F_X6_isFigure_34 k σ) else (if (57 : Int32) < (σ 81 (Int32.toNatClampNeg x1)) then (F_X6_isFigure_34 k σ) else (F_X6_isFigure_35 k 1 σ)))))
set_option maxRecDepth 100000 in
set_option maxHeartbeats 4000000 in
theorem c_X6_isFigure {x1 : Int32} {σ : ovSt} {k : Int32 → ovSt → Prop} (hF : F_X6_isFigure x1 σ k) : ov_Ct 0 yX6_isFigure cX6_isFigure 2 (some .boolean) ov_S0 [.ref 74, .int x1] σ (ovKi k) := by
  refine ov_Ct.of (by decide) (Nat.le_of_ble_eq_true rfl) ?_
  unfold F_X6_isFigure at hF
  show vv_X6_isFigure k 0 [(0, .ref 74), (1, .int x1)] [] σ
  refine ov_iload_n dX6_isFigure_0 1 rfl ?_
  refine ov_aload_n dX6_isFigure_1 0 rfl ?_
  refine ov_geti (T := TX6) (kf := 8) dX6_isFigure_2 qf_X6_194 sh_74 rfl (Nat.le_of_ble_eq_true rfl) rfl ?_
  refine ov_icmp_ge 34 dX6_isFigure_5 (by decide) hF (fun hF => ?_) (fun hF => ?_)
  · refine ov_pick [] [] rfl ?_
    exact V_X6_isFigure_34 σ hF
  · refine ov_aload_n dX6_isFigure_8 0 rfl ?_
    refine ov_getr (T := TX6) (kf := 7) dX6_isFigure_9 qf_X6_28 sh_74 rfl (Nat.le_of_ble_eq_true rfl) rfl (by decide) ?_
    refine ov_iload_n dX6_isFigure_12 1 rfl ?_
    have h2 := hF.1
    have hF := hF.2
    refine ov_iaload dX6_isFigure_13 sh_81 h2 ?_
    refine ov_bipush 48 (by decide) dX6_isFigure_14 ?_
    refine ov_icmp_lt 34 dX6_isFigure_16 (by decide) hF (fun hF => ?_) (fun hF => ?_)
    · refine ov_pick [] [] rfl ?_
      exact V_X6_isFigure_34 σ hF
    · refine ov_aload_n dX6_isFigure_19 0 rfl ?_
      refine ov_getr (T := TX6) (kf := 7) dX6_isFigure_20 qf_X6_28 sh_74 rfl (Nat.le_of_ble_eq_true rfl) rfl (by decide) ?_
      refine ov_iload_n dX6_isFigure_23 1 rfl ?_
      refine ov_iaload dX6_isFigure_24 sh_81 h2 ?_
      refine ov_bipush 57 (by decide) dX6_isFigure_25 ?_
      refine ov_icmp_gt 34 dX6_isFigure_27 (by decide) hF (fun hF => ?_) (fun hF => ?_)
      · refine ov_pick [] [] rfl ?_
        exact V_X6_isFigure_34 σ hF
      · refine ov_iconst 1 (by decide) dX6_isFigure_30 ?_
        refine ov_goto 35 dX6_isFigure_31 (by decide) ?_
        refine ov_pick [] [] rfl ?_
        exact V_X6_isFigure_35 1 σ hF
/-! X6_go -/
abbrev vv_X6_go (k : ovSt → Prop) (pc : Nat) (L : List (Nat × Value)) (st : List Value) (σ : ovSt) : Prop := ov_V (ovZs 1 yX6_go cX6_go 2) (ovKs none ov_S0 (ovKv k)) (0, 0) ov_S0 pc L st σ
def F_X6_go_303 (k : ovSt → Prop) (σ : ovSt) : Prop := (k σ)
set_option maxRecDepth 100000 in
set_option maxHeartbeats 4000000 in
theorem V_X6_go_303 {k : ovSt → Prop} (σ : ovSt) (hF : F_X6_go_303 k σ) : vv_X6_go k 303 [] [] σ := by
  unfold F_X6_go_303 at hF
  exact ov_return dX6_go_303 (Nat.le_refl _) (Nat.le_refl _) ⟨rfl, trivial, rfl, hF⟩
def F_X6_go_127 (k : ovSt → Prop) (t0 : Int32) (σ : ovSt) : Prop := (∀ σ1 : ovSt, σ1 = ov_up σ 74 11 t0 → (vp_in (σ1 74 10) 96 ∧ (∀ σ3 : ovSt, σ3 = ov_up σ1 74 12 (σ1 81 (Int32.toNatClampNeg (σ1 74 10))) → (∀ σ4 : ovSt, σ4 = ov_up σ3 74 13 (σ3 74 9) → (F_X6_go_303 k σ4)))))
set_option maxRecDepth 100000 in
set_option maxHeartbeats 4000000 in
theorem V_X6_go_127 {k : ovSt → Prop} (t0 : Int32) (σ : ovSt) (hF : F_X6_go_127 k t0 σ) : vv_X6_go k 127 [(0, .ref 74)] [.int t0, .ref 74] σ := by
  unfold F_X6_go_127 at hF
  refine ov_puti (T := TX6) (kf := 11) dX6_go_127 qf_X6_207 sh_74 rfl (Nat.le_of_ble_eq_true rfl) rfl rfl (by decide +kernel) ?_
  refine ov_nmS (fun σ1 es1 => ?_)
  have hF := hF σ1 es1
  refine ov_aload_n dX6_go_130 0 rfl ?_
  refine ov_aload_n dX6_go_131 0 rfl ?_
  refine ov_getr (T := TX6) (kf := 7) dX6_go_132 qf_X6_28 sh_74 rfl (Nat.le_of_ble_eq_true rfl) rfl (by decide) ?_
  refine ov_aload_n dX6_go_135 0 rfl ?_
  refine ov_geti (T := TX6) (kf := 10) dX6_go_136 qf_X6_201 sh_74 rfl (Nat.le_of_ble_eq_true rfl) rfl ?_
  have h2 := hF.1
  have hF := hF.2
  refine ov_iaload dX6_go_139 sh_81 h2 ?_
  refine ov_puti (T := TX6) (kf := 12) dX6_go_140 qf_X6_213 sh_74 rfl (Nat.le_of_ble_eq_true rfl) rfl rfl (by decide +kernel) ?_
  refine ov_nmS (fun σ3 es3 => ?_)
  have hF := hF σ3 es3
  refine ov_aload_n dX6_go_143 0 rfl ?_
  refine ov_aload_n dX6_go_144 0 rfl ?_
  refine ov_geti (T := TX6) (kf := 9) dX6_go_145 qf_X6_198 sh_74 rfl (Nat.le_of_ble_eq_true rfl) rfl ?_
  refine ov_puti (T := TX6) (kf := 13) dX6_go_148 qf_X6_204 sh_74 rfl (Nat.le_of_ble_eq_true rfl) rfl rfl (by decide +kernel) ?_
  refine ov_nmS (fun σ4 es4 => ?_)
  have hF := hF σ4 es4
  refine ov_goto 303 dX6_go_151 (by decide) ?_
  refine ov_pick [] [] rfl ?_
  exact V_X6_go_303 σ4 hF
def F_X6_go_93 (k : ovSt → Prop) : Nat → Int32 → ovSt → Prop
  | 0 => fun _ _ => False
  | n + 1 => fun x1 σ => (F_X6_isLetter (σ 74 9) σ (fun v5 σ6 => (if v5 = 0 then (if x1 = 0 then (F_X6_go_127 k 1 σ6) else (F_X6_go_127 k 4 σ6)) else (∀ σ7 : ovSt, σ7 = ov_up σ6 74 9 ((σ6 74 9) + 1) → F_X6_go_93 k n x1 σ7))))
set_option maxRecDepth 100000 in
set_option maxHeartbeats 4000000 in
theorem V_X6_go_93 {k : ovSt → Prop} : ∀ (n : Nat) (x1 : Int32) (σ : ovSt), F_X6_go_93 k n x1 σ → vv_X6_go k 93 [(0, .ref 74), (1, .int x1)] [] σ := by
  intro n
  induction n with
  | zero => intro x1 σ hF; exact hF.elim
  | succ n ih =>
    intro x1 σ hF
    unfold F_X6_go_93 at hF
    refine ov_aload_n dX6_go_93 0 rfl ?_
    refine ov_aload_n dX6_go_94 0 rfl ?_
    refine ov_geti (T := TX6) (kf := 9) dX6_go_95 qf_X6_198 sh_74 rfl (Nat.le_of_ble_eq_true rfl) rfl ?_
    refine ov_callV [.int (σ 74 9)] dX6_go_98 (c_X6_isLetter hF) (Nat.le_of_ble_eq_true rfl) (Nat.le_of_ble_eq_true rfl) lk_X6_210 sh_74 rfl (Nat.le_of_ble_eq_true rfl) (Nat.le_refl _) (Nat.le_refl _) (fun rr σ6 hF => ?_)
    obtain ⟨v5, rfl, hF⟩ := hF
    show vv_X6_go k 101 [(0, .ref 74), (1, .int x1)] [.int v5] σ6
    refine ov_if_eq 117 dX6_go_101 (by decide) hF (fun hF => ?_) (fun hF => ?_)
    · refine ov_aload_n dX6_go_117 0 rfl ?_
      refine ov_iload_n dX6_go_118 1 rfl ?_
      refine ov_if_eq 126 dX6_go_119 (by decide) hF (fun hF => ?_) (fun hF => ?_)
      · refine ov_iconst 1 (by decide) dX6_go_126 ?_
        refine ov_pick [0] [(0, .ref 74)] rfl ?_
        exact V_X6_go_127 1 σ6 hF
      · refine ov_iconst 4 (by decide) dX6_go_122 ?_
        refine ov_goto 127 dX6_go_123 (by decide) ?_
        refine ov_pick [0] [(0, .ref 74)] rfl ?_
        exact V_X6_go_127 4 σ6 hF
    · refine ov_aload_n dX6_go_104 0 rfl ?_
      refine ov_dup rfl dX6_go_105 ?_
      refine ov_geti (T := TX6) (kf := 9) dX6_go_106 qf_X6_198 sh_74 rfl (Nat.le_of_ble_eq_true rfl) rfl ?_
      refine ov_iconst 1 (by decide) dX6_go_109 ?_
      refine ov_iadd dX6_go_110 ?_
      refine ov_puti (T := TX6) (kf := 9) dX6_go_111 qf_X6_198 sh_74 rfl (Nat.le_of_ble_eq_true rfl) rfl rfl (by decide +kernel) ?_
      refine ov_nmS (fun σ7 es7 => ?_)
      have hF := hF σ7 es7
      refine ov_goto 93 dX6_go_114 (by decide) ?_
      exact ih x1 σ7 hF
def F_X6_go_222 (R170 : Int32 → ovSt → Prop) (k : ovSt → Prop) (x1 : Int32) (t0 : Int32) (σ : ovSt) : Prop := (∀ σ8 : ovSt, σ8 = ov_up σ 74 12 t0 → (∀ σ9 : ovSt, σ9 = ov_up σ8 74 9 ((σ8 74 9) + 1) → R170 x1 σ9))
set_option maxRecDepth 100000 in
set_option maxHeartbeats 4000000 in
theorem V_X6_go_222 {k : ovSt → Prop} {R170 : Int32 → ovSt → Prop} (hR170 : ∀ (x1 : Int32) (σ : ovSt), R170 x1 σ → vv_X6_go k 170 [(0, .ref 74), (1, .int x1)] [] σ) (x1 : Int32) (t0 : Int32) (σ : ovSt) (hF : F_X6_go_222 R170 k x1 t0 σ) : vv_X6_go k 222 [(0, .ref 74), (1, .int x1)] [.int t0, .ref 74] σ := by
  unfold F_X6_go_222 at hF
  refine ov_puti (T := TX6) (kf := 12) dX6_go_222 qf_X6_213 sh_74 rfl (Nat.le_of_ble_eq_true rfl) rfl rfl (by decide +kernel) ?_
  refine ov_nmS (fun σ8 es8 => ?_)
  have hF := hF σ8 es8
  refine ov_aload_n dX6_go_225 0 rfl ?_
  refine ov_dup rfl dX6_go_226 ?_
  refine ov_geti (T := TX6) (kf := 9) dX6_go_227 qf_X6_198 sh_74 rfl (Nat.le_of_ble_eq_true rfl) rfl ?_
  refine ov_iconst 1 (by decide) dX6_go_230 ?_
  refine ov_iadd dX6_go_231 ?_
  refine ov_puti (T := TX6) (kf := 9) dX6_go_232 qf_X6_198 sh_74 rfl (Nat.le_of_ble_eq_true rfl) rfl rfl (by decide +kernel) ?_
  refine ov_nmS (fun σ9 es9 => ?_)
  have hF := hF σ9 es9
  refine ov_goto 170 dX6_go_235 (by decide) ?_
  exact hR170 x1 σ9 hF
def F_X6_go_261 (k : ovSt → Prop) (t0 : Int32) (σ : ovSt) : Prop := (∀ σ10 : ovSt, σ10 = ov_up σ 74 11 t0 → (∀ σ11 : ovSt, σ11 = ov_up σ10 74 13 (σ10 74 9) → (F_X6_go_303 k σ11)))
set_option maxRecDepth 100000 in
set_option maxHeartbeats 4000000 in
theorem V_X6_go_261 {k : ovSt → Prop} (t0 : Int32) (σ : ovSt) (hF : F_X6_go_261 k t0 σ) : vv_X6_go k 261 [(0, .ref 74)] [.int t0, .ref 74] σ := by
  unfold F_X6_go_261 at hF
  refine ov_puti (T := TX6) (kf := 11) dX6_go_261 qf_X6_207 sh_74 rfl (Nat.le_of_ble_eq_true rfl) rfl rfl (by decide +kernel) ?_
  refine ov_nmS (fun σ10 es10 => ?_)
  have hF := hF σ10 es10
  refine ov_aload_n dX6_go_264 0 rfl ?_
  refine ov_aload_n dX6_go_265 0 rfl ?_
  refine ov_geti (T := TX6) (kf := 9) dX6_go_266 qf_X6_198 sh_74 rfl (Nat.le_of_ble_eq_true rfl) rfl ?_
  refine ov_puti (T := TX6) (kf := 13) dX6_go_269 qf_X6_204 sh_74 rfl (Nat.le_of_ble_eq_true rfl) rfl rfl (by decide +kernel) ?_
  refine ov_nmS (fun σ11 es11 => ?_)
  have hF := hF σ11 es11
  refine ov_goto 303 dX6_go_272 (by decide) ?_
  refine ov_pick [] [] rfl ?_
  exact V_X6_go_303 σ11 hF
def F_X6_go_256 (k : ovSt → Prop) (σ : ovSt) : Prop := (F_X6_go_261 k 4 σ)
set_option maxRecDepth 100000 in
set_option maxHeartbeats 4000000 in
theorem V_X6_go_256 {k : ovSt → Prop} (σ : ovSt) (hF : F_X6_go_256 k σ) : vv_X6_go k 256 [(0, .ref 74)] [.ref 74] σ := by
  unfold F_X6_go_256 at hF
  refine ov_iconst 4 (by decide) dX6_go_256 ?_
  refine ov_goto 261 dX6_go_257 (by decide) ?_
  exact V_X6_go_261 4 σ hF
def F_X6_go_170 (k : ovSt → Prop) : Nat → Int32 → ovSt → Prop
  | 0 => fun _ _ => False
  | n + 1 => fun x1 σ => (F_X6_isFigure (σ 74 9) σ (fun v12 σ13 => (if v12 = 0 then (if x1 = 0 then (if ((σ13 74 9) - (σ13 74 10)) ≤ (4 : Int32) then (F_X6_go_261 k 2 σ13) else (F_X6_go_256 k σ13)) else (F_X6_go_256 k σ13)) else (if (4 : Int32) ≤ ((σ13 74 9) - (σ13 74 10)) then (F_X6_go_222 (F_X6_go_170 k n) k x1 (σ13 74 12) σ13) else (vp_in (σ13 74 9) 96 ∧ (F_X6_go_222 (F_X6_go_170 k n) k x1 (((10 * (σ13 74 12)) + (σ13 81 (Int32.toNatClampNeg (σ13 74 9)))) - 48) σ13))))))
set_option maxRecDepth 100000 in
set_option maxHeartbeats 4000000 in
theorem V_X6_go_170 {k : ovSt → Prop} : ∀ (n : Nat) (x1 : Int32) (σ : ovSt), F_X6_go_170 k n x1 σ → vv_X6_go k 170 [(0, .ref 74), (1, .int x1)] [] σ := by
  intro n
  induction n with
  | zero => intro x1 σ hF; exact hF.elim
  | succ n ih =>
    intro x1 σ hF
    unfold F_X6_go_170 at hF
    refine ov_aload_n dX6_go_170 0 rfl ?_
    refine ov_aload_n dX6_go_171 0 rfl ?_
    refine ov_geti (T := TX6) (kf := 9) dX6_go_172 qf_X6_198 sh_74 rfl (Nat.le_of_ble_eq_true rfl) rfl ?_
    refine ov_callV [.int (σ 74 9)] dX6_go_175 (c_X6_isFigure hF) (Nat.le_of_ble_eq_true rfl) (Nat.le_of_ble_eq_true rfl) lk_X6_216 sh_74 rfl (Nat.le_of_ble_eq_true rfl) (Nat.le_refl _) (Nat.le_refl _) (fun rr σ13 hF => ?_)
    obtain ⟨v12, rfl, hF⟩ := hF
    show vv_X6_go k 178 [(0, .ref 74), (1, .int x1)] [.int v12] σ13
    refine ov_if_eq 238 dX6_go_178 (by decide) hF (fun hF => ?_) (fun hF => ?_)
    · refine ov_aload_n dX6_go_238 0 rfl ?_
      refine ov_iload_n dX6_go_239 1 rfl ?_
      refine ov_if_ne 256 dX6_go_240 (by decide) hF (fun hF => ?_) (fun hF => ?_)
      · refine ov_pick [0] [(0, .ref 74)] rfl ?_
        exact V_X6_go_256 σ13 hF
      · refine ov_aload_n dX6_go_243 0 rfl ?_
        refine ov_geti (T := TX6) (kf := 9) dX6_go_244 qf_X6_198 sh_74 rfl (Nat.le_of_ble_eq_true rfl) rfl ?_
        refine ov_aload_n dX6_go_247 0 rfl ?_
        refine ov_geti (T := TX6) (kf := 10) dX6_go_248 qf_X6_201 sh_74 rfl (Nat.le_of_ble_eq_true rfl) rfl ?_
        refine ov_isub dX6_go_251 ?_
        refine ov_iconst 4 (by decide) dX6_go_252 ?_
        refine ov_icmp_le 260 dX6_go_253 (by decide) hF (fun hF => ?_) (fun hF => ?_)
        · refine ov_iconst 2 (by decide) dX6_go_260 ?_
          refine ov_pick [0] [(0, .ref 74)] rfl ?_
          exact V_X6_go_261 2 σ13 hF
        · refine ov_pick [0] [(0, .ref 74)] rfl ?_
          exact V_X6_go_256 σ13 hF
    · refine ov_aload_n dX6_go_181 0 rfl ?_
      refine ov_aload_n dX6_go_182 0 rfl ?_
      refine ov_geti (T := TX6) (kf := 9) dX6_go_183 qf_X6_198 sh_74 rfl (Nat.le_of_ble_eq_true rfl) rfl ?_
      refine ov_aload_n dX6_go_186 0 rfl ?_
      refine ov_geti (T := TX6) (kf := 10) dX6_go_187 qf_X6_201 sh_74 rfl (Nat.le_of_ble_eq_true rfl) rfl ?_
      refine ov_isub dX6_go_190 ?_
      refine ov_iconst 4 (by decide) dX6_go_191 ?_
      refine ov_icmp_ge 218 dX6_go_192 (by decide) hF (fun hF => ?_) (fun hF => ?_)
      · refine ov_aload_n dX6_go_218 0 rfl ?_
        refine ov_geti (T := TX6) (kf := 12) dX6_go_219 qf_X6_213 sh_74 rfl (Nat.le_of_ble_eq_true rfl) rfl ?_
        exact V_X6_go_222 ih x1 (σ13 74 12) σ13 hF
      · refine ov_bipush 10 (by decide) dX6_go_195 ?_
        refine ov_aload_n dX6_go_197 0 rfl ?_
        refine ov_geti (T := TX6) (kf := 12) dX6_go_198 qf_X6_213 sh_74 rfl (Nat.le_of_ble_eq_true rfl) rfl ?_
        refine ov_imul dX6_go_201 ?_
        refine ov_aload_n dX6_go_202 0 rfl ?_
        refine ov_getr (T := TX6) (kf := 7) dX6_go_203 qf_X6_28 sh_74 rfl (Nat.le_of_ble_eq_true rfl) rfl (by decide) ?_
        refine ov_aload_n dX6_go_206 0 rfl ?_
        refine ov_geti (T := TX6) (kf := 9) dX6_go_207 qf_X6_198 sh_74 rfl (Nat.le_of_ble_eq_true rfl) rfl ?_
        have h14 := hF.1
        have hF := hF.2
        refine ov_iaload dX6_go_210 sh_81 h14 ?_
        refine ov_iadd dX6_go_211 ?_
        refine ov_bipush 48 (by decide) dX6_go_212 ?_
        refine ov_isub dX6_go_214 ?_
        refine ov_goto 222 dX6_go_215 (by decide) ?_
        exact V_X6_go_222 ih x1 (((10 * (σ13 74 12)) + (σ13 81 (Int32.toNatClampNeg (σ13 74 9)))) - 48) σ13 hF
def F_X6_go_62 (k : ovSt → Prop) (t0 : Int32) (σ : ovSt) : Prop := (if (σ 74 10) = (σ 74 8) then (∀ σ26 : ovSt, σ26 = ov_up σ 74 11 0 → (F_X6_go_303 k σ26)) else (F_X6_isLetter (σ 74 10) σ (fun v15 σ16 => (if v15 = 0 then (F_X6_isFigure (σ16 74 10) σ16 (fun v17 σ18 => (if v17 = 0 then (∀ σ19 : ovSt, σ19 = ov_up σ18 74 11 3 → (vp_in (σ19 74 10) 96 ∧ (∀ σ21 : ovSt, σ21 = ov_up σ19 74 12 (σ19 81 (Int32.toNatClampNeg (σ19 74 10))) → (∀ σ22 : ovSt, σ22 = ov_up σ21 74 9 ((σ21 74 9) + 1) → (F_X6_go_303 k σ22))))) else (∀ σ23 : ovSt, σ23 = ov_up σ18 74 12 0 → (∃ n24, F_X6_go_170 k n24 t0 σ23))))) else (∃ n25, F_X6_go_93 k n25 t0 σ16)))))
set_option maxRecDepth 100000 in
set_option maxHeartbeats 4000000 in
theorem V_X6_go_62 {k : ovSt → Prop} (t0 : Int32) (σ : ovSt) (hF : F_X6_go_62 k t0 σ) : vv_X6_go k 62 [(0, .ref 74)] [.int t0] σ := by
  unfold F_X6_go_62 at hF
  refine ov_istore_n dX6_go_62 (Nat.le_of_ble_eq_true rfl) [(1, .int t0), (0, .ref 74)] rfl ?_
  refine ov_aload_n dX6_go_63 1 rfl ?_
  refine ov_geti (T := TX6) (kf := 10) dX6_go_64 qf_X6_201 sh_74 rfl (Nat.le_of_ble_eq_true rfl) rfl ?_
  refine ov_aload_n dX6_go_67 1 rfl ?_
  refine ov_geti (T := TX6) (kf := 8) dX6_go_68 qf_X6_194 sh_74 rfl (Nat.le_of_ble_eq_true rfl) rfl ?_
  refine ov_icmp_ne 82 dX6_go_71 (by decide) hF (fun hF => ?_) (fun hF => ?_)
  · refine ov_aload_n dX6_go_82 1 rfl ?_
    refine ov_aload_n dX6_go_83 1 rfl ?_
    refine ov_geti (T := TX6) (kf := 10) dX6_go_84 qf_X6_201 sh_74 rfl (Nat.le_of_ble_eq_true rfl) rfl ?_
    refine ov_callV [.int (σ 74 10)] dX6_go_87 (c_X6_isLetter hF) (Nat.le_of_ble_eq_true rfl) (Nat.le_of_ble_eq_true rfl) lk_X6_210 sh_74 rfl (Nat.le_of_ble_eq_true rfl) (Nat.le_refl _) (Nat.le_refl _) (fun rr σ16 hF => ?_)
    obtain ⟨v15, rfl, hF⟩ := hF
    show vv_X6_go k 90 [(1, .int t0), (0, .ref 74)] [.int v15] σ16
    refine ov_if_eq 154 dX6_go_90 (by decide) hF (fun hF => ?_) (fun hF => ?_)
    · refine ov_aload_n dX6_go_154 1 rfl ?_
      refine ov_aload_n dX6_go_155 1 rfl ?_
      refine ov_geti (T := TX6) (kf := 10) dX6_go_156 qf_X6_201 sh_74 rfl (Nat.le_of_ble_eq_true rfl) rfl ?_
      refine ov_callV [.int (σ16 74 10)] dX6_go_159 (c_X6_isFigure hF) (Nat.le_of_ble_eq_true rfl) (Nat.le_of_ble_eq_true rfl) lk_X6_216 sh_74 rfl (Nat.le_of_ble_eq_true rfl) (Nat.le_refl _) (Nat.le_refl _) (fun rr σ18 hF => ?_)
      obtain ⟨v17, rfl, hF⟩ := hF
      show vv_X6_go k 162 [(1, .int t0), (0, .ref 74)] [.int v17] σ18
      refine ov_if_eq 275 dX6_go_162 (by decide) hF (fun hF => ?_) (fun hF => ?_)
      · refine ov_aload_n dX6_go_275 1 rfl ?_
        refine ov_iconst 3 (by decide) dX6_go_276 ?_
        refine ov_puti (T := TX6) (kf := 11) dX6_go_277 qf_X6_207 sh_74 rfl (Nat.le_of_ble_eq_true rfl) rfl rfl (by decide +kernel) ?_
        refine ov_nmS (fun σ19 es19 => ?_)
        have hF := hF σ19 es19
        refine ov_aload_n dX6_go_280 1 rfl ?_
        refine ov_aload_n dX6_go_281 1 rfl ?_
        refine ov_getr (T := TX6) (kf := 7) dX6_go_282 qf_X6_28 sh_74 rfl (Nat.le_of_ble_eq_true rfl) rfl (by decide) ?_
        refine ov_aload_n dX6_go_285 1 rfl ?_
        refine ov_geti (T := TX6) (kf := 10) dX6_go_286 qf_X6_201 sh_74 rfl (Nat.le_of_ble_eq_true rfl) rfl ?_
        have h20 := hF.1
        have hF := hF.2
        refine ov_iaload dX6_go_289 sh_81 h20 ?_
        refine ov_puti (T := TX6) (kf := 12) dX6_go_290 qf_X6_213 sh_74 rfl (Nat.le_of_ble_eq_true rfl) rfl rfl (by decide +kernel) ?_
        refine ov_nmS (fun σ21 es21 => ?_)
        have hF := hF σ21 es21
        refine ov_aload_n dX6_go_293 1 rfl ?_
        refine ov_dup rfl dX6_go_294 ?_
        refine ov_geti (T := TX6) (kf := 9) dX6_go_295 qf_X6_198 sh_74 rfl (Nat.le_of_ble_eq_true rfl) rfl ?_
        refine ov_iconst 1 (by decide) dX6_go_298 ?_
        refine ov_iadd dX6_go_299 ?_
        refine ov_puti (T := TX6) (kf := 9) dX6_go_300 qf_X6_198 sh_74 rfl (Nat.le_of_ble_eq_true rfl) rfl rfl (by decide +kernel) ?_
        refine ov_nmS (fun σ22 es22 => ?_)
        have hF := hF σ22 es22
        refine ov_pick [] [] rfl ?_
        exact V_X6_go_303 σ22 hF
      · refine ov_aload_n dX6_go_165 1 rfl ?_
        refine ov_iconst 0 (by decide) dX6_go_166 ?_
        refine ov_puti (T := TX6) (kf := 12) dX6_go_167 qf_X6_213 sh_74 rfl (Nat.le_of_ble_eq_true rfl) rfl rfl (by decide +kernel) ?_
        refine ov_nmS (fun σ23 es23 => ?_)
        have hF := hF σ23 es23
        refine ov_pick [1, 0] [(0, .ref 74), (1, .int t0)] rfl ?_
        obtain ⟨n24, hF⟩ := hF
        exact V_X6_go_170 n24 t0 σ23 hF
    · refine ov_pick [1, 0] [(0, .ref 74), (1, .int t0)] rfl ?_
      obtain ⟨n25, hF⟩ := hF
      exact V_X6_go_93 n25 t0 σ16 hF
  · refine ov_aload_n dX6_go_74 1 rfl ?_
    refine ov_iconst 0 (by decide) dX6_go_75 ?_
    refine ov_puti (T := TX6) (kf := 11) dX6_go_76 qf_X6_207 sh_74 rfl (Nat.le_of_ble_eq_true rfl) rfl rfl (by decide +kernel) ?_
    refine ov_nmS (fun σ26 es26 => ?_)
    have hF := hF σ26 es26
    refine ov_goto 303 dX6_go_79 (by decide) ?_
    refine ov_pick [] [] rfl ?_
    exact V_X6_go_303 σ26 hF
def F_X6_go_38 (k : ovSt → Prop) (σ : ovSt) : Prop := (∀ σ27 : ovSt, σ27 = ov_up σ 74 10 (σ 74 9) → (if (σ27 74 10) = (σ27 74 13) then (F_X6_go_62 k 1 σ27) else (F_X6_go_62 k 0 σ27)))
set_option maxRecDepth 100000 in
set_option maxHeartbeats 4000000 in
theorem V_X6_go_38 {k : ovSt → Prop} (σ : ovSt) (hF : F_X6_go_38 k σ) : vv_X6_go k 38 [(0, .ref 74)] [] σ := by
  unfold F_X6_go_38 at hF
  refine ov_aload_n dX6_go_38 0 rfl ?_
  refine ov_aload_n dX6_go_39 0 rfl ?_
  refine ov_geti (T := TX6) (kf := 9) dX6_go_40 qf_X6_198 sh_74 rfl (Nat.le_of_ble_eq_true rfl) rfl ?_
  refine ov_puti (T := TX6) (kf := 10) dX6_go_43 qf_X6_201 sh_74 rfl (Nat.le_of_ble_eq_true rfl) rfl rfl (by decide +kernel) ?_
  refine ov_nmS (fun σ27 es27 => ?_)
  have hF := hF σ27 es27
  refine ov_aload_n dX6_go_46 0 rfl ?_
  refine ov_geti (T := TX6) (kf := 10) dX6_go_47 qf_X6_201 sh_74 rfl (Nat.le_of_ble_eq_true rfl) rfl ?_
  refine ov_aload_n dX6_go_50 0 rfl ?_
  refine ov_geti (T := TX6) (kf := 13) dX6_go_51 qf_X6_204 sh_74 rfl (Nat.le_of_ble_eq_true rfl) rfl ?_
  refine ov_icmp_ne 61 dX6_go_54 (by decide) hF (fun hF => ?_) (fun hF => ?_)
  · refine ov_iconst 0 (by decide) dX6_go_61 ?_
    exact V_X6_go_62 0 σ27 hF
  · refine ov_iconst 1 (by decide) dX6_go_57 ?_
    refine ov_goto 62 dX6_go_58 (by decide) ?_
    exact V_X6_go_62 1 σ27 hF
def F_X6_go_0 (k : ovSt → Prop) : Nat → ovSt → Prop
  | 0 => fun  _ => False
  | n + 1 => fun  σ => (if (σ 74 8) ≤ (σ 74 9) then (F_X6_go_38 k σ) else (vp_in (σ 74 9) 96 ∧ (if (σ 81 (Int32.toNatClampNeg (σ 74 9))) = (32 : Int32) then (∀ σ29 : ovSt, σ29 = ov_up σ 74 9 ((σ 74 9) + 1) → F_X6_go_0 k n σ29) else (F_X6_go_38 k σ))))
set_option maxRecDepth 100000 in
set_option maxHeartbeats 4000000 in
theorem V_X6_go_0 {k : ovSt → Prop} : ∀ (n : Nat) (σ : ovSt), F_X6_go_0 k n σ → vv_X6_go k 0 [(0, .ref 74)] [] σ := by
  intro n
  induction n with
  | zero => intro σ hF; exact hF.elim
  | succ n ih =>
    intro σ hF
    unfold F_X6_go_0 at hF
    refine ov_aload_n dX6_go_0 0 rfl ?_
    refine ov_geti (T := TX6) (kf := 9) dX6_go_1 qf_X6_198 sh_74 rfl (Nat.le_of_ble_eq_true rfl) rfl ?_
    refine ov_aload_n dX6_go_4 0 rfl ?_
    refine ov_geti (T := TX6) (kf := 8) dX6_go_5 qf_X6_194 sh_74 rfl (Nat.le_of_ble_eq_true rfl) rfl ?_
    refine ov_icmp_ge 38 dX6_go_8 (by decide) hF (fun hF => ?_) (fun hF => ?_)
    · exact V_X6_go_38 σ hF
    · refine ov_aload_n dX6_go_11 0 rfl ?_
      refine ov_getr (T := TX6) (kf := 7) dX6_go_12 qf_X6_28 sh_74 rfl (Nat.le_of_ble_eq_true rfl) rfl (by decide) ?_
      refine ov_aload_n dX6_go_15 0 rfl ?_
      refine ov_geti (T := TX6) (kf := 9) dX6_go_16 qf_X6_198 sh_74 rfl (Nat.le_of_ble_eq_true rfl) rfl ?_
      have h28 := hF.1
      have hF := hF.2
      refine ov_iaload dX6_go_19 sh_81 h28 ?_
      refine ov_bipush 32 (by decide) dX6_go_20 ?_
      refine ov_icmp_ne 38 dX6_go_22 (by decide) hF (fun hF => ?_) (fun hF => ?_)
      · exact V_X6_go_38 σ hF
      · refine ov_aload_n dX6_go_25 0 rfl ?_
        refine ov_dup rfl dX6_go_26 ?_
        refine ov_geti (T := TX6) (kf := 9) dX6_go_27 qf_X6_198 sh_74 rfl (Nat.le_of_ble_eq_true rfl) rfl ?_
        refine ov_iconst 1 (by decide) dX6_go_30 ?_
        refine ov_iadd dX6_go_31 ?_
        refine ov_puti (T := TX6) (kf := 9) dX6_go_32 qf_X6_198 sh_74 rfl (Nat.le_of_ble_eq_true rfl) rfl rfl (by decide +kernel) ?_
        refine ov_nmS (fun σ29 es29 => ?_)
        have hF := hF σ29 es29
        refine ov_goto 0 dX6_go_35 (by decide) ?_
        exact ih σ29 hF
def F_X6_go (σ : ovSt) (k : ovSt → Prop) : Prop := (∃ n30, F_X6_go_0 k n30 σ)
set_option maxRecDepth 100000 in
set_option maxHeartbeats 4000000 in
theorem c_X6_go {σ : ovSt} {k : ovSt → Prop} (hF : F_X6_go σ k) : ov_Ct 1 yX6_go cX6_go 2 none ov_S0 [.ref 74] σ (ovKv k) := by
  refine ov_Ct.of (by decide) (Nat.le_of_ble_eq_true rfl) ?_
  unfold F_X6_go at hF
  show vv_X6_go k 0 [(0, .ref 74)] [] σ
  obtain ⟨n30, hF⟩ := hF
  exact V_X6_go_0 n30 σ hF
/-! X6_takesKey -/
abbrev vv_X6_takesKey (k : Int32 → ovSt → Prop) (pc : Nat) (L : List (Nat × Value)) (st : List Value) (σ : ovSt) : Prop := ov_V (ovZs 2 yX6_takesKey cX6_takesKey 5) (ovKs (some .boolean) ov_S0 (ovKi k)) (0, 0) ov_S0 pc L st σ
def F_X6_takesKey_99 (R12 : Int32 → ovSt → Prop) (R55 : Int32 → Int32 → Int32 → Int32 → ovSt → Prop) (k : Int32 → ovSt → Prop) (x1 : Int32) (x2 : Int32) (x4 : Int32) (t0 : Int32) (σ : ovSt) : Prop := R55 x1 x2 t0 (x4 + 1) σ
set_option maxRecDepth 100000 in
set_option maxHeartbeats 4000000 in
theorem V_X6_takesKey_99 {k : Int32 → ovSt → Prop} {R12 : Int32 → ovSt → Prop} (hR12 : ∀ (x1 : Int32) (σ : ovSt), R12 x1 σ → vv_X6_takesKey k 12 [(0, .ref 74), (1, .int x1)] [] σ) {R55 : Int32 → Int32 → Int32 → Int32 → ovSt → Prop} (hR55 : ∀ (x1 : Int32) (x2 : Int32) (x3 : Int32) (x4 : Int32) (σ : ovSt), R55 x1 x2 x3 x4 σ → vv_X6_takesKey k 55 [(0, .ref 74), (1, .int x1), (2, .int x2), (3, .int x3), (4, .int x4)] [] σ) (x1 : Int32) (x2 : Int32) (x4 : Int32) (t0 : Int32) (σ : ovSt) (hF : F_X6_takesKey_99 R12 R55 k x1 x2 x4 t0 σ) : vv_X6_takesKey k 99 [(0, .ref 74), (1, .int x1), (2, .int x2), (4, .int x4)] [.int t0] σ := by
  unfold F_X6_takesKey_99 at hF
  refine ov_istore_n dX6_takesKey_99 (Nat.le_of_ble_eq_true rfl) [(3, .int t0), (0, .ref 74), (1, .int x1), (2, .int x2), (4, .int x4)] rfl ?_
  refine ov_iinc dX6_takesKey_100 4 rfl (x4 + 1) rfl (Nat.le_of_ble_eq_true rfl) [(4, .int (x4 + 1)), (3, .int t0), (0, .ref 74), (1, .int x1), (2, .int x2)] rfl ?_
  refine ov_goto 55 dX6_takesKey_103 (by decide) ?_
  refine ov_pick [2, 3, 4, 1, 0] [(0, .ref 74), (1, .int x1), (2, .int x2), (3, .int t0), (4, .int (x4 + 1))] rfl ?_
  exact hR55 x1 x2 t0 (x4 + 1) σ hF
def F_X6_takesKey_106 (R12 : Int32 → ovSt → Prop) (k : Int32 → ovSt → Prop) (x1 : Int32) (x3 : Int32) (σ : ovSt) : Prop := (if x3 = 0 then R12 (x1 + 1) σ else (∀ σ1 : ovSt, σ1 = ov_up σ 74 14 x1 → (F_X6_go σ1 (fun σ3 => (k 1 σ3)))))
set_option maxRecDepth 100000 in
set_option maxHeartbeats 4000000 in
theorem V_X6_takesKey_106 {k : Int32 → ovSt → Prop} {R12 : Int32 → ovSt → Prop} (hR12 : ∀ (x1 : Int32) (σ : ovSt), R12 x1 σ → vv_X6_takesKey k 12 [(0, .ref 74), (1, .int x1)] [] σ) (x1 : Int32) (x3 : Int32) (σ : ovSt) (hF : F_X6_takesKey_106 R12 k x1 x3 σ) : vv_X6_takesKey k 106 [(0, .ref 74), (1, .int x1), (3, .int x3)] [] σ := by
  unfold F_X6_takesKey_106 at hF
  refine ov_iload_n dX6_takesKey_106 2 rfl ?_
  refine ov_if_eq 121 dX6_takesKey_107 (by decide) hF (fun hF => ?_) (fun hF => ?_)
  · refine ov_iinc dX6_takesKey_121 1 rfl (x1 + 1) rfl (Nat.le_of_ble_eq_true rfl) [(1, .int (x1 + 1)), (0, .ref 74), (3, .int x3)] rfl ?_
    refine ov_goto 12 dX6_takesKey_124 (by decide) ?_
    refine ov_pick [1, 0] [(0, .ref 74), (1, .int (x1 + 1))] rfl ?_
    exact hR12 (x1 + 1) σ hF
  · refine ov_aload_n dX6_takesKey_110 0 rfl ?_
    refine ov_iload_n dX6_takesKey_111 1 rfl ?_
    refine ov_puti (T := TX6) (kf := 14) dX6_takesKey_112 qf_X6_219 sh_74 rfl (Nat.le_of_ble_eq_true rfl) rfl rfl (by decide +kernel) ?_
    refine ov_nmS (fun σ1 es1 => ?_)
    have hF := hF σ1 es1
    refine ov_aload_n dX6_takesKey_115 0 rfl ?_
    refine ov_callV [] dX6_takesKey_116 (c_X6_go hF) (Nat.le_of_ble_eq_true rfl) (Nat.le_of_ble_eq_true rfl) lk_X6_222 sh_74 rfl (Nat.le_of_ble_eq_true rfl) (Nat.le_refl _) (Nat.le_refl _) (fun rr σ3 hF => ?_)
    obtain ⟨rfl, hF⟩ := hF
    show vv_X6_takesKey k 119 [(0, .ref 74), (1, .int x1), (3, .int x3)] [] σ3
    refine ov_iconst 1 (by decide) dX6_takesKey_119 ?_
    exact ov_ireturn dX6_takesKey_120 (Nat.le_refl _) (Nat.le_refl _) ⟨rfl, ov_bl1, _, rfl, hF⟩
def F_X6_takesKey_55 (R12 : Int32 → ovSt → Prop) (k : Int32 → ovSt → Prop) : Nat → Int32 → Int32 → Int32 → Int32 → ovSt → Prop
  | 0 => fun _ _ _ _ _ => False
  | n + 1 => fun x1 x2 x3 x4 σ => (if x2 ≤ x4 then (F_X6_takesKey_106 R12 k x1 x3 σ) else (if x3 = 0 then (F_X6_takesKey_106 R12 k x1 x3 σ) else (vp_in ((σ 74 10) + x4) 96 ∧ (vp_in x1 4 ∧ (vp_in ((σ 83 (Int32.toNatClampNeg x1)) + x4) 11 ∧ (if (σ 81 (Int32.toNatClampNeg ((σ 74 10) + x4))) = (σ 82 (Int32.toNatClampNeg ((σ 83 (Int32.toNatClampNeg x1)) + x4))) then (F_X6_takesKey_99 R12 (F_X6_takesKey_55 R12 k n) k x1 x2 x4 1 σ) else (F_X6_takesKey_99 R12 (F_X6_takesKey_55 R12 k n) k x1 x2 x4 0 σ)))))))
set_option maxRecDepth 100000 in
set_option maxHeartbeats 4000000 in
theorem V_X6_takesKey_55 {k : Int32 → ovSt → Prop} {R12 : Int32 → ovSt → Prop} (hR12 : ∀ (x1 : Int32) (σ : ovSt), R12 x1 σ → vv_X6_takesKey k 12 [(0, .ref 74), (1, .int x1)] [] σ) : ∀ (n : Nat) (x1 : Int32) (x2 : Int32) (x3 : Int32) (x4 : Int32) (σ : ovSt), F_X6_takesKey_55 R12 k n x1 x2 x3 x4 σ → vv_X6_takesKey k 55 [(0, .ref 74), (1, .int x1), (2, .int x2), (3, .int x3), (4, .int x4)] [] σ := by
  intro n
  induction n with
  | zero => intro x1 x2 x3 x4 σ hF; exact hF.elim
  | succ n ih =>
    intro x1 x2 x3 x4 σ hF
    unfold F_X6_takesKey_55 at hF
    refine ov_iload dX6_takesKey_55 4 rfl ?_
    refine ov_iload_n dX6_takesKey_57 2 rfl ?_
    refine ov_icmp_ge 106 dX6_takesKey_58 (by decide) hF (fun hF => ?_) (fun hF => ?_)
    · refine ov_pick [0, 1, 3] [(0, .ref 74), (1, .int x1), (3, .int x3)] rfl ?_
      exact V_X6_takesKey_106 hR12 x1 x3 σ hF
    · refine ov_iload_n dX6_takesKey_61 3 rfl ?_
      refine ov_if_eq 106 dX6_takesKey_62 (by decide) hF (fun hF => ?_) (fun hF => ?_)
      · refine ov_pick [0, 1, 3] [(0, .ref 74), (1, .int x1), (3, .int x3)] rfl ?_
        exact V_X6_takesKey_106 hR12 x1 x3 σ hF
      · refine ov_aload_n dX6_takesKey_65 0 rfl ?_
        refine ov_getr (T := TX6) (kf := 7) dX6_takesKey_66 qf_X6_28 sh_74 rfl (Nat.le_of_ble_eq_true rfl) rfl (by decide) ?_
        refine ov_aload_n dX6_takesKey_69 0 rfl ?_
        refine ov_geti (T := TX6) (kf := 10) dX6_takesKey_70 qf_X6_201 sh_74 rfl (Nat.le_of_ble_eq_true rfl) rfl ?_
        refine ov_iload dX6_takesKey_73 4 rfl ?_
        refine ov_iadd dX6_takesKey_75 ?_
        have h4 := hF.1
        have hF := hF.2
        refine ov_iaload dX6_takesKey_76 sh_81 h4 ?_
        refine ov_aload_n dX6_takesKey_77 0 rfl ?_
        refine ov_getr (T := TX6) (kf := 15) dX6_takesKey_78 qf_X6_31 sh_74 rfl (Nat.le_of_ble_eq_true rfl) rfl (by decide) ?_
        refine ov_aload_n dX6_takesKey_81 0 rfl ?_
        refine ov_getr (T := TX6) (kf := 16) dX6_takesKey_82 qf_X6_35 sh_74 rfl (Nat.le_of_ble_eq_true rfl) rfl (by decide) ?_
        refine ov_iload_n dX6_takesKey_85 1 rfl ?_
        have h5 := hF.1
        have hF := hF.2
        refine ov_iaload dX6_takesKey_86 sh_83 h5 ?_
        refine ov_iload dX6_takesKey_87 4 rfl ?_
        refine ov_iadd dX6_takesKey_89 ?_
        have h6 := hF.1
        have hF := hF.2
        refine ov_caload dX6_takesKey_90 sh_82 h6 ?_
        refine ov_icmp_ne 98 dX6_takesKey_91 (by decide) hF (fun hF => ?_) (fun hF => ?_)
        · refine ov_iconst 0 (by decide) dX6_takesKey_98 ?_
          refine ov_pick [0, 1, 2, 4] [(0, .ref 74), (1, .int x1), (2, .int x2), (4, .int x4)] rfl ?_
          exact V_X6_takesKey_99 hR12 ih x1 x2 x4 0 σ hF
        · refine ov_iconst 1 (by decide) dX6_takesKey_94 ?_
          refine ov_goto 99 dX6_takesKey_95 (by decide) ?_
          refine ov_pick [0, 1, 2, 4] [(0, .ref 74), (1, .int x1), (2, .int x2), (4, .int x4)] rfl ?_
          exact V_X6_takesKey_99 hR12 ih x1 x2 x4 1 σ hF
def F_X6_takesKey_51 (R12 : Int32 → ovSt → Prop) (k : Int32 → ovSt → Prop) (x1 : Int32) (x2 : Int32) (t0 : Int32) (σ : ovSt) : Prop := (∃ n7, F_X6_takesKey_55 R12 k n7 x1 x2 t0 0 σ)
set_option maxRecDepth 100000 in
set_option maxHeartbeats 4000000 in
theorem V_X6_takesKey_51 {k : Int32 → ovSt → Prop} {R12 : Int32 → ovSt → Prop} (hR12 : ∀ (x1 : Int32) (σ : ovSt), R12 x1 σ → vv_X6_takesKey k 12 [(0, .ref 74), (1, .int x1)] [] σ) (x1 : Int32) (x2 : Int32) (t0 : Int32) (σ : ovSt) (hF : F_X6_takesKey_51 R12 k x1 x2 t0 σ) : vv_X6_takesKey k 51 [(0, .ref 74), (1, .int x1), (2, .int x2)] [.int t0] σ := by
  unfold F_X6_takesKey_51 at hF
  refine ov_istore_n dX6_takesKey_51 (Nat.le_of_ble_eq_true rfl) [(3, .int t0), (0, .ref 74), (1, .int x1), (2, .int x2)] rfl ?_
  refine ov_iconst 0 (by decide) dX6_takesKey_52 ?_
  refine ov_istore dX6_takesKey_53 (Nat.le_of_ble_eq_true rfl) [(4, .int 0), (3, .int t0), (0, .ref 74), (1, .int x1), (2, .int x2)] rfl ?_
  refine ov_pick [2, 3, 4, 1, 0] [(0, .ref 74), (1, .int x1), (2, .int x2), (3, .int t0), (4, .int 0)] rfl ?_
  obtain ⟨n7, hF⟩ := hF
  exact V_X6_takesKey_55 hR12 n7 x1 x2 t0 0 σ hF
def F_X6_takesKey_12 (k : Int32 → ovSt → Prop) : Nat → Int32 → ovSt → Prop
  | 0 => fun _ _ => False
  | n + 1 => fun x1 σ => (if (3 : Int32) ≤ x1 then (k 0 σ) else (vp_in (x1 + 1) 4 ∧ (vp_in x1 4 ∧ (∀ v10 : Int32, v10 = ((σ 83 (Int32.toNatClampNeg (x1 + 1))) - (σ 83 (Int32.toNatClampNeg x1))) → (if v10 = ((σ 74 9) - (σ 74 10)) then (F_X6_takesKey_51 (F_X6_takesKey_12 k n) k x1 v10 1 σ) else (F_X6_takesKey_51 (F_X6_takesKey_12 k n) k x1 v10 0 σ))))))
set_option maxRecDepth 100000 in
set_option maxHeartbeats 4000000 in
theorem V_X6_takesKey_12 {k : Int32 → ovSt → Prop} : ∀ (n : Nat) (x1 : Int32) (σ : ovSt), F_X6_takesKey_12 k n x1 σ → vv_X6_takesKey k 12 [(0, .ref 74), (1, .int x1)] [] σ := by
  intro n
  induction n with
  | zero => intro x1 σ hF; exact hF.elim
  | succ n ih =>
    intro x1 σ hF
    unfold F_X6_takesKey_12 at hF
    refine ov_iload_n dX6_takesKey_12 1 rfl ?_
    refine ov_iconst 3 (by decide) dX6_takesKey_13 ?_
    refine ov_icmp_ge 127 dX6_takesKey_14 (by decide) hF (fun hF => ?_) (fun hF => ?_)
    · refine ov_iconst 0 (by decide) dX6_takesKey_127 ?_
      exact ov_ireturn dX6_takesKey_128 (Nat.le_refl _) (Nat.le_refl _) ⟨rfl, ov_bl0, _, rfl, hF⟩
    · refine ov_aload_n dX6_takesKey_17 0 rfl ?_
      refine ov_getr (T := TX6) (kf := 16) dX6_takesKey_18 qf_X6_35 sh_74 rfl (Nat.le_of_ble_eq_true rfl) rfl (by decide) ?_
      refine ov_iload_n dX6_takesKey_21 1 rfl ?_
      refine ov_iconst 1 (by decide) dX6_takesKey_22 ?_
      refine ov_iadd dX6_takesKey_23 ?_
      have h8 := hF.1
      have hF := hF.2
      refine ov_iaload dX6_takesKey_24 sh_83 h8 ?_
      refine ov_aload_n dX6_takesKey_25 0 rfl ?_
      refine ov_getr (T := TX6) (kf := 16) dX6_takesKey_26 qf_X6_35 sh_74 rfl (Nat.le_of_ble_eq_true rfl) rfl (by decide) ?_
      refine ov_iload_n dX6_takesKey_29 1 rfl ?_
      have h9 := hF.1
      have hF := hF.2
      refine ov_iaload dX6_takesKey_30 sh_83 h9 ?_
      refine ov_isub dX6_takesKey_31 ?_
      refine ov_nmI (fun v10 ev10 => ?_)
      have hF := hF v10 ev10
      refine ov_istore_n dX6_takesKey_32 (Nat.le_of_ble_eq_true rfl) [(2, .int v10), (0, .ref 74), (1, .int x1)] rfl ?_
      refine ov_iload_n dX6_takesKey_33 0 rfl ?_
      refine ov_aload_n dX6_takesKey_34 1 rfl ?_
      refine ov_geti (T := TX6) (kf := 9) dX6_takesKey_35 qf_X6_198 sh_74 rfl (Nat.le_of_ble_eq_true rfl) rfl ?_
      refine ov_aload_n dX6_takesKey_38 1 rfl ?_
      refine ov_geti (T := TX6) (kf := 10) dX6_takesKey_39 qf_X6_201 sh_74 rfl (Nat.le_of_ble_eq_true rfl) rfl ?_
      refine ov_isub dX6_takesKey_42 ?_
      refine ov_icmp_ne 50 dX6_takesKey_43 (by decide) hF (fun hF => ?_) (fun hF => ?_)
      · refine ov_iconst 0 (by decide) dX6_takesKey_50 ?_
        refine ov_pick [1, 2, 0] [(0, .ref 74), (1, .int x1), (2, .int v10)] rfl ?_
        exact V_X6_takesKey_51 ih x1 v10 0 σ hF
      · refine ov_iconst 1 (by decide) dX6_takesKey_46 ?_
        refine ov_goto 51 dX6_takesKey_47 (by decide) ?_
        refine ov_pick [1, 2, 0] [(0, .ref 74), (1, .int x1), (2, .int v10)] rfl ?_
        exact V_X6_takesKey_51 ih x1 v10 1 σ hF
def F_X6_takesKey (σ : ovSt) (k : Int32 → ovSt → Prop) : Prop := (if (σ 74 11) = (1 : Int32) then (∃ n11, F_X6_takesKey_12 k n11 0 σ) else (k 0 σ))
set_option maxRecDepth 100000 in
set_option maxHeartbeats 4000000 in
theorem c_X6_takesKey {σ : ovSt} {k : Int32 → ovSt → Prop} (hF : F_X6_takesKey σ k) : ov_Ct 2 yX6_takesKey cX6_takesKey 5 (some .boolean) ov_S0 [.ref 74] σ (ovKi k) := by
  refine ov_Ct.of (by decide) (Nat.le_of_ble_eq_true rfl) ?_
  unfold F_X6_takesKey at hF
  show vv_X6_takesKey k 0 [(0, .ref 74)] [] σ
  refine ov_aload_n dX6_takesKey_0 0 rfl ?_
  refine ov_geti (T := TX6) (kf := 11) dX6_takesKey_1 qf_X6_207 sh_74 rfl (Nat.le_of_ble_eq_true rfl) rfl ?_
  refine ov_iconst 1 (by decide) dX6_takesKey_4 ?_
  refine ov_icmp_eq 10 dX6_takesKey_5 (by decide) hF (fun hF => ?_) (fun hF => ?_)
  · refine ov_iconst 0 (by decide) dX6_takesKey_10 ?_
    refine ov_istore_n dX6_takesKey_11 (Nat.le_of_ble_eq_true rfl) [(1, .int 0), (0, .ref 74)] rfl ?_
    refine ov_pick [1, 0] [(0, .ref 74), (1, .int 0)] rfl ?_
    obtain ⟨n11, hF⟩ := hF
    exact V_X6_takesKey_12 n11 0 σ hF
  · refine ov_iconst 0 (by decide) dX6_takesKey_8 ?_
    exact ov_ireturn dX6_takesKey_9 (Nat.le_refl _) (Nat.le_refl _) ⟨rfl, ov_bl0, _, rfl, hF⟩
/-! X6_nameOf -/
abbrev vv_X6_nameOf (k : Int32 → ovSt → Prop) (pc : Nat) (L : List (Nat × Value)) (st : List Value) (σ : ovSt) : Prop := ov_V (ovZs 0 yX6_nameOf cX6_nameOf 2) (ovKs (some .int) ov_S0 (ovKi k)) (0, 0) ov_S0 pc L st σ
def F_X6_nameOf_63 (k : Int32 → ovSt → Prop) (t0 : Int32) (σ : ovSt) : Prop := (k t0 σ)
set_option maxRecDepth 100000 in
set_option maxHeartbeats 4000000 in
theorem V_X6_nameOf_63 {k : Int32 → ovSt → Prop} (t0 : Int32) (σ : ovSt) (hF : F_X6_nameOf_63 k t0 σ) : vv_X6_nameOf k 63 [] [.int t0] σ := by
  unfold F_X6_nameOf_63 at hF
  exact ov_ireturn dX6_nameOf_63 (Nat.le_refl _) (Nat.le_refl _) ⟨rfl, trivial, _, rfl, hF⟩
def F_X6_nameOf_85 (k : Int32 → ovSt → Prop) (t0 : Int32) (σ : ovSt) : Prop := (k t0 σ)
set_option maxRecDepth 100000 in
set_option maxHeartbeats 4000000 in
theorem V_X6_nameOf_85 {k : Int32 → ovSt → Prop} (t0 : Int32) (σ : ovSt) (hF : F_X6_nameOf_85 k t0 σ) : vv_X6_nameOf k 85 [] [.int t0] σ := by
  unfold F_X6_nameOf_85 at hF
  exact ov_ireturn dX6_nameOf_85 (Nat.le_refl _) (Nat.le_refl _) ⟨rfl, trivial, _, rfl, hF⟩
def F_X6_nameOf_107 (k : Int32 → ovSt → Prop) (t0 : Int32) (σ : ovSt) : Prop := (k t0 σ)
set_option maxRecDepth 100000 in
set_option maxHeartbeats 4000000 in
theorem V_X6_nameOf_107 {k : Int32 → ovSt → Prop} (t0 : Int32) (σ : ovSt) (hF : F_X6_nameOf_107 k t0 σ) : vv_X6_nameOf k 107 [] [.int t0] σ := by
  unfold F_X6_nameOf_107 at hF
  exact ov_ireturn dX6_nameOf_107 (Nat.le_refl _) (Nat.le_refl _) ⟨rfl, trivial, _, rfl, hF⟩
def F_X6_nameOf (x1 : Int32) (σ : ovSt) (k : Int32 → ovSt → Prop) : Prop := (if (σ 74 14) = 0 then (if x1 = (97 : Int32) then (F_X6_nameOf_63 k 0 σ) else (if x1 = (103 : Int32) then (F_X6_nameOf_63 k 1 σ) else (if x1 = (116 : Int32) then (F_X6_nameOf_63 k 2 σ) else (F_X6_nameOf_63 k (-1) σ)))) else (if (σ 74 14) = 1 then (if x1 = (116 : Int32) then (F_X6_nameOf_85 k 0 σ) else (if x1 = (119 : Int32) then (F_X6_nameOf_85 k 1 σ) else (F_X6_nameOf_85 k (-1) σ))) else (if x1 = (100 : Int32) then (F_X6_nameOf_107 k 0 σ) else (if x1 = (116 : Int32) then (F_X6_nameOf_107 k 1 σ) else (F_X6_nameOf_107 k (-1) σ)))))
set_option maxRecDepth 100000 in
set_option maxHeartbeats 4000000 in
theorem c_X6_nameOf {x1 : Int32} {σ : ovSt} {k : Int32 → ovSt → Prop} (hF : F_X6_nameOf x1 σ k) : ov_Ct 0 yX6_nameOf cX6_nameOf 2 (some .int) ov_S0 [.ref 74, .int x1] σ (ovKi k) := by
  refine ov_Ct.of (by decide) (Nat.le_of_ble_eq_true rfl) ?_
  unfold F_X6_nameOf at hF
  show vv_X6_nameOf k 0 [(0, .ref 74), (1, .int x1)] [] σ
  refine ov_aload_n dX6_nameOf_0 0 rfl ?_
  refine ov_geti (T := TX6) (kf := 14) dX6_nameOf_1 qf_X6_219 sh_74 rfl (Nat.le_of_ble_eq_true rfl) rfl ?_
  refine ov_br hF (fun z1 hF => ?_) (fun z1 hF => ?_)
  · refine ov_lsw 28 32 dX6_nameOf_4 (by decide) (by rw [z1]; decide) (by decide) ?_
    refine ov_iload_n dX6_nameOf_32 1 rfl ?_
    refine ov_bipush 97 (by decide) dX6_nameOf_33 ?_
    refine ov_icmp_ne 42 dX6_nameOf_35 (by decide) hF (fun hF => ?_) (fun hF => ?_)
    · refine ov_iload_n dX6_nameOf_42 1 rfl ?_
      refine ov_bipush 103 (by decide) dX6_nameOf_43 ?_
      refine ov_icmp_ne 52 dX6_nameOf_45 (by decide) hF (fun hF => ?_) (fun hF => ?_)
      · refine ov_iload_n dX6_nameOf_52 1 rfl ?_
        refine ov_bipush 116 (by decide) dX6_nameOf_53 ?_
        refine ov_icmp_ne 62 dX6_nameOf_55 (by decide) hF (fun hF => ?_) (fun hF => ?_)
        · refine ov_iconst (-1) (by decide) dX6_nameOf_62 ?_
          refine ov_pick [] [] rfl ?_
          exact V_X6_nameOf_63 (-1) σ hF
        · refine ov_iconst 2 (by decide) dX6_nameOf_58 ?_
          refine ov_goto 63 dX6_nameOf_59 (by decide) ?_
          refine ov_pick [] [] rfl ?_
          exact V_X6_nameOf_63 2 σ hF
      · refine ov_iconst 1 (by decide) dX6_nameOf_48 ?_
        refine ov_goto 63 dX6_nameOf_49 (by decide) ?_
        refine ov_pick [] [] rfl ?_
        exact V_X6_nameOf_63 1 σ hF
    · refine ov_iconst 0 (by decide) dX6_nameOf_38 ?_
      refine ov_goto 63 dX6_nameOf_39 (by decide) ?_
      refine ov_pick [] [] rfl ?_
      exact V_X6_nameOf_63 0 σ hF
  · refine ov_br hF (fun z2 hF => ?_) (fun z2 hF => ?_)
    · refine ov_lsw 60 64 dX6_nameOf_4 (by decide) (by rw [z2]; decide) (by decide) ?_
      refine ov_iload_n dX6_nameOf_64 1 rfl ?_
      refine ov_bipush 116 (by decide) dX6_nameOf_65 ?_
      refine ov_icmp_ne 74 dX6_nameOf_67 (by decide) hF (fun hF => ?_) (fun hF => ?_)
      · refine ov_iload_n dX6_nameOf_74 1 rfl ?_
        refine ov_bipush 119 (by decide) dX6_nameOf_75 ?_
        refine ov_icmp_ne 84 dX6_nameOf_77 (by decide) hF (fun hF => ?_) (fun hF => ?_)
        · refine ov_iconst (-1) (by decide) dX6_nameOf_84 ?_
          refine ov_pick [] [] rfl ?_
          exact V_X6_nameOf_85 (-1) σ hF
        · refine ov_iconst 1 (by decide) dX6_nameOf_80 ?_
          refine ov_goto 85 dX6_nameOf_81 (by decide) ?_
          refine ov_pick [] [] rfl ?_
          exact V_X6_nameOf_85 1 σ hF
      · refine ov_iconst 0 (by decide) dX6_nameOf_70 ?_
        refine ov_goto 85 dX6_nameOf_71 (by decide) ?_
        refine ov_pick [] [] rfl ?_
        exact V_X6_nameOf_85 0 σ hF
    · refine ov_lsw 82 86 dX6_nameOf_4 (by decide) ((lv_osw (k := 0) z1 rfl).trans ((lv_osw (k := 1) z2 rfl).trans (rfl))) (by decide) ?_
      refine ov_iload_n dX6_nameOf_86 1 rfl ?_
      refine ov_bipush 100 (by decide) dX6_nameOf_87 ?_
      refine ov_icmp_ne 96 dX6_nameOf_89 (by decide) hF (fun hF => ?_) (fun hF => ?_)
      · refine ov_iload_n dX6_nameOf_96 1 rfl ?_
        refine ov_bipush 116 (by decide) dX6_nameOf_97 ?_
        refine ov_icmp_ne 106 dX6_nameOf_99 (by decide) hF (fun hF => ?_) (fun hF => ?_)
        · refine ov_iconst (-1) (by decide) dX6_nameOf_106 ?_
          refine ov_pick [] [] rfl ?_
          exact V_X6_nameOf_107 (-1) σ hF
        · refine ov_iconst 1 (by decide) dX6_nameOf_102 ?_
          refine ov_goto 107 dX6_nameOf_103 (by decide) ?_
          refine ov_pick [] [] rfl ?_
          exact V_X6_nameOf_107 1 σ hF
      · refine ov_iconst 0 (by decide) dX6_nameOf_92 ?_
        refine ov_goto 107 dX6_nameOf_93 (by decide) ?_
        refine ov_pick [] [] rfl ?_
        exact V_X6_nameOf_107 0 σ hF
/-! X6_rank -/
abbrev vv_X6_rank (k : Int32 → ovSt → Prop) (pc : Nat) (L : List (Nat × Value)) (st : List Value) (σ : ovSt) : Prop := ov_V (ovZs 0 yX6_rank cX6_rank 1) (ovKs (some .int) ov_S0 (ovKi k)) (0, 0) ov_S0 pc L st σ
def F_X6_rank_51 (k : Int32 → ovSt → Prop) (t0 : Int32) (σ : ovSt) : Prop := (k t0 σ)
set_option maxRecDepth 100000 in
set_option maxHeartbeats 4000000 in
theorem V_X6_rank_51 {k : Int32 → ovSt → Prop} (t0 : Int32) (σ : ovSt) (hF : F_X6_rank_51 k t0 σ) : vv_X6_rank k 51 [] [.int t0] σ := by
  unfold F_X6_rank_51 at hF
  exact ov_ireturn dX6_rank_51 (Nat.le_refl _) (Nat.le_refl _) ⟨rfl, trivial, _, rfl, hF⟩
def F_X6_rank (x0 : Int32) (σ : ovSt) (k : Int32 → ovSt → Prop) : Prop := (if x0 = ((-1) : Int32) then (F_X6_rank_51 k 1 σ) else (if x0 = ((-2) : Int32) then (F_X6_rank_51 k 2 σ) else (if x0 < ((-5) : Int32) then (if x0 < ((-7) : Int32) then (if x0 < ((-9) : Int32) then (F_X6_rank_51 k 6 σ) else (F_X6_rank_51 k 5 σ)) else (F_X6_rank_51 k 4 σ)) else (F_X6_rank_51 k 3 σ))))
set_option maxRecDepth 100000 in
set_option maxHeartbeats 4000000 in
theorem c_X6_rank {x0 : Int32} {σ : ovSt} {k : Int32 → ovSt → Prop} (hF : F_X6_rank x0 σ k) : ov_Ct 0 yX6_rank cX6_rank 1 (some .int) ov_S0 [.int x0] σ (ovKi k) := by
  refine ov_Ct.of (by decide) (Nat.le_of_ble_eq_true rfl) ?_
  unfold F_X6_rank at hF
  show vv_X6_rank k 0 [(0, .int x0)] [] σ
  refine ov_iload_n dX6_rank_0 0 rfl ?_
  refine ov_iconst (-1) (by decide) dX6_rank_1 ?_
  refine ov_icmp_ne 9 dX6_rank_2 (by decide) hF (fun hF => ?_) (fun hF => ?_)
  · refine ov_iload_n dX6_rank_9 0 rfl ?_
    refine ov_bipush (-2) (by decide) dX6_rank_10 ?_
    refine ov_icmp_ne 19 dX6_rank_12 (by decide) hF (fun hF => ?_) (fun hF => ?_)
    · refine ov_iload_n dX6_rank_19 0 rfl ?_
      refine ov_bipush (-5) (by decide) dX6_rank_20 ?_
      refine ov_icmp_lt 29 dX6_rank_22 (by decide) hF (fun hF => ?_) (fun hF => ?_)
      · refine ov_iload_n dX6_rank_29 0 rfl ?_
        refine ov_bipush (-7) (by decide) dX6_rank_30 ?_
        refine ov_icmp_lt 39 dX6_rank_32 (by decide) hF (fun hF => ?_) (fun hF => ?_)
        · refine ov_iload_n dX6_rank_39 0 rfl ?_
          refine ov_bipush (-9) (by decide) dX6_rank_40 ?_
          refine ov_icmp_lt 49 dX6_rank_42 (by decide) hF (fun hF => ?_) (fun hF => ?_)
          · refine ov_bipush 6 (by decide) dX6_rank_49 ?_
            refine ov_pick [] [] rfl ?_
            exact V_X6_rank_51 6 σ hF
          · refine ov_iconst 5 (by decide) dX6_rank_45 ?_
            refine ov_goto 51 dX6_rank_46 (by decide) ?_
            refine ov_pick [] [] rfl ?_
            exact V_X6_rank_51 5 σ hF
        · refine ov_iconst 4 (by decide) dX6_rank_35 ?_
          refine ov_goto 51 dX6_rank_36 (by decide) ?_
          refine ov_pick [] [] rfl ?_
          exact V_X6_rank_51 4 σ hF
      · refine ov_iconst 3 (by decide) dX6_rank_25 ?_
        refine ov_goto 51 dX6_rank_26 (by decide) ?_
        refine ov_pick [] [] rfl ?_
        exact V_X6_rank_51 3 σ hF
    · refine ov_iconst 2 (by decide) dX6_rank_15 ?_
      refine ov_goto 51 dX6_rank_16 (by decide) ?_
      refine ov_pick [] [] rfl ?_
      exact V_X6_rank_51 2 σ hF
  · refine ov_iconst 1 (by decide) dX6_rank_5 ?_
    refine ov_goto 51 dX6_rank_6 (by decide) ?_
    refine ov_pick [] [] rfl ?_
    exact V_X6_rank_51 1 σ hF
/-! X6_settle -/
abbrev vv_X6_settle (k : ovSt → Prop) (pc : Nat) (L : List (Nat × Value)) (st : List Value) (σ : ovSt) : Prop := ov_V (ovZs 1 yX6_settle cX6_settle 2) (ovKs none ov_S0 (ovKv k)) (0, 0) ov_S0 pc L st σ
def F_X6_settle_82 (k : ovSt → Prop) (σ : ovSt) : Prop := (k σ)
set_option maxRecDepth 100000 in
set_option maxHeartbeats 4000000 in
theorem V_X6_settle_82 {k : ovSt → Prop} (σ : ovSt) (hF : F_X6_settle_82 k σ) : vv_X6_settle k 82 [] [] σ := by
  unfold F_X6_settle_82 at hF
  exact ov_return dX6_settle_82 (Nat.le_refl _) (Nat.le_refl _) ⟨rfl, trivial, rfl, hF⟩
def F_X6_settle_0 (k : ovSt → Prop) : Nat → Int32 → ovSt → Prop
  | 0 => fun _ _ => False
  | n + 1 => fun x1 σ => (if (σ 74 21) ≤ 0 then (F_X6_settle_82 k σ) else (vp_in ((σ 74 21) - 1) 96 ∧ (if (σ 85 (Int32.toNatClampNeg ((σ 74 21) - 1))) = ((-11) : Int32) then (F_X6_settle_82 k σ) else (F_X6_rank (σ 85 (Int32.toNatClampNeg ((σ 74 21) - 1))) σ (fun v2 σ3 => (if v2 < x1 then (F_X6_settle_82 k σ3) else (∀ σ4 : ovSt, σ4 = ov_up σ3 74 21 ((σ3 74 21) - 1) → (vp_in (σ4 74 21) 96 ∧ (vp_in (σ4 74 18) 96 ∧ (∀ σ7 : ovSt, σ7 = ov_up σ4 84 (Int32.toNatClampNeg (σ4 74 18)) (σ4 85 (Int32.toNatClampNeg (σ4 74 21))) → (∀ σ8 : ovSt, σ8 = ov_up σ7 74 18 ((σ7 74 18) + 1) → F_X6_settle_0 k n x1 σ8)))))))))))
set_option maxRecDepth 100000 in
set_option maxHeartbeats 4000000 in
theorem V_X6_settle_0 {k : ovSt → Prop} : ∀ (n : Nat) (x1 : Int32) (σ : ovSt), F_X6_settle_0 k n x1 σ → vv_X6_settle k 0 [(0, .ref 74), (1, .int x1)] [] σ := by
  intro n
  induction n with
  | zero => intro x1 σ hF; exact hF.elim
  | succ n ih =>
    intro x1 σ hF
    unfold F_X6_settle_0 at hF
    refine ov_aload_n dX6_settle_0 0 rfl ?_
    refine ov_geti (T := TX6) (kf := 21) dX6_settle_1 qf_X6_225 sh_74 rfl (Nat.le_of_ble_eq_true rfl) rfl ?_
    refine ov_if_le 82 dX6_settle_4 (by decide) hF (fun hF => ?_) (fun hF => ?_)
    · refine ov_pick [] [] rfl ?_
      exact V_X6_settle_82 σ hF
    · refine ov_aload_n dX6_settle_7 0 rfl ?_
      refine ov_getr (T := TX6) (kf := 20) dX6_settle_8 qf_X6_41 sh_74 rfl (Nat.le_of_ble_eq_true rfl) rfl (by decide) ?_
      refine ov_aload_n dX6_settle_11 0 rfl ?_
      refine ov_geti (T := TX6) (kf := 21) dX6_settle_12 qf_X6_225 sh_74 rfl (Nat.le_of_ble_eq_true rfl) rfl ?_
      refine ov_iconst 1 (by decide) dX6_settle_15 ?_
      refine ov_isub dX6_settle_16 ?_
      have h1 := hF.1
      have hF := hF.2
      refine ov_iaload dX6_settle_17 sh_85 h1 ?_
      refine ov_bipush (-11) (by decide) dX6_settle_18 ?_
      refine ov_icmp_eq 82 dX6_settle_20 (by decide) hF (fun hF => ?_) (fun hF => ?_)
      · refine ov_pick [] [] rfl ?_
        exact V_X6_settle_82 σ hF
      · refine ov_aload_n dX6_settle_23 0 rfl ?_
        refine ov_getr (T := TX6) (kf := 20) dX6_settle_24 qf_X6_41 sh_74 rfl (Nat.le_of_ble_eq_true rfl) rfl (by decide) ?_
        refine ov_aload_n dX6_settle_27 0 rfl ?_
        refine ov_geti (T := TX6) (kf := 21) dX6_settle_28 qf_X6_225 sh_74 rfl (Nat.le_of_ble_eq_true rfl) rfl ?_
        refine ov_iconst 1 (by decide) dX6_settle_31 ?_
        refine ov_isub dX6_settle_32 ?_
        refine ov_iaload dX6_settle_33 sh_85 h1 ?_
        refine ov_callS [.int (σ 85 (Int32.toNatClampNeg ((σ 74 21) - 1)))] dX6_settle_34 (c_X6_rank hF) (Nat.le_of_ble_eq_true rfl) (Nat.le_of_ble_eq_true rfl) lk_X6_228 (Nat.le_of_ble_eq_true rfl) (Nat.le_refl _) (Nat.le_refl _) (fun rr σ3 hF => ?_)
        obtain ⟨v2, rfl, hF⟩ := hF
        show vv_X6_settle k 37 [(0, .ref 74), (1, .int x1)] [.int v2] σ3
        refine ov_iload_n dX6_settle_37 1 rfl ?_
        refine ov_icmp_lt 82 dX6_settle_38 (by decide) hF (fun hF => ?_) (fun hF => ?_)
        · refine ov_pick [] [] rfl ?_
          exact V_X6_settle_82 σ3 hF
        · refine ov_aload_n dX6_settle_41 0 rfl ?_
          refine ov_dup rfl dX6_settle_42 ?_
          refine ov_geti (T := TX6) (kf := 21) dX6_settle_43 qf_X6_225 sh_74 rfl (Nat.le_of_ble_eq_true rfl) rfl ?_
          refine ov_iconst 1 (by decide) dX6_settle_46 ?_
          refine ov_isub dX6_settle_47 ?_
          refine ov_puti (T := TX6) (kf := 21) dX6_settle_48 qf_X6_225 sh_74 rfl (Nat.le_of_ble_eq_true rfl) rfl rfl (by decide +kernel) ?_
          refine ov_nmS (fun σ4 es4 => ?_)
          have hF := hF σ4 es4
          refine ov_aload_n dX6_settle_51 0 rfl ?_
          refine ov_getr (T := TX6) (kf := 17) dX6_settle_52 qf_X6_38 sh_74 rfl (Nat.le_of_ble_eq_true rfl) rfl (by decide) ?_
          refine ov_aload_n dX6_settle_55 0 rfl ?_
          refine ov_geti (T := TX6) (kf := 18) dX6_settle_56 qf_X6_231 sh_74 rfl (Nat.le_of_ble_eq_true rfl) rfl ?_
          refine ov_aload_n dX6_settle_59 0 rfl ?_
          refine ov_getr (T := TX6) (kf := 20) dX6_settle_60 qf_X6_41 sh_74 rfl (Nat.le_of_ble_eq_true rfl) rfl (by decide) ?_
          refine ov_aload_n dX6_settle_63 0 rfl ?_
          refine ov_geti (T := TX6) (kf := 21) dX6_settle_64 qf_X6_225 sh_74 rfl (Nat.le_of_ble_eq_true rfl) rfl ?_
          have h5 := hF.1
          have hF := hF.2
          refine ov_iaload dX6_settle_67 sh_85 h5 ?_
          have h6 := hF.1
          have hF := hF.2
          refine ov_iastore dX6_settle_68 sh_84 h6 ?_
          refine ov_nmS (fun σ7 es7 => ?_)
          have hF := hF σ7 es7
          refine ov_aload_n dX6_settle_69 0 rfl ?_
          refine ov_dup rfl dX6_settle_70 ?_
          refine ov_geti (T := TX6) (kf := 18) dX6_settle_71 qf_X6_231 sh_74 rfl (Nat.le_of_ble_eq_true rfl) rfl ?_
          refine ov_iconst 1 (by decide) dX6_settle_74 ?_
          refine ov_iadd dX6_settle_75 ?_
          refine ov_puti (T := TX6) (kf := 18) dX6_settle_76 qf_X6_231 sh_74 rfl (Nat.le_of_ble_eq_true rfl) rfl rfl (by decide +kernel) ?_
          refine ov_nmS (fun σ8 es8 => ?_)
          have hF := hF σ8 es8
          refine ov_goto 0 dX6_settle_79 (by decide) ?_
          exact ih x1 σ8 hF
def F_X6_settle (x1 : Int32) (σ : ovSt) (k : ovSt → Prop) : Prop := (∃ n9, F_X6_settle_0 k n9 x1 σ)
set_option maxRecDepth 100000 in
set_option maxHeartbeats 4000000 in
theorem c_X6_settle {x1 : Int32} {σ : ovSt} {k : ovSt → Prop} (hF : F_X6_settle x1 σ k) : ov_Ct 1 yX6_settle cX6_settle 2 none ov_S0 [.ref 74, .int x1] σ (ovKv k) := by
  refine ov_Ct.of (by decide) (Nat.le_of_ble_eq_true rfl) ?_
  unfold F_X6_settle at hF
  show vv_X6_settle k 0 [(0, .ref 74), (1, .int x1)] [] σ
  obtain ⟨n9, hF⟩ := hF
  exact V_X6_settle_0 n9 x1 σ hF
/-! X6_signHere -/
abbrev vv_X6_signHere (k : Int32 → ovSt → Prop) (pc : Nat) (L : List (Nat × Value)) (st : List Value) (σ : ovSt) : Prop := ov_V (ovZs 0 yX6_signHere cX6_signHere 1) (ovKs (some .int) ov_S0 (ovKi k)) (0, 0) ov_S0 pc L st σ
def F_X6_signHere (σ : ovSt) (k : Int32 → ovSt → Prop) : Prop := (if (σ 74 11) = (3 : Int32) then (if (σ 74 12) = 38 then (k (-2) σ) else (if (σ 74 12) = 42 then (k (-8) σ) else (if (σ 74 12) = 43 then (k (-6) σ) else (if (σ 74 12) = 45 then (k (-7) σ) else (if (σ 74 12) = 47 then (k (-9) σ) else (if (σ 74 12) = 60 then (k (-3) σ) else (if (σ 74 12) = 61 then (k (-4) σ) else (if (σ 74 12) = 62 then (k (-5) σ) else (if (σ 74 12) = 124 then (k (-1) σ) else (k 0 σ)))))))))) else (k 0 σ))
set_option maxRecDepth 100000 in
set_option maxHeartbeats 4000000 in
theorem c_X6_signHere {σ : ovSt} {k : Int32 → ovSt → Prop} (hF : F_X6_signHere σ k) : ov_Ct 0 yX6_signHere cX6_signHere 1 (some .int) ov_S0 [.ref 74] σ (ovKi k) := by
  refine ov_Ct.of (by decide) (Nat.le_of_ble_eq_true rfl) ?_
  unfold F_X6_signHere at hF
  show vv_X6_signHere k 0 [(0, .ref 74)] [] σ
  refine ov_aload_n dX6_signHere_0 0 rfl ?_
  refine ov_geti (T := TX6) (kf := 11) dX6_signHere_1 qf_X6_207 sh_74 rfl (Nat.le_of_ble_eq_true rfl) rfl ?_
  refine ov_iconst 3 (by decide) dX6_signHere_4 ?_
  refine ov_icmp_eq 10 dX6_signHere_5 (by decide) hF (fun hF => ?_) (fun hF => ?_)
  · refine ov_aload_n dX6_signHere_10 0 rfl ?_
    refine ov_geti (T := TX6) (kf := 12) dX6_signHere_11 qf_X6_213 sh_74 rfl (Nat.le_of_ble_eq_true rfl) rfl ?_
    refine ov_br hF (fun z1 hF => ?_) (fun z1 hF => ?_)
    · refine ov_lsw 84 98 dX6_signHere_14 (by decide) (by rw [z1]; decide) (by decide) ?_
      refine ov_bipush (-2) (by decide) dX6_signHere_98 ?_
      exact ov_ireturn dX6_signHere_100 (Nat.le_refl _) (Nat.le_refl _) ⟨rfl, trivial, _, rfl, hF⟩
    · refine ov_br hF (fun z2 hF => ?_) (fun z2 hF => ?_)
      · refine ov_lsw 102 116 dX6_signHere_14 (by decide) (by rw [z2]; decide) (by decide) ?_
        refine ov_bipush (-8) (by decide) dX6_signHere_116 ?_
        exact ov_ireturn dX6_signHere_118 (Nat.le_refl _) (Nat.le_refl _) ⟨rfl, trivial, _, rfl, hF⟩
      · refine ov_br hF (fun z3 hF => ?_) (fun z3 hF => ?_)
        · refine ov_lsw 96 110 dX6_signHere_14 (by decide) (by rw [z3]; decide) (by decide) ?_
          refine ov_bipush (-6) (by decide) dX6_signHere_110 ?_
          exact ov_ireturn dX6_signHere_112 (Nat.le_refl _) (Nat.le_refl _) ⟨rfl, trivial, _, rfl, hF⟩
        · refine ov_br hF (fun z4 hF => ?_) (fun z4 hF => ?_)
          · refine ov_lsw 99 113 dX6_signHere_14 (by decide) (by rw [z4]; decide) (by decide) ?_
            refine ov_bipush (-7) (by decide) dX6_signHere_113 ?_
            exact ov_ireturn dX6_signHere_115 (Nat.le_refl _) (Nat.le_refl _) ⟨rfl, trivial, _, rfl, hF⟩
          · refine ov_br hF (fun z5 hF => ?_) (fun z5 hF => ?_)
            · refine ov_lsw 105 119 dX6_signHere_14 (by decide) (by rw [z5]; decide) (by decide) ?_
              refine ov_bipush (-9) (by decide) dX6_signHere_119 ?_
              exact ov_ireturn dX6_signHere_121 (Nat.le_refl _) (Nat.le_refl _) ⟨rfl, trivial, _, rfl, hF⟩
            · refine ov_br hF (fun z6 hF => ?_) (fun z6 hF => ?_)
              · refine ov_lsw 87 101 dX6_signHere_14 (by decide) (by rw [z6]; decide) (by decide) ?_
                refine ov_bipush (-3) (by decide) dX6_signHere_101 ?_
                exact ov_ireturn dX6_signHere_103 (Nat.le_refl _) (Nat.le_refl _) ⟨rfl, trivial, _, rfl, hF⟩
              · refine ov_br hF (fun z7 hF => ?_) (fun z7 hF => ?_)
                · refine ov_lsw 90 104 dX6_signHere_14 (by decide) (by rw [z7]; decide) (by decide) ?_
                  refine ov_bipush (-4) (by decide) dX6_signHere_104 ?_
                  exact ov_ireturn dX6_signHere_106 (Nat.le_refl _) (Nat.le_refl _) ⟨rfl, trivial, _, rfl, hF⟩
                · refine ov_br hF (fun z8 hF => ?_) (fun z8 hF => ?_)
                  · refine ov_lsw 93 107 dX6_signHere_14 (by decide) (by rw [z8]; decide) (by decide) ?_
                    refine ov_bipush (-5) (by decide) dX6_signHere_107 ?_
                    exact ov_ireturn dX6_signHere_109 (Nat.le_refl _) (Nat.le_refl _) ⟨rfl, trivial, _, rfl, hF⟩
                  · refine ov_br hF (fun z9 hF => ?_) (fun z9 hF => ?_)
                    · refine ov_lsw 82 96 dX6_signHere_14 (by decide) (by rw [z9]; decide) (by decide) ?_
                      refine ov_iconst (-1) (by decide) dX6_signHere_96 ?_
                      exact ov_ireturn dX6_signHere_97 (Nat.le_refl _) (Nat.le_refl _) ⟨rfl, trivial, _, rfl, hF⟩
                    · refine ov_lsw 108 122 dX6_signHere_14 (by decide) ((lv_osw (k := 38) z1 rfl).trans ((lv_osw (k := 42) z2 rfl).trans ((lv_osw (k := 43) z3 rfl).trans ((lv_osw (k := 45) z4 rfl).trans ((lv_osw (k := 47) z5 rfl).trans ((lv_osw (k := 60) z6 rfl).trans ((lv_osw (k := 61) z7 rfl).trans ((lv_osw (k := 62) z8 rfl).trans ((lv_osw (k := 124) z9 rfl).trans (rfl)))))))))) (by decide) ?_
                      refine ov_iconst 0 (by decide) dX6_signHere_122 ?_
                      exact ov_ireturn dX6_signHere_123 (Nat.le_refl _) (Nat.le_refl _) ⟨rfl, trivial, _, rfl, hF⟩
  · refine ov_iconst 0 (by decide) dX6_signHere_8 ?_
    exact ov_ireturn dX6_signHere_9 (Nat.le_refl _) (Nat.le_refl _) ⟨rfl, trivial, _, rfl, hF⟩
/-! X6_takesPart -/
abbrev vv_X6_takesPart (k : Int32 → ovSt → Prop) (pc : Nat) (L : List (Nat × Value)) (st : List Value) (σ : ovSt) : Prop := ov_V (ovZs 2 yX6_takesPart cX6_takesPart 2) (ovKs (some .boolean) ov_S0 (ovKi k)) (0, 0) ov_S0 pc L st σ
def F_X6_takesPart_87 (k : Int32 → ovSt → Prop) (t0 : Int32) (t1 : Int32) (σ : ovSt) : Prop := (vp_in t1 96 ∧ (∀ σ2 : ovSt, σ2 = ov_up σ 84 (Int32.toNatClampNeg t1) t0 → (∀ σ3 : ovSt, σ3 = ov_up σ2 74 18 ((σ2 74 18) + 1) → (∀ σ4 : ovSt, σ4 = ov_up σ3 74 19 ((σ3 74 19) + 1) → (F_X6_settle 6 σ4 (fun σ6 => (F_X6_go σ6 (fun σ8 => (k 1 σ8)))))))))
set_option maxRecDepth 100000 in
set_option maxHeartbeats 4000000 in
theorem V_X6_takesPart_87 {k : Int32 → ovSt → Prop} (t0 : Int32) (t1 : Int32) (σ : ovSt) (hF : F_X6_takesPart_87 k t0 t1 σ) : vv_X6_takesPart k 87 [(0, .ref 74)] [.int t0, .int t1, .ref 84] σ := by
  unfold F_X6_takesPart_87 at hF
  have h1 := hF.1
  have hF := hF.2
  refine ov_iastore dX6_takesPart_87 sh_84 h1 ?_
  refine ov_nmS (fun σ2 es2 => ?_)
  have hF := hF σ2 es2
  refine ov_aload_n dX6_takesPart_88 0 rfl ?_
  refine ov_dup rfl dX6_takesPart_89 ?_
  refine ov_geti (T := TX6) (kf := 18) dX6_takesPart_90 qf_X6_231 sh_74 rfl (Nat.le_of_ble_eq_true rfl) rfl ?_
  refine ov_iconst 1 (by decide) dX6_takesPart_93 ?_
  refine ov_iadd dX6_takesPart_94 ?_
  refine ov_puti (T := TX6) (kf := 18) dX6_takesPart_95 qf_X6_231 sh_74 rfl (Nat.le_of_ble_eq_true rfl) rfl rfl (by decide +kernel) ?_
  refine ov_nmS (fun σ3 es3 => ?_)
  have hF := hF σ3 es3
  refine ov_aload_n dX6_takesPart_98 0 rfl ?_
  refine ov_dup rfl dX6_takesPart_99 ?_
  refine ov_geti (T := TX6) (kf := 19) dX6_takesPart_100 qf_X6_237 sh_74 rfl (Nat.le_of_ble_eq_true rfl) rfl ?_
  refine ov_iconst 1 (by decide) dX6_takesPart_103 ?_
  refine ov_iadd dX6_takesPart_104 ?_
  refine ov_puti (T := TX6) (kf := 19) dX6_takesPart_105 qf_X6_237 sh_74 rfl (Nat.le_of_ble_eq_true rfl) rfl rfl (by decide +kernel) ?_
  refine ov_nmS (fun σ4 es4 => ?_)
  have hF := hF σ4 es4
  refine ov_aload_n dX6_takesPart_108 0 rfl ?_
  refine ov_bipush 6 (by decide) dX6_takesPart_109 ?_
  refine ov_callV [.int 6] dX6_takesPart_111 (c_X6_settle hF) (Nat.le_of_ble_eq_true rfl) (Nat.le_of_ble_eq_true rfl) lk_X6_240 sh_74 rfl (Nat.le_of_ble_eq_true rfl) (Nat.le_refl _) (Nat.le_refl _) (fun rr σ6 hF => ?_)
  obtain ⟨rfl, hF⟩ := hF
  show vv_X6_takesPart k 114 [(0, .ref 74)] [] σ6
  refine ov_aload_n dX6_takesPart_114 0 rfl ?_
  refine ov_callV [] dX6_takesPart_115 (c_X6_go hF) (Nat.le_of_ble_eq_true rfl) (Nat.le_of_ble_eq_true rfl) lk_X6_222 sh_74 rfl (Nat.le_of_ble_eq_true rfl) (Nat.le_refl _) (Nat.le_refl _) (fun rr σ8 hF => ?_)
  obtain ⟨rfl, hF⟩ := hF
  show vv_X6_takesPart k 118 [(0, .ref 74)] [] σ8
  refine ov_iconst 1 (by decide) dX6_takesPart_118 ?_
  exact ov_ireturn dX6_takesPart_119 (Nat.le_refl _) (Nat.le_refl _) ⟨rfl, ov_bl1, _, rfl, hF⟩
def F_X6_takesPart_52 (k : Int32 → ovSt → Prop) (σ : ovSt) : Prop := (if (σ 74 11) = (2 : Int32) then (F_X6_takesPart_87 k (σ 74 12) (σ 74 18) σ) else (F_X6_nameOf (σ 74 12) σ (fun v9 σ10 => (F_X6_takesPart_87 k (10000 + v9) (σ 74 18) σ10))))
set_option maxRecDepth 100000 in
set_option maxHeartbeats 4000000 in
theorem V_X6_takesPart_52 {k : Int32 → ovSt → Prop} (σ : ovSt) (hF : F_X6_takesPart_52 k σ) : vv_X6_takesPart k 52 [(0, .ref 74)] [] σ := by
  unfold F_X6_takesPart_52 at hF
  refine ov_aload_n dX6_takesPart_52 0 rfl ?_
  refine ov_getr (T := TX6) (kf := 17) dX6_takesPart_53 qf_X6_38 sh_74 rfl (Nat.le_of_ble_eq_true rfl) rfl (by decide) ?_
  refine ov_aload_n dX6_takesPart_56 0 rfl ?_
  refine ov_geti (T := TX6) (kf := 18) dX6_takesPart_57 qf_X6_231 sh_74 rfl (Nat.le_of_ble_eq_true rfl) rfl ?_
  refine ov_aload_n dX6_takesPart_60 0 rfl ?_
  refine ov_geti (T := TX6) (kf := 11) dX6_takesPart_61 qf_X6_207 sh_74 rfl (Nat.le_of_ble_eq_true rfl) rfl ?_
  refine ov_iconst 2 (by decide) dX6_takesPart_64 ?_
  refine ov_icmp_ne 75 dX6_takesPart_65 (by decide) hF (fun hF => ?_) (fun hF => ?_)
  · refine ov_sipush 10000 (by decide) dX6_takesPart_75 ?_
    refine ov_aload_n dX6_takesPart_78 0 rfl ?_
    refine ov_aload_n dX6_takesPart_79 0 rfl ?_
    refine ov_geti (T := TX6) (kf := 12) dX6_takesPart_80 qf_X6_213 sh_74 rfl (Nat.le_of_ble_eq_true rfl) rfl ?_
    refine ov_callV [.int (σ 74 12)] dX6_takesPart_83 (c_X6_nameOf hF) (Nat.le_of_ble_eq_true rfl) (Nat.le_of_ble_eq_true rfl) lk_X6_234 sh_74 rfl (Nat.le_of_ble_eq_true rfl) (Nat.le_refl _) (Nat.le_refl _) (fun rr σ10 hF => ?_)
    obtain ⟨v9, rfl, hF⟩ := hF
    show vv_X6_takesPart k 86 [(0, .ref 74)] [.int v9, .int 10000, .int (σ 74 18), .ref 84] σ10
    refine ov_iadd dX6_takesPart_86 ?_
    exact V_X6_takesPart_87 (10000 + v9) (σ 74 18) σ10 hF
  · refine ov_aload_n dX6_takesPart_68 0 rfl ?_
    refine ov_geti (T := TX6) (kf := 12) dX6_takesPart_69 qf_X6_213 sh_74 rfl (Nat.le_of_ble_eq_true rfl) rfl ?_
    refine ov_goto 87 dX6_takesPart_72 (by decide) ?_
    exact V_X6_takesPart_87 (σ 74 12) (σ 74 18) σ hF
def F_X6_takesPart_37 (k : Int32 → ovSt → Prop) (t0 : Int32) (σ : ovSt) : Prop := (if (σ 74 11) = (2 : Int32) then (F_X6_takesPart_52 k σ) else (if t0 = 0 then (k 0 σ) else (F_X6_takesPart_52 k σ)))
set_option maxRecDepth 100000 in
set_option maxHeartbeats 4000000 in
theorem V_X6_takesPart_37 {k : Int32 → ovSt → Prop} (t0 : Int32) (σ : ovSt) (hF : F_X6_takesPart_37 k t0 σ) : vv_X6_takesPart k 37 [(0, .ref 74)] [.int t0] σ := by
  unfold F_X6_takesPart_37 at hF
  refine ov_istore_n dX6_takesPart_37 (Nat.le_of_ble_eq_true rfl) [(1, .int t0), (0, .ref 74)] rfl ?_
  refine ov_aload_n dX6_takesPart_38 1 rfl ?_
  refine ov_geti (T := TX6) (kf := 11) dX6_takesPart_39 qf_X6_207 sh_74 rfl (Nat.le_of_ble_eq_true rfl) rfl ?_
  refine ov_iconst 2 (by decide) dX6_takesPart_42 ?_
  refine ov_icmp_eq 52 dX6_takesPart_43 (by decide) hF (fun hF => ?_) (fun hF => ?_)
  · refine ov_pick [1] [(0, .ref 74)] rfl ?_
    exact V_X6_takesPart_52 σ hF
  · refine ov_iload_n dX6_takesPart_46 0 rfl ?_
    refine ov_if_ne 52 dX6_takesPart_47 (by decide) hF (fun hF => ?_) (fun hF => ?_)
    · refine ov_pick [1] [(0, .ref 74)] rfl ?_
      exact V_X6_takesPart_52 σ hF
    · refine ov_iconst 0 (by decide) dX6_takesPart_50 ?_
      exact ov_ireturn dX6_takesPart_51 (Nat.le_refl _) (Nat.le_refl _) ⟨rfl, ov_bl0, _, rfl, hF⟩
def F_X6_takesPart_36 (k : Int32 → ovSt → Prop) (σ : ovSt) : Prop := (F_X6_takesPart_37 k 0 σ)
set_option maxRecDepth 100000 in
set_option maxHeartbeats 4000000 in
theorem V_X6_takesPart_36 {k : Int32 → ovSt → Prop} (σ : ovSt) (hF : F_X6_takesPart_36 k σ) : vv_X6_takesPart k 36 [(0, .ref 74)] [] σ := by
  unfold F_X6_takesPart_36 at hF
  refine ov_iconst 0 (by decide) dX6_takesPart_36 ?_
  exact V_X6_takesPart_37 0 σ hF
def F_X6_takesPart (σ : ovSt) (k : Int32 → ovSt → Prop) : Prop := (if (σ 74 11) = (1 : Int32) then (if ((σ 74 9) - (σ 74 10)) = (1 : Int32) then (F_X6_nameOf (σ 74 12) σ (fun v11 σ12 => (if v11 < 0 then (F_X6_takesPart_36 k σ12) else (F_X6_takesPart_37 k 1 σ12)))) else (F_X6_takesPart_36 k σ)) else (F_X6_takesPart_36 k σ))
set_option maxRecDepth 100000 in
set_option maxHeartbeats 4000000 in
theorem c_X6_takesPart {σ : ovSt} {k : Int32 → ovSt → Prop} (hF : F_X6_takesPart σ k) : ov_Ct 2 yX6_takesPart cX6_takesPart 2 (some .boolean) ov_S0 [.ref 74] σ (ovKi k) := by
  refine ov_Ct.of (by decide) (Nat.le_of_ble_eq_true rfl) ?_
  unfold F_X6_takesPart at hF
  show vv_X6_takesPart k 0 [(0, .ref 74)] [] σ
  refine ov_aload_n dX6_takesPart_0 0 rfl ?_
  refine ov_geti (T := TX6) (kf := 11) dX6_takesPart_1 qf_X6_207 sh_74 rfl (Nat.le_of_ble_eq_true rfl) rfl ?_
  refine ov_iconst 1 (by decide) dX6_takesPart_4 ?_
  refine ov_icmp_ne 36 dX6_takesPart_5 (by decide) hF (fun hF => ?_) (fun hF => ?_)
  · exact V_X6_takesPart_36 σ hF
  · refine ov_aload_n dX6_takesPart_8 0 rfl ?_
    refine ov_geti (T := TX6) (kf := 9) dX6_takesPart_9 qf_X6_198 sh_74 rfl (Nat.le_of_ble_eq_true rfl) rfl ?_
    refine ov_aload_n dX6_takesPart_12 0 rfl ?_
    refine ov_geti (T := TX6) (kf := 10) dX6_takesPart_13 qf_X6_201 sh_74 rfl (Nat.le_of_ble_eq_true rfl) rfl ?_
    refine ov_isub dX6_takesPart_16 ?_
    refine ov_iconst 1 (by decide) dX6_takesPart_17 ?_
    refine ov_icmp_ne 36 dX6_takesPart_18 (by decide) hF (fun hF => ?_) (fun hF => ?_)
    · exact V_X6_takesPart_36 σ hF
    · refine ov_aload_n dX6_takesPart_21 0 rfl ?_
      refine ov_aload_n dX6_takesPart_22 0 rfl ?_
      refine ov_geti (T := TX6) (kf := 12) dX6_takesPart_23 qf_X6_213 sh_74 rfl (Nat.le_of_ble_eq_true rfl) rfl ?_
      refine ov_callV [.int (σ 74 12)] dX6_takesPart_26 (c_X6_nameOf hF) (Nat.le_of_ble_eq_true rfl) (Nat.le_of_ble_eq_true rfl) lk_X6_234 sh_74 rfl (Nat.le_of_ble_eq_true rfl) (Nat.le_refl _) (Nat.le_refl _) (fun rr σ12 hF => ?_)
      obtain ⟨v11, rfl, hF⟩ := hF
      show vv_X6_takesPart k 29 [(0, .ref 74)] [.int v11] σ12
      refine ov_if_lt 36 dX6_takesPart_29 (by decide) hF (fun hF => ?_) (fun hF => ?_)
      · exact V_X6_takesPart_36 σ12 hF
      · refine ov_iconst 1 (by decide) dX6_takesPart_32 ?_
        refine ov_goto 37 dX6_takesPart_33 (by decide) ?_
        exact V_X6_takesPart_37 1 σ12 hF
/-! X6_notsOpen -/
abbrev vv_X6_notsOpen (k : Int32 → ovSt → Prop) (pc : Nat) (L : List (Nat × Value)) (st : List Value) (σ : ovSt) : Prop := ov_V (ovZs 0 yX6_notsOpen cX6_notsOpen 3) (ovKs (some .int) ov_S0 (ovKi k)) (0, 0) ov_S0 pc L st σ
def F_X6_notsOpen_29 (R4 : Int32 → Int32 → ovSt → Prop) (k : Int32 → ovSt → Prop) (x2 : Int32) (t0 : Int32) (t1 : Int32) (σ : ovSt) : Prop := (∀ v1 : Int32, v1 = (t1 + t0) → R4 v1 (x2 + 1) σ)
set_option maxRecDepth 100000 in
set_option maxHeartbeats 4000000 in
theorem V_X6_notsOpen_29 {k : Int32 → ovSt → Prop} {R4 : Int32 → Int32 → ovSt → Prop} (hR4 : ∀ (x1 : Int32) (x2 : Int32) (σ : ovSt), R4 x1 x2 σ → vv_X6_notsOpen k 4 [(0, .ref 74), (1, .int x1), (2, .int x2)] [] σ) (x2 : Int32) (t0 : Int32) (t1 : Int32) (σ : ovSt) (hF : F_X6_notsOpen_29 R4 k x2 t0 t1 σ) : vv_X6_notsOpen k 29 [(0, .ref 74), (2, .int x2)] [.int t0, .int t1] σ := by
  unfold F_X6_notsOpen_29 at hF
  refine ov_iadd dX6_notsOpen_29 ?_
  refine ov_nmI (fun v1 ev1 => ?_)
  have hF := hF v1 ev1
  refine ov_istore_n dX6_notsOpen_30 (Nat.le_of_ble_eq_true rfl) [(1, .int v1), (0, .ref 74), (2, .int x2)] rfl ?_
  refine ov_iinc dX6_notsOpen_31 2 rfl (x2 + 1) rfl (Nat.le_of_ble_eq_true rfl) [(2, .int (x2 + 1)), (1, .int v1), (0, .ref 74)] rfl ?_
  refine ov_goto 4 dX6_notsOpen_34 (by decide) ?_
  refine ov_pick [2, 1, 0] [(0, .ref 74), (1, .int v1), (2, .int (x2 + 1))] rfl ?_
  exact hR4 v1 (x2 + 1) σ hF
def F_X6_notsOpen_4 (k : Int32 → ovSt → Prop) : Nat → Int32 → Int32 → ovSt → Prop
  | 0 => fun _ _ _ => False
  | n + 1 => fun x1 x2 σ => (if (σ 74 21) ≤ x2 then (k x1 σ) else (vp_in x2 96 ∧ (if (σ 85 (Int32.toNatClampNeg x2)) = ((-10) : Int32) then (F_X6_notsOpen_29 (F_X6_notsOpen_4 k n) k x2 1 x1 σ) else (F_X6_notsOpen_29 (F_X6_notsOpen_4 k n) k x2 0 x1 σ))))
set_option maxRecDepth 100000 in
set_option maxHeartbeats 4000000 in
theorem V_X6_notsOpen_4 {k : Int32 → ovSt → Prop} : ∀ (n : Nat) (x1 : Int32) (x2 : Int32) (σ : ovSt), F_X6_notsOpen_4 k n x1 x2 σ → vv_X6_notsOpen k 4 [(0, .ref 74), (1, .int x1), (2, .int x2)] [] σ := by
  intro n
  induction n with
  | zero => intro x1 x2 σ hF; exact hF.elim
  | succ n ih =>
    intro x1 x2 σ hF
    unfold F_X6_notsOpen_4 at hF
    refine ov_iload_n dX6_notsOpen_4 2 rfl ?_
    refine ov_aload_n dX6_notsOpen_5 0 rfl ?_
    refine ov_geti (T := TX6) (kf := 21) dX6_notsOpen_6 qf_X6_225 sh_74 rfl (Nat.le_of_ble_eq_true rfl) rfl ?_
    refine ov_icmp_ge 37 dX6_notsOpen_9 (by decide) hF (fun hF => ?_) (fun hF => ?_)
    · refine ov_iload_n dX6_notsOpen_37 1 rfl ?_
      exact ov_ireturn dX6_notsOpen_38 (Nat.le_refl _) (Nat.le_refl _) ⟨rfl, trivial, _, rfl, hF⟩
    · refine ov_iload_n dX6_notsOpen_12 1 rfl ?_
      refine ov_aload_n dX6_notsOpen_13 0 rfl ?_
      refine ov_getr (T := TX6) (kf := 20) dX6_notsOpen_14 qf_X6_41 sh_74 rfl (Nat.le_of_ble_eq_true rfl) rfl (by decide) ?_
      refine ov_iload_n dX6_notsOpen_17 2 rfl ?_
      have h2 := hF.1
      have hF := hF.2
      refine ov_iaload dX6_notsOpen_18 sh_85 h2 ?_
      refine ov_bipush (-10) (by decide) dX6_notsOpen_19 ?_
      refine ov_icmp_ne 28 dX6_notsOpen_21 (by decide) hF (fun hF => ?_) (fun hF => ?_)
      · refine ov_iconst 0 (by decide) dX6_notsOpen_28 ?_
        refine ov_pick [0, 2] [(0, .ref 74), (2, .int x2)] rfl ?_
        exact V_X6_notsOpen_29 ih x2 0 x1 σ hF
      · refine ov_iconst 1 (by decide) dX6_notsOpen_24 ?_
        refine ov_goto 29 dX6_notsOpen_25 (by decide) ?_
        refine ov_pick [0, 2] [(0, .ref 74), (2, .int x2)] rfl ?_
        exact V_X6_notsOpen_29 ih x2 1 x1 σ hF
def F_X6_notsOpen (σ : ovSt) (k : Int32 → ovSt → Prop) : Prop := (∃ n3, F_X6_notsOpen_4 k n3 0 0 σ)
set_option maxRecDepth 100000 in
set_option maxHeartbeats 4000000 in
theorem c_X6_notsOpen {σ : ovSt} {k : Int32 → ovSt → Prop} (hF : F_X6_notsOpen σ k) : ov_Ct 0 yX6_notsOpen cX6_notsOpen 3 (some .int) ov_S0 [.ref 74] σ (ovKi k) := by
  refine ov_Ct.of (by decide) (Nat.le_of_ble_eq_true rfl) ?_
  unfold F_X6_notsOpen at hF
  show vv_X6_notsOpen k 0 [(0, .ref 74)] [] σ
  refine ov_iconst 0 (by decide) dX6_notsOpen_0 ?_
  refine ov_istore_n dX6_notsOpen_1 (Nat.le_of_ble_eq_true rfl) [(1, .int 0), (0, .ref 74)] rfl ?_
  refine ov_iconst 0 (by decide) dX6_notsOpen_2 ?_
  refine ov_istore_n dX6_notsOpen_3 (Nat.le_of_ble_eq_true rfl) [(2, .int 0), (1, .int 0), (0, .ref 74)] rfl ?_
  refine ov_pick [2, 1, 0] [(0, .ref 74), (1, .int 0), (2, .int 0)] rfl ?_
  obtain ⟨n3, hF⟩ := hF
  exact V_X6_notsOpen_4 n3 0 0 σ hF
/-! X6_takesE -/
abbrev vv_X6_takesE (k : Int32 → ovSt → Prop) (pc : Nat) (L : List (Nat × Value)) (st : List Value) (σ : ovSt) : Prop := ov_V (ovZs 3 yX6_takesE cX6_takesE 5) (ovKs (some .boolean) ov_S0 (ovKi k)) (0, 0) ov_S0 pc L st σ
def F_X6_takesE_172 (R28 : Int32 → Int32 → Int32 → ovSt → Prop) (k : Int32 → ovSt → Prop) (x1 : Int32) (x3 : Int32) (σ : ovSt) : Prop := (F_X6_notsOpen σ (fun v1 σ2 => R28 x1 v1 x3 σ2))
set_option maxRecDepth 100000 in
set_option maxHeartbeats 4000000 in
theorem V_X6_takesE_172 {k : Int32 → ovSt → Prop} {R28 : Int32 → Int32 → Int32 → ovSt → Prop} (hR28 : ∀ (x1 : Int32) (x2 : Int32) (x3 : Int32) (σ : ovSt), R28 x1 x2 x3 σ → vv_X6_takesE k 28 [(0, .ref 74), (1, .int x1), (2, .int x2), (3, .int x3)] [] σ) (x1 : Int32) (x3 : Int32) (σ : ovSt) (hF : F_X6_takesE_172 R28 k x1 x3 σ) : vv_X6_takesE k 172 [(0, .ref 74), (1, .int x1), (3, .int x3)] [] σ := by
  unfold F_X6_takesE_172 at hF
  refine ov_aload_n dX6_takesE_172 0 rfl ?_
  refine ov_callV [] dX6_takesE_173 (c_X6_notsOpen hF) (Nat.le_of_ble_eq_true rfl) (Nat.le_of_ble_eq_true rfl) lk_X6_247 sh_74 rfl (Nat.le_of_ble_eq_true rfl) (Nat.le_refl _) (Nat.le_refl _) (fun rr σ2 hF => ?_)
  obtain ⟨v1, rfl, hF⟩ := hF
  show vv_X6_takesE k 176 [(0, .ref 74), (1, .int x1), (3, .int x3)] [.int v1] σ2
  refine ov_istore_n dX6_takesE_176 (Nat.le_of_ble_eq_true rfl) [(2, .int v1), (0, .ref 74), (1, .int x1), (3, .int x3)] rfl ?_
  refine ov_goto 28 dX6_takesE_177 (by decide) ?_
  refine ov_pick [1, 2, 0, 3] [(0, .ref 74), (1, .int x1), (2, .int v1), (3, .int x3)] rfl ?_
  exact hR28 x1 v1 x3 σ2 hF
def F_X6_takesE_158 (R28 : Int32 → Int32 → Int32 → ovSt → Prop) (k : Int32 → ovSt → Prop) (x1 : Int32) (σ : ovSt) : Prop := (F_X6_takesPart σ (fun v3 σ4 => (if v3 = 0 then (k 0 σ4) else (F_X6_takesE_172 R28 k x1 0 σ4))))
set_option maxRecDepth 100000 in
set_option maxHeartbeats 4000000 in
theorem V_X6_takesE_158 {k : Int32 → ovSt → Prop} {R28 : Int32 → Int32 → Int32 → ovSt → Prop} (hR28 : ∀ (x1 : Int32) (x2 : Int32) (x3 : Int32) (σ : ovSt), R28 x1 x2 x3 σ → vv_X6_takesE k 28 [(0, .ref 74), (1, .int x1), (2, .int x2), (3, .int x3)] [] σ) (x1 : Int32) (σ : ovSt) (hF : F_X6_takesE_158 R28 k x1 σ) : vv_X6_takesE k 158 [(0, .ref 74), (1, .int x1)] [] σ := by
  unfold F_X6_takesE_158 at hF
  refine ov_aload_n dX6_takesE_158 0 rfl ?_
  refine ov_callV [] dX6_takesE_159 (c_X6_takesPart hF) (Nat.le_of_ble_eq_true rfl) (Nat.le_of_ble_eq_true rfl) lk_X6_243 sh_74 rfl (Nat.le_of_ble_eq_true rfl) (Nat.le_refl _) (Nat.le_refl _) (fun rr σ4 hF => ?_)
  obtain ⟨v3, rfl, hF⟩ := hF
  show vv_X6_takesE k 162 [(0, .ref 74), (1, .int x1)] [.int v3] σ4
  refine ov_if_eq 170 dX6_takesE_162 (by decide) hF (fun hF => ?_) (fun hF => ?_)
  · refine ov_iconst 0 (by decide) dX6_takesE_170 ?_
    exact ov_ireturn dX6_takesE_171 (Nat.le_refl _) (Nat.le_refl _) ⟨rfl, ov_bl0, _, rfl, hF⟩
  · refine ov_iconst 0 (by decide) dX6_takesE_165 ?_
    refine ov_istore_n dX6_takesE_166 (Nat.le_of_ble_eq_true rfl) [(3, .int 0), (0, .ref 74), (1, .int x1)] rfl ?_
    refine ov_goto 172 dX6_takesE_167 (by decide) ?_
    refine ov_pick [1, 2, 0] [(0, .ref 74), (1, .int x1), (3, .int 0)] rfl ?_
    exact V_X6_takesE_172 hR28 x1 0 σ4 hF
def F_X6_takesE_97 (R28 : Int32 → Int32 → Int32 → ovSt → Prop) (k : Int32 → ovSt → Prop) (x1 : Int32) (x3 : Int32) (σ : ovSt) : Prop := (if (σ 74 11) = (3 : Int32) then (if (σ 74 12) = (40 : Int32) then (if (8 : Int32) ≤ x1 then (F_X6_takesE_158 R28 k x1 σ) else (vp_in (σ 74 21) 96 ∧ (∀ σ6 : ovSt, σ6 = ov_up σ 85 (Int32.toNatClampNeg (σ 74 21)) (-11) → (∀ σ7 : ovSt, σ7 = ov_up σ6 74 21 ((σ6 74 21) + 1) → (vp_in (x1 + 1) 10 ∧ (∀ σ9 : ovSt, σ9 = ov_up σ7 86 (Int32.toNatClampNeg (x1 + 1)) (vp_nar .boolean 0) → (F_X6_go σ9 (fun σ11 => (F_X6_takesE_172 R28 k (x1 + 1) x3 σ11))))))))) else (F_X6_takesE_158 R28 k x1 σ)) else (F_X6_takesE_158 R28 k x1 σ))
set_option maxRecDepth 100000 in
set_option maxHeartbeats 4000000 in
theorem V_X6_takesE_97 {k : Int32 → ovSt → Prop} {R28 : Int32 → Int32 → Int32 → ovSt → Prop} (hR28 : ∀ (x1 : Int32) (x2 : Int32) (x3 : Int32) (σ : ovSt), R28 x1 x2 x3 σ → vv_X6_takesE k 28 [(0, .ref 74), (1, .int x1), (2, .int x2), (3, .int x3)] [] σ) (x1 : Int32) (x3 : Int32) (σ : ovSt) (hF : F_X6_takesE_97 R28 k x1 x3 σ) : vv_X6_takesE k 97 [(0, .ref 74), (1, .int x1), (3, .int x3)] [] σ := by
  unfold F_X6_takesE_97 at hF
  refine ov_aload_n dX6_takesE_97 0 rfl ?_
  refine ov_geti (T := TX6) (kf := 11) dX6_takesE_98 qf_X6_207 sh_74 rfl (Nat.le_of_ble_eq_true rfl) rfl ?_
  refine ov_iconst 3 (by decide) dX6_takesE_101 ?_
  refine ov_icmp_ne 158 dX6_takesE_102 (by decide) hF (fun hF => ?_) (fun hF => ?_)
  · refine ov_pick [0, 1] [(0, .ref 74), (1, .int x1)] rfl ?_
    exact V_X6_takesE_158 hR28 x1 σ hF
  · refine ov_aload_n dX6_takesE_105 0 rfl ?_
    refine ov_geti (T := TX6) (kf := 12) dX6_takesE_106 qf_X6_213 sh_74 rfl (Nat.le_of_ble_eq_true rfl) rfl ?_
    refine ov_bipush 40 (by decide) dX6_takesE_109 ?_
    refine ov_icmp_ne 158 dX6_takesE_111 (by decide) hF (fun hF => ?_) (fun hF => ?_)
    · refine ov_pick [0, 1] [(0, .ref 74), (1, .int x1)] rfl ?_
      exact V_X6_takesE_158 hR28 x1 σ hF
    · refine ov_iload_n dX6_takesE_114 1 rfl ?_
      refine ov_bipush 8 (by decide) dX6_takesE_115 ?_
      refine ov_icmp_ge 158 dX6_takesE_117 (by decide) hF (fun hF => ?_) (fun hF => ?_)
      · refine ov_pick [0, 1] [(0, .ref 74), (1, .int x1)] rfl ?_
        exact V_X6_takesE_158 hR28 x1 σ hF
      · refine ov_aload_n dX6_takesE_120 0 rfl ?_
        refine ov_getr (T := TX6) (kf := 20) dX6_takesE_121 qf_X6_41 sh_74 rfl (Nat.le_of_ble_eq_true rfl) rfl (by decide) ?_
        refine ov_aload_n dX6_takesE_124 0 rfl ?_
        refine ov_geti (T := TX6) (kf := 21) dX6_takesE_125 qf_X6_225 sh_74 rfl (Nat.le_of_ble_eq_true rfl) rfl ?_
        refine ov_bipush (-11) (by decide) dX6_takesE_128 ?_
        have h5 := hF.1
        have hF := hF.2
        refine ov_iastore dX6_takesE_130 sh_85 h5 ?_
        refine ov_nmS (fun σ6 es6 => ?_)
        have hF := hF σ6 es6
        refine ov_aload_n dX6_takesE_131 0 rfl ?_
        refine ov_dup rfl dX6_takesE_132 ?_
        refine ov_geti (T := TX6) (kf := 21) dX6_takesE_133 qf_X6_225 sh_74 rfl (Nat.le_of_ble_eq_true rfl) rfl ?_
        refine ov_iconst 1 (by decide) dX6_takesE_136 ?_
        refine ov_iadd dX6_takesE_137 ?_
        refine ov_puti (T := TX6) (kf := 21) dX6_takesE_138 qf_X6_225 sh_74 rfl (Nat.le_of_ble_eq_true rfl) rfl rfl (by decide +kernel) ?_
        refine ov_nmS (fun σ7 es7 => ?_)
        have hF := hF σ7 es7
        refine ov_iinc dX6_takesE_141 1 rfl (x1 + 1) rfl (Nat.le_of_ble_eq_true rfl) [(1, .int (x1 + 1)), (0, .ref 74), (3, .int x3)] rfl ?_
        refine ov_aload_n dX6_takesE_144 1 rfl ?_
        refine ov_getr (T := TX6) (kf := 22) dX6_takesE_145 qf_X6_44 sh_74 rfl (Nat.le_of_ble_eq_true rfl) rfl (by decide) ?_
        refine ov_iload_n dX6_takesE_148 0 rfl ?_
        refine ov_iconst 0 (by decide) dX6_takesE_149 ?_
        have h8 := hF.1
        have hF := hF.2
        refine ov_zastore dX6_takesE_150 sh_86 h8 ?_
        refine ov_nmS (fun σ9 es9 => ?_)
        have hF := hF σ9 es9
        refine ov_aload_n dX6_takesE_151 1 rfl ?_
        refine ov_callV [] dX6_takesE_152 (c_X6_go hF) (Nat.le_of_ble_eq_true rfl) (Nat.le_of_ble_eq_true rfl) lk_X6_222 sh_74 rfl (Nat.le_of_ble_eq_true rfl) (Nat.le_refl _) (Nat.le_refl _) (fun rr σ11 hF => ?_)
        obtain ⟨rfl, hF⟩ := hF
        show vv_X6_takesE k 155 [(1, .int (x1 + 1)), (0, .ref 74), (3, .int x3)] [] σ11
        refine ov_goto 172 dX6_takesE_155 (by decide) ?_
        refine ov_pick [1, 0, 2] [(0, .ref 74), (1, .int (x1 + 1)), (3, .int x3)] rfl ?_
        exact V_X6_takesE_172 hR28 (x1 + 1) x3 σ11 hF
def F_X6_takesE_266 (k : Int32 → ovSt → Prop) (σ : ovSt) : Prop := (k 0 σ)
set_option maxRecDepth 100000 in
set_option maxHeartbeats 4000000 in
theorem V_X6_takesE_266 {k : Int32 → ovSt → Prop} (σ : ovSt) (hF : F_X6_takesE_266 k σ) : vv_X6_takesE k 266 [] [] σ := by
  unfold F_X6_takesE_266 at hF
  refine ov_iconst 0 (by decide) dX6_takesE_266 ?_
  exact ov_ireturn dX6_takesE_267 (Nat.le_refl _) (Nat.le_refl _) ⟨rfl, ov_bl0, _, rfl, hF⟩
def F_X6_takesE_305 (R28 : Int32 → Int32 → Int32 → ovSt → Prop) (k : Int32 → ovSt → Prop) (x1 : Int32) (x2 : Int32) (x4 : Int32) (t0 : Int32) (t1 : Int32) (σ : ovSt) : Prop := (vp_in t1 10 ∧ (∀ σ13 : ovSt, σ13 = ov_up σ 86 (Int32.toNatClampNeg t1) (vp_nar .boolean t0) → (F_X6_rank x4 σ13 (fun v14 σ15 => (F_X6_settle v14 σ15 (fun σ17 => (vp_in (σ17 74 21) 96 ∧ (∀ σ19 : ovSt, σ19 = ov_up σ17 85 (Int32.toNatClampNeg (σ17 74 21)) x4 → (∀ σ20 : ovSt, σ20 = ov_up σ19 74 21 ((σ19 74 21) + 1) → (F_X6_go σ20 (fun σ22 => R28 x1 x2 1 σ22)))))))))))
set_option maxRecDepth 100000 in
set_option maxHeartbeats 4000000 in
theorem V_X6_takesE_305 {k : Int32 → ovSt → Prop} {R28 : Int32 → Int32 → Int32 → ovSt → Prop} (hR28 : ∀ (x1 : Int32) (x2 : Int32) (x3 : Int32) (σ : ovSt), R28 x1 x2 x3 σ → vv_X6_takesE k 28 [(0, .ref 74), (1, .int x1), (2, .int x2), (3, .int x3)] [] σ) (x1 : Int32) (x2 : Int32) (x4 : Int32) (t0 : Int32) (t1 : Int32) (σ : ovSt) (hF : F_X6_takesE_305 R28 k x1 x2 x4 t0 t1 σ) : vv_X6_takesE k 305 [(0, .ref 74), (1, .int x1), (2, .int x2), (4, .int x4)] [.int t0, .int t1, .ref 86] σ := by
  unfold F_X6_takesE_305 at hF
  have h12 := hF.1
  have hF := hF.2
  refine ov_zastore dX6_takesE_305 sh_86 h12 ?_
  refine ov_nmS (fun σ13 es13 => ?_)
  have hF := hF σ13 es13
  refine ov_aload_n dX6_takesE_306 0 rfl ?_
  refine ov_iload dX6_takesE_307 3 rfl ?_
  refine ov_callS [.int x4] dX6_takesE_309 (c_X6_rank hF) (Nat.le_of_ble_eq_true rfl) (Nat.le_of_ble_eq_true rfl) lk_X6_228 (Nat.le_of_ble_eq_true rfl) (Nat.le_refl _) (Nat.le_refl _) (fun rr σ15 hF => ?_)
  obtain ⟨v14, rfl, hF⟩ := hF
  show vv_X6_takesE k 312 [(0, .ref 74), (1, .int x1), (2, .int x2), (4, .int x4)] [.int v14, .ref 74] σ15
  refine ov_callV [.int v14] dX6_takesE_312 (c_X6_settle hF) (Nat.le_of_ble_eq_true rfl) (Nat.le_of_ble_eq_true rfl) lk_X6_240 sh_74 rfl (Nat.le_of_ble_eq_true rfl) (Nat.le_refl _) (Nat.le_refl _) (fun rr σ17 hF => ?_)
  obtain ⟨rfl, hF⟩ := hF
  show vv_X6_takesE k 315 [(0, .ref 74), (1, .int x1), (2, .int x2), (4, .int x4)] [] σ17
  refine ov_aload_n dX6_takesE_315 0 rfl ?_
  refine ov_getr (T := TX6) (kf := 20) dX6_takesE_316 qf_X6_41 sh_74 rfl (Nat.le_of_ble_eq_true rfl) rfl (by decide) ?_
  refine ov_aload_n dX6_takesE_319 0 rfl ?_
  refine ov_geti (T := TX6) (kf := 21) dX6_takesE_320 qf_X6_225 sh_74 rfl (Nat.le_of_ble_eq_true rfl) rfl ?_
  refine ov_iload dX6_takesE_323 3 rfl ?_
  have h18 := hF.1
  have hF := hF.2
  refine ov_iastore dX6_takesE_325 sh_85 h18 ?_
  refine ov_nmS (fun σ19 es19 => ?_)
  have hF := hF σ19 es19
  refine ov_aload_n dX6_takesE_326 0 rfl ?_
  refine ov_dup rfl dX6_takesE_327 ?_
  refine ov_geti (T := TX6) (kf := 21) dX6_takesE_328 qf_X6_225 sh_74 rfl (Nat.le_of_ble_eq_true rfl) rfl ?_
  refine ov_iconst 1 (by decide) dX6_takesE_331 ?_
  refine ov_iadd dX6_takesE_332 ?_
  refine ov_puti (T := TX6) (kf := 21) dX6_takesE_333 qf_X6_225 sh_74 rfl (Nat.le_of_ble_eq_true rfl) rfl rfl (by decide +kernel) ?_
  refine ov_nmS (fun σ20 es20 => ?_)
  have hF := hF σ20 es20
  refine ov_iconst 1 (by decide) dX6_takesE_336 ?_
  refine ov_istore_n dX6_takesE_337 (Nat.le_of_ble_eq_true rfl) [(3, .int 1), (0, .ref 74), (1, .int x1), (2, .int x2), (4, .int x4)] rfl ?_
  refine ov_aload_n dX6_takesE_338 1 rfl ?_
  refine ov_callV [] dX6_takesE_339 (c_X6_go hF) (Nat.le_of_ble_eq_true rfl) (Nat.le_of_ble_eq_true rfl) lk_X6_222 sh_74 rfl (Nat.le_of_ble_eq_true rfl) (Nat.le_refl _) (Nat.le_refl _) (fun rr σ22 hF => ?_)
  obtain ⟨rfl, hF⟩ := hF
  show vv_X6_takesE k 342 [(3, .int 1), (0, .ref 74), (1, .int x1), (2, .int x2), (4, .int x4)] [] σ22
  refine ov_goto 28 dX6_takesE_342 (by decide) ?_
  refine ov_pick [1, 2, 3, 0] [(0, .ref 74), (1, .int x1), (2, .int x2), (3, .int 1)] rfl ?_
  exact hR28 x1 x2 1 σ22 hF
def F_X6_takesE_300 (R28 : Int32 → Int32 → Int32 → ovSt → Prop) (k : Int32 → ovSt → Prop) (x1 : Int32) (x2 : Int32) (x4 : Int32) (t0 : Int32) (σ : ovSt) : Prop := (F_X6_takesE_305 R28 k x1 x2 x4 1 t0 σ)
set_option maxRecDepth 100000 in
set_option maxHeartbeats 4000000 in
theorem V_X6_takesE_300 {k : Int32 → ovSt → Prop} {R28 : Int32 → Int32 → Int32 → ovSt → Prop} (hR28 : ∀ (x1 : Int32) (x2 : Int32) (x3 : Int32) (σ : ovSt), R28 x1 x2 x3 σ → vv_X6_takesE k 28 [(0, .ref 74), (1, .int x1), (2, .int x2), (3, .int x3)] [] σ) (x1 : Int32) (x2 : Int32) (x4 : Int32) (t0 : Int32) (σ : ovSt) (hF : F_X6_takesE_300 R28 k x1 x2 x4 t0 σ) : vv_X6_takesE k 300 [(0, .ref 74), (1, .int x1), (2, .int x2), (4, .int x4)] [.int t0, .ref 86] σ := by
  unfold F_X6_takesE_300 at hF
  refine ov_iconst 1 (by decide) dX6_takesE_300 ?_
  refine ov_goto 305 dX6_takesE_301 (by decide) ?_
  exact V_X6_takesE_305 hR28 x1 x2 x4 1 t0 σ hF
def F_X6_takesE_304 (R28 : Int32 → Int32 → Int32 → ovSt → Prop) (k : Int32 → ovSt → Prop) (x1 : Int32) (x2 : Int32) (x4 : Int32) (t0 : Int32) (σ : ovSt) : Prop := (F_X6_takesE_305 R28 k x1 x2 x4 0 t0 σ)
set_option maxRecDepth 100000 in
set_option maxHeartbeats 4000000 in
theorem V_X6_takesE_304 {k : Int32 → ovSt → Prop} {R28 : Int32 → Int32 → Int32 → ovSt → Prop} (hR28 : ∀ (x1 : Int32) (x2 : Int32) (x3 : Int32) (σ : ovSt), R28 x1 x2 x3 σ → vv_X6_takesE k 28 [(0, .ref 74), (1, .int x1), (2, .int x2), (3, .int x3)] [] σ) (x1 : Int32) (x2 : Int32) (x4 : Int32) (t0 : Int32) (σ : ovSt) (hF : F_X6_takesE_304 R28 k x1 x2 x4 t0 σ) : vv_X6_takesE k 304 [(0, .ref 74), (1, .int x1), (2, .int x2), (4, .int x4)] [.int t0, .ref 86] σ := by
  unfold F_X6_takesE_304 at hF
  refine ov_iconst 0 (by decide) dX6_takesE_304 ?_
  exact V_X6_takesE_305 hR28 x1 x2 x4 0 t0 σ hF
def F_X6_takesE_268 (R28 : Int32 → Int32 → Int32 → ovSt → Prop) (k : Int32 → ovSt → Prop) (x1 : Int32) (x2 : Int32) (x4 : Int32) (σ : ovSt) : Prop := (F_X6_rank x4 σ (fun v23 σ24 => (if v23 = (3 : Int32) then (F_X6_takesE_300 R28 k x1 x2 x4 x1 σ24) else (F_X6_rank x4 σ24 (fun v25 σ26 => (if v25 ≤ (3 : Int32) then (F_X6_takesE_304 R28 k x1 x2 x4 x1 σ26) else (vp_in x1 10 ∧ (if (σ26 86 (Int32.toNatClampNeg x1)) = 0 then (F_X6_takesE_304 R28 k x1 x2 x4 x1 σ26) else (F_X6_takesE_300 R28 k x1 x2 x4 x1 σ26)))))))))
set_option maxRecDepth 100000 in
set_option maxHeartbeats 4000000 in
theorem V_X6_takesE_268 {k : Int32 → ovSt → Prop} {R28 : Int32 → Int32 → Int32 → ovSt → Prop} (hR28 : ∀ (x1 : Int32) (x2 : Int32) (x3 : Int32) (σ : ovSt), R28 x1 x2 x3 σ → vv_X6_takesE k 28 [(0, .ref 74), (1, .int x1), (2, .int x2), (3, .int x3)] [] σ) (x1 : Int32) (x2 : Int32) (x4 : Int32) (σ : ovSt) (hF : F_X6_takesE_268 R28 k x1 x2 x4 σ) : vv_X6_takesE k 268 [(0, .ref 74), (1, .int x1), (2, .int x2), (4, .int x4)] [] σ := by
  unfold F_X6_takesE_268 at hF
  refine ov_aload_n dX6_takesE_268 0 rfl ?_
  refine ov_getr (T := TX6) (kf := 22) dX6_takesE_269 qf_X6_44 sh_74 rfl (Nat.le_of_ble_eq_true rfl) rfl (by decide) ?_
  refine ov_iload_n dX6_takesE_272 1 rfl ?_
  refine ov_iload dX6_takesE_273 3 rfl ?_
  refine ov_callS [.int x4] dX6_takesE_275 (c_X6_rank hF) (Nat.le_of_ble_eq_true rfl) (Nat.le_of_ble_eq_true rfl) lk_X6_228 (Nat.le_of_ble_eq_true rfl) (Nat.le_refl _) (Nat.le_refl _) (fun rr σ24 hF => ?_)
  obtain ⟨v23, rfl, hF⟩ := hF
  show vv_X6_takesE k 278 [(0, .ref 74), (1, .int x1), (2, .int x2), (4, .int x4)] [.int v23, .int x1, .ref 86] σ24
  refine ov_iconst 3 (by decide) dX6_takesE_278 ?_
  refine ov_icmp_eq 300 dX6_takesE_279 (by decide) hF (fun hF => ?_) (fun hF => ?_)
  · exact V_X6_takesE_300 hR28 x1 x2 x4 x1 σ24 hF
  · refine ov_iload dX6_takesE_282 3 rfl ?_
    refine ov_callS [.int x4] dX6_takesE_284 (c_X6_rank hF) (Nat.le_of_ble_eq_true rfl) (Nat.le_of_ble_eq_true rfl) lk_X6_228 (Nat.le_of_ble_eq_true rfl) (Nat.le_refl _) (Nat.le_refl _) (fun rr σ26 hF => ?_)
    obtain ⟨v25, rfl, hF⟩ := hF
    show vv_X6_takesE k 287 [(0, .ref 74), (1, .int x1), (2, .int x2), (4, .int x4)] [.int v25, .int x1, .ref 86] σ26
    refine ov_iconst 3 (by decide) dX6_takesE_287 ?_
    refine ov_icmp_le 304 dX6_takesE_288 (by decide) hF (fun hF => ?_) (fun hF => ?_)
    · exact V_X6_takesE_304 hR28 x1 x2 x4 x1 σ26 hF
    · refine ov_aload_n dX6_takesE_291 0 rfl ?_
      refine ov_getr (T := TX6) (kf := 22) dX6_takesE_292 qf_X6_44 sh_74 rfl (Nat.le_of_ble_eq_true rfl) rfl (by decide) ?_
      refine ov_iload_n dX6_takesE_295 1 rfl ?_
      have h27 := hF.1
      have hF := hF.2
      refine ov_zaload dX6_takesE_296 sh_86 h27 ?_
      refine ov_if_eq 304 dX6_takesE_297 (by decide) hF (fun hF => ?_) (fun hF => ?_)
      · exact V_X6_takesE_304 hR28 x1 x2 x4 x1 σ26 hF
      · exact V_X6_takesE_300 hR28 x1 x2 x4 x1 σ26 hF
def F_X6_takesE_237 (R28 : Int32 → Int32 → Int32 → ovSt → Prop) (k : Int32 → ovSt → Prop) (x1 : Int32) (x2 : Int32) (σ : ovSt) : Prop := (F_X6_signHere σ (fun v28 σ29 => (if v28 = 0 then (F_X6_takesE_266 k σ29) else (F_X6_rank v28 σ29 (fun v30 σ31 => (if v30 = (3 : Int32) then (vp_in x1 10 ∧ (if (σ31 86 (Int32.toNatClampNeg x1)) = 0 then (F_X6_takesE_268 R28 k x1 x2 v28 σ31) else (F_X6_takesE_266 k σ31))) else (F_X6_takesE_268 R28 k x1 x2 v28 σ31)))))))
set_option maxRecDepth 100000 in
set_option maxHeartbeats 4000000 in
theorem V_X6_takesE_237 {k : Int32 → ovSt → Prop} {R28 : Int32 → Int32 → Int32 → ovSt → Prop} (hR28 : ∀ (x1 : Int32) (x2 : Int32) (x3 : Int32) (σ : ovSt), R28 x1 x2 x3 σ → vv_X6_takesE k 28 [(0, .ref 74), (1, .int x1), (2, .int x2), (3, .int x3)] [] σ) (x1 : Int32) (x2 : Int32) (σ : ovSt) (hF : F_X6_takesE_237 R28 k x1 x2 σ) : vv_X6_takesE k 237 [(0, .ref 74), (1, .int x1), (2, .int x2)] [] σ := by
  unfold F_X6_takesE_237 at hF
  refine ov_aload_n dX6_takesE_237 0 rfl ?_
  refine ov_callV [] dX6_takesE_238 (c_X6_signHere hF) (Nat.le_of_ble_eq_true rfl) (Nat.le_of_ble_eq_true rfl) lk_X6_250 sh_74 rfl (Nat.le_of_ble_eq_true rfl) (Nat.le_refl _) (Nat.le_refl _) (fun rr σ29 hF => ?_)
  obtain ⟨v28, rfl, hF⟩ := hF
  show vv_X6_takesE k 241 [(0, .ref 74), (1, .int x1), (2, .int x2)] [.int v28] σ29
  refine ov_istore dX6_takesE_241 (Nat.le_of_ble_eq_true rfl) [(4, .int v28), (0, .ref 74), (1, .int x1), (2, .int x2)] rfl ?_
  refine ov_iload dX6_takesE_243 0 rfl ?_
  refine ov_if_eq 266 dX6_takesE_245 (by decide) hF (fun hF => ?_) (fun hF => ?_)
  · refine ov_pick [] [] rfl ?_
    exact V_X6_takesE_266 σ29 hF
  · refine ov_iload dX6_takesE_248 0 rfl ?_
    refine ov_callS [.int v28] dX6_takesE_250 (c_X6_rank hF) (Nat.le_of_ble_eq_true rfl) (Nat.le_of_ble_eq_true rfl) lk_X6_228 (Nat.le_of_ble_eq_true rfl) (Nat.le_refl _) (Nat.le_refl _) (fun rr σ31 hF => ?_)
    obtain ⟨v30, rfl, hF⟩ := hF
    show vv_X6_takesE k 253 [(4, .int v28), (0, .ref 74), (1, .int x1), (2, .int x2)] [.int v30] σ31
    refine ov_iconst 3 (by decide) dX6_takesE_253 ?_
    refine ov_icmp_ne 268 dX6_takesE_254 (by decide) hF (fun hF => ?_) (fun hF => ?_)
    · refine ov_pick [1, 2, 3, 0] [(0, .ref 74), (1, .int x1), (2, .int x2), (4, .int v28)] rfl ?_
      exact V_X6_takesE_268 hR28 x1 x2 v28 σ31 hF
    · refine ov_aload_n dX6_takesE_257 1 rfl ?_
      refine ov_getr (T := TX6) (kf := 22) dX6_takesE_258 qf_X6_44 sh_74 rfl (Nat.le_of_ble_eq_true rfl) rfl (by decide) ?_
      refine ov_iload_n dX6_takesE_261 2 rfl ?_
      have h32 := hF.1
      have hF := hF.2
      refine ov_zaload dX6_takesE_262 sh_86 h32 ?_
      refine ov_if_eq 268 dX6_takesE_263 (by decide) hF (fun hF => ?_) (fun hF => ?_)
      · refine ov_pick [1, 2, 3, 0] [(0, .ref 74), (1, .int x1), (2, .int x2), (4, .int v28)] rfl ?_
        exact V_X6_takesE_268 hR28 x1 x2 v28 σ31 hF
      · refine ov_pick [] [] rfl ?_
        exact V_X6_takesE_266 σ31 hF
def F_X6_takesE_39 (R28 : Int32 → Int32 → Int32 → ovSt → Prop) (k : Int32 → ovSt → Prop) (x1 : Int32) (x2 : Int32) (x3 : Int32) (σ : ovSt) : Prop := (if x3 = 0 then (if (σ 74 11) = (3 : Int32) then (if (σ 74 12) = (41 : Int32) then (if x1 ≤ 0 then (F_X6_takesE_237 R28 k x1 x2 σ) else (F_X6_settle 0 σ (fun σ34 => (∀ σ35 : ovSt, σ35 = ov_up σ34 74 21 ((σ34 74 21) - 1) → (F_X6_settle 6 σ35 (fun σ37 => (F_X6_notsOpen σ37 (fun v38 σ39 => (F_X6_go σ39 (fun σ41 => R28 (x1 + (-1)) v38 x3 σ41)))))))))) else (F_X6_takesE_237 R28 k x1 x2 σ)) else (F_X6_takesE_237 R28 k x1 x2 σ)) else (if (σ 74 11) = (3 : Int32) then (if (σ 74 12) = (33 : Int32) then (if (8 : Int32) ≤ x2 then (F_X6_takesE_97 R28 k x1 x3 σ) else (vp_in (σ 74 21) 96 ∧ (∀ σ43 : ovSt, σ43 = ov_up σ 85 (Int32.toNatClampNeg (σ 74 21)) (-10) → (∀ σ44 : ovSt, σ44 = ov_up σ43 74 21 ((σ43 74 21) + 1) → (F_X6_go σ44 (fun σ46 => (F_X6_takesE_172 R28 k x1 x3 σ46))))))) else (F_X6_takesE_97 R28 k x1 x3 σ)) else (F_X6_takesE_97 R28 k x1 x3 σ)))
set_option maxRecDepth 100000 in
set_option maxHeartbeats 4000000 in
theorem V_X6_takesE_39 {k : Int32 → ovSt → Prop} {R28 : Int32 → Int32 → Int32 → ovSt → Prop} (hR28 : ∀ (x1 : Int32) (x2 : Int32) (x3 : Int32) (σ : ovSt), R28 x1 x2 x3 σ → vv_X6_takesE k 28 [(0, .ref 74), (1, .int x1), (2, .int x2), (3, .int x3)] [] σ) (x1 : Int32) (x2 : Int32) (x3 : Int32) (σ : ovSt) (hF : F_X6_takesE_39 R28 k x1 x2 x3 σ) : vv_X6_takesE k 39 [(0, .ref 74), (1, .int x1), (2, .int x2), (3, .int x3)] [] σ := by
  unfold F_X6_takesE_39 at hF
  refine ov_iload_n dX6_takesE_39 3 rfl ?_
  refine ov_if_eq 180 dX6_takesE_40 (by decide) hF (fun hF => ?_) (fun hF => ?_)
  · refine ov_aload_n dX6_takesE_180 0 rfl ?_
    refine ov_geti (T := TX6) (kf := 11) dX6_takesE_181 qf_X6_207 sh_74 rfl (Nat.le_of_ble_eq_true rfl) rfl ?_
    refine ov_iconst 3 (by decide) dX6_takesE_184 ?_
    refine ov_icmp_ne 237 dX6_takesE_185 (by decide) hF (fun hF => ?_) (fun hF => ?_)
    · refine ov_pick [0, 1, 2] [(0, .ref 74), (1, .int x1), (2, .int x2)] rfl ?_
      exact V_X6_takesE_237 hR28 x1 x2 σ hF
    · refine ov_aload_n dX6_takesE_188 0 rfl ?_
      refine ov_geti (T := TX6) (kf := 12) dX6_takesE_189 qf_X6_213 sh_74 rfl (Nat.le_of_ble_eq_true rfl) rfl ?_
      refine ov_bipush 41 (by decide) dX6_takesE_192 ?_
      refine ov_icmp_ne 237 dX6_takesE_194 (by decide) hF (fun hF => ?_) (fun hF => ?_)
      · refine ov_pick [0, 1, 2] [(0, .ref 74), (1, .int x1), (2, .int x2)] rfl ?_
        exact V_X6_takesE_237 hR28 x1 x2 σ hF
      · refine ov_iload_n dX6_takesE_197 1 rfl ?_
        refine ov_if_le 237 dX6_takesE_198 (by decide) hF (fun hF => ?_) (fun hF => ?_)
        · refine ov_pick [0, 1, 2] [(0, .ref 74), (1, .int x1), (2, .int x2)] rfl ?_
          exact V_X6_takesE_237 hR28 x1 x2 σ hF
        · refine ov_aload_n dX6_takesE_201 0 rfl ?_
          refine ov_iconst 0 (by decide) dX6_takesE_202 ?_
          refine ov_callV [.int 0] dX6_takesE_203 (c_X6_settle hF) (Nat.le_of_ble_eq_true rfl) (Nat.le_of_ble_eq_true rfl) lk_X6_240 sh_74 rfl (Nat.le_of_ble_eq_true rfl) (Nat.le_refl _) (Nat.le_refl _) (fun rr σ34 hF => ?_)
          obtain ⟨rfl, hF⟩ := hF
          show vv_X6_takesE k 206 [(0, .ref 74), (1, .int x1), (2, .int x2), (3, .int x3)] [] σ34
          refine ov_aload_n dX6_takesE_206 0 rfl ?_
          refine ov_dup rfl dX6_takesE_207 ?_
          refine ov_geti (T := TX6) (kf := 21) dX6_takesE_208 qf_X6_225 sh_74 rfl (Nat.le_of_ble_eq_true rfl) rfl ?_
          refine ov_iconst 1 (by decide) dX6_takesE_211 ?_
          refine ov_isub dX6_takesE_212 ?_
          refine ov_puti (T := TX6) (kf := 21) dX6_takesE_213 qf_X6_225 sh_74 rfl (Nat.le_of_ble_eq_true rfl) rfl rfl (by decide +kernel) ?_
          refine ov_nmS (fun σ35 es35 => ?_)
          have hF := hF σ35 es35
          refine ov_iinc dX6_takesE_216 1 rfl (x1 + (-1)) rfl (Nat.le_of_ble_eq_true rfl) [(1, .int (x1 + (-1))), (0, .ref 74), (2, .int x2), (3, .int x3)] rfl ?_
          refine ov_aload_n dX6_takesE_219 1 rfl ?_
          refine ov_bipush 6 (by decide) dX6_takesE_220 ?_
          refine ov_callV [.int 6] dX6_takesE_222 (c_X6_settle hF) (Nat.le_of_ble_eq_true rfl) (Nat.le_of_ble_eq_true rfl) lk_X6_240 sh_74 rfl (Nat.le_of_ble_eq_true rfl) (Nat.le_refl _) (Nat.le_refl _) (fun rr σ37 hF => ?_)
          obtain ⟨rfl, hF⟩ := hF
          show vv_X6_takesE k 225 [(1, .int (x1 + (-1))), (0, .ref 74), (2, .int x2), (3, .int x3)] [] σ37
          refine ov_aload_n dX6_takesE_225 1 rfl ?_
          refine ov_callV [] dX6_takesE_226 (c_X6_notsOpen hF) (Nat.le_of_ble_eq_true rfl) (Nat.le_of_ble_eq_true rfl) lk_X6_247 sh_74 rfl (Nat.le_of_ble_eq_true rfl) (Nat.le_refl _) (Nat.le_refl _) (fun rr σ39 hF => ?_)
          obtain ⟨v38, rfl, hF⟩ := hF
          show vv_X6_takesE k 229 [(1, .int (x1 + (-1))), (0, .ref 74), (2, .int x2), (3, .int x3)] [.int v38] σ39
          refine ov_istore_n dX6_takesE_229 (Nat.le_of_ble_eq_true rfl) [(2, .int v38), (1, .int (x1 + (-1))), (0, .ref 74), (3, .int x3)] rfl ?_
          refine ov_aload_n dX6_takesE_230 2 rfl ?_
          refine ov_callV [] dX6_takesE_231 (c_X6_go hF) (Nat.le_of_ble_eq_true rfl) (Nat.le_of_ble_eq_true rfl) lk_X6_222 sh_74 rfl (Nat.le_of_ble_eq_true rfl) (Nat.le_refl _) (Nat.le_refl _) (fun rr σ41 hF => ?_)
          obtain ⟨rfl, hF⟩ := hF
          show vv_X6_takesE k 234 [(2, .int v38), (1, .int (x1 + (-1))), (0, .ref 74), (3, .int x3)] [] σ41
          refine ov_goto 28 dX6_takesE_234 (by decide) ?_
          refine ov_pick [2, 1, 0, 3] [(0, .ref 74), (1, .int (x1 + (-1))), (2, .int v38), (3, .int x3)] rfl ?_
          exact hR28 (x1 + (-1)) v38 x3 σ41 hF
  · refine ov_aload_n dX6_takesE_43 0 rfl ?_
    refine ov_geti (T := TX6) (kf := 11) dX6_takesE_44 qf_X6_207 sh_74 rfl (Nat.le_of_ble_eq_true rfl) rfl ?_
    refine ov_iconst 3 (by decide) dX6_takesE_47 ?_
    refine ov_icmp_ne 97 dX6_takesE_48 (by decide) hF (fun hF => ?_) (fun hF => ?_)
    · refine ov_pick [0, 1, 3] [(0, .ref 74), (1, .int x1), (3, .int x3)] rfl ?_
      exact V_X6_takesE_97 hR28 x1 x3 σ hF
    · refine ov_aload_n dX6_takesE_51 0 rfl ?_
      refine ov_geti (T := TX6) (kf := 12) dX6_takesE_52 qf_X6_213 sh_74 rfl (Nat.le_of_ble_eq_true rfl) rfl ?_
      refine ov_bipush 33 (by decide) dX6_takesE_55 ?_
      refine ov_icmp_ne 97 dX6_takesE_57 (by decide) hF (fun hF => ?_) (fun hF => ?_)
      · refine ov_pick [0, 1, 3] [(0, .ref 74), (1, .int x1), (3, .int x3)] rfl ?_
        exact V_X6_takesE_97 hR28 x1 x3 σ hF
      · refine ov_iload_n dX6_takesE_60 2 rfl ?_
        refine ov_bipush 8 (by decide) dX6_takesE_61 ?_
        refine ov_icmp_ge 97 dX6_takesE_63 (by decide) hF (fun hF => ?_) (fun hF => ?_)
        · refine ov_pick [0, 1, 3] [(0, .ref 74), (1, .int x1), (3, .int x3)] rfl ?_
          exact V_X6_takesE_97 hR28 x1 x3 σ hF
        · refine ov_aload_n dX6_takesE_66 0 rfl ?_
          refine ov_getr (T := TX6) (kf := 20) dX6_takesE_67 qf_X6_41 sh_74 rfl (Nat.le_of_ble_eq_true rfl) rfl (by decide) ?_
          refine ov_aload_n dX6_takesE_70 0 rfl ?_
          refine ov_geti (T := TX6) (kf := 21) dX6_takesE_71 qf_X6_225 sh_74 rfl (Nat.le_of_ble_eq_true rfl) rfl ?_
          refine ov_bipush (-10) (by decide) dX6_takesE_74 ?_
          have h42 := hF.1
          have hF := hF.2
          refine ov_iastore dX6_takesE_76 sh_85 h42 ?_
          refine ov_nmS (fun σ43 es43 => ?_)
          have hF := hF σ43 es43
          refine ov_aload_n dX6_takesE_77 0 rfl ?_
          refine ov_dup rfl dX6_takesE_78 ?_
          refine ov_geti (T := TX6) (kf := 21) dX6_takesE_79 qf_X6_225 sh_74 rfl (Nat.le_of_ble_eq_true rfl) rfl ?_
          refine ov_iconst 1 (by decide) dX6_takesE_82 ?_
          refine ov_iadd dX6_takesE_83 ?_
          refine ov_puti (T := TX6) (kf := 21) dX6_takesE_84 qf_X6_225 sh_74 rfl (Nat.le_of_ble_eq_true rfl) rfl rfl (by decide +kernel) ?_
          refine ov_nmS (fun σ44 es44 => ?_)
          have hF := hF σ44 es44
          refine ov_iinc dX6_takesE_87 2 rfl (x2 + 1) rfl (Nat.le_of_ble_eq_true rfl) [(2, .int (x2 + 1)), (0, .ref 74), (1, .int x1), (3, .int x3)] rfl ?_
          refine ov_aload_n dX6_takesE_90 1 rfl ?_
          refine ov_callV [] dX6_takesE_91 (c_X6_go hF) (Nat.le_of_ble_eq_true rfl) (Nat.le_of_ble_eq_true rfl) lk_X6_222 sh_74 rfl (Nat.le_of_ble_eq_true rfl) (Nat.le_refl _) (Nat.le_refl _) (fun rr σ46 hF => ?_)
          obtain ⟨rfl, hF⟩ := hF
          show vv_X6_takesE k 94 [(2, .int (x2 + 1)), (0, .ref 74), (1, .int x1), (3, .int x3)] [] σ46
          refine ov_goto 172 dX6_takesE_94 (by decide) ?_
          refine ov_pick [1, 2, 3] [(0, .ref 74), (1, .int x1), (3, .int x3)] rfl ?_
          exact V_X6_takesE_172 hR28 x1 x3 σ46 hF
def F_X6_takesE_359 (k : Int32 → ovSt → Prop) (t0 : Int32) (σ : ovSt) : Prop := (ov_bl t0 ∧ (k t0 σ))
set_option maxRecDepth 100000 in
set_option maxHeartbeats 4000000 in
theorem V_X6_takesE_359 {k : Int32 → ovSt → Prop} (t0 : Int32) (σ : ovSt) (hF : F_X6_takesE_359 k t0 σ) : vv_X6_takesE k 359 [] [.int t0] σ := by
  unfold F_X6_takesE_359 at hF
  have h47 := hF.1
  have hF := hF.2
  exact ov_ireturn dX6_takesE_359 (Nat.le_refl _) (Nat.le_refl _) ⟨rfl, h47, _, rfl, hF⟩
def F_X6_takesE_28 (k : Int32 → ovSt → Prop) : Nat → Int32 → Int32 → Int32 → ovSt → Prop
  | 0 => fun _ _ _ _ => False
  | n + 1 => fun x1 x2 x3 σ => (if x3 = 0 then (if (σ 74 11) = 0 then (F_X6_settle 0 σ (fun σ49 => (if x1 = 0 then (F_X6_takesE_359 k 1 σ49) else (F_X6_takesE_359 k 0 σ49)))) else (F_X6_takesE_39 (F_X6_takesE_28 k n) k x1 x2 x3 σ)) else (F_X6_takesE_39 (F_X6_takesE_28 k n) k x1 x2 x3 σ))
set_option maxRecDepth 100000 in
set_option maxHeartbeats 4000000 in
theorem V_X6_takesE_28 {k : Int32 → ovSt → Prop} : ∀ (n : Nat) (x1 : Int32) (x2 : Int32) (x3 : Int32) (σ : ovSt), F_X6_takesE_28 k n x1 x2 x3 σ → vv_X6_takesE k 28 [(0, .ref 74), (1, .int x1), (2, .int x2), (3, .int x3)] [] σ := by
  intro n
  induction n with
  | zero => intro x1 x2 x3 σ hF; exact hF.elim
  | succ n ih =>
    intro x1 x2 x3 σ hF
    unfold F_X6_takesE_28 at hF
    refine ov_iload_n dX6_takesE_28 3 rfl ?_
    refine ov_if_ne 39 dX6_takesE_29 (by decide) hF (fun hF => ?_) (fun hF => ?_)
    · exact V_X6_takesE_39 ih x1 x2 x3 σ hF
    · refine ov_aload_n dX6_takesE_32 0 rfl ?_
      refine ov_geti (T := TX6) (kf := 11) dX6_takesE_33 qf_X6_207 sh_74 rfl (Nat.le_of_ble_eq_true rfl) rfl ?_
      refine ov_if_eq 345 dX6_takesE_36 (by decide) hF (fun hF => ?_) (fun hF => ?_)
      · refine ov_aload_n dX6_takesE_345 0 rfl ?_
        refine ov_iconst 0 (by decide) dX6_takesE_346 ?_
        refine ov_callV [.int 0] dX6_takesE_347 (c_X6_settle hF) (Nat.le_of_ble_eq_true rfl) (Nat.le_of_ble_eq_true rfl) lk_X6_240 sh_74 rfl (Nat.le_of_ble_eq_true rfl) (Nat.le_refl _) (Nat.le_refl _) (fun rr σ49 hF => ?_)
        obtain ⟨rfl, hF⟩ := hF
        show vv_X6_takesE k 350 [(0, .ref 74), (1, .int x1), (2, .int x2), (3, .int x3)] [] σ49
        refine ov_iload_n dX6_takesE_350 1 rfl ?_
        refine ov_if_ne 358 dX6_takesE_351 (by decide) hF (fun hF => ?_) (fun hF => ?_)
        · refine ov_iconst 0 (by decide) dX6_takesE_358 ?_
          refine ov_pick [] [] rfl ?_
          exact V_X6_takesE_359 0 σ49 hF
        · refine ov_iconst 1 (by decide) dX6_takesE_354 ?_
          refine ov_goto 359 dX6_takesE_355 (by decide) ?_
          refine ov_pick [] [] rfl ?_
          exact V_X6_takesE_359 1 σ49 hF
      · exact V_X6_takesE_39 ih x1 x2 x3 σ hF
def F_X6_takesE (σ : ovSt) (k : Int32 → ovSt → Prop) : Prop := (∀ σ50 : ovSt, σ50 = ov_up σ 74 18 0 → (∀ σ51 : ovSt, σ51 = ov_up σ50 74 19 0 → (∀ σ52 : ovSt, σ52 = ov_up σ51 74 21 0 → (vp_in 0 10 ∧ (∀ σ54 : ovSt, σ54 = ov_up σ52 86 (Int32.toNatClampNeg 0) (vp_nar .boolean 0) → (∃ n55, F_X6_takesE_28 k n55 0 0 1 σ54))))))
set_option maxRecDepth 100000 in
set_option maxHeartbeats 4000000 in
theorem c_X6_takesE {σ : ovSt} {k : Int32 → ovSt → Prop} (hF : F_X6_takesE σ k) : ov_Ct 3 yX6_takesE cX6_takesE 5 (some .boolean) ov_S0 [.ref 74] σ (ovKi k) := by
  refine ov_Ct.of (by decide) (Nat.le_of_ble_eq_true rfl) ?_
  unfold F_X6_takesE at hF
  show vv_X6_takesE k 0 [(0, .ref 74)] [] σ
  refine ov_iconst 0 (by decide) dX6_takesE_0 ?_
  refine ov_istore_n dX6_takesE_1 (Nat.le_of_ble_eq_true rfl) [(1, .int 0), (0, .ref 74)] rfl ?_
  refine ov_iconst 0 (by decide) dX6_takesE_2 ?_
  refine ov_istore_n dX6_takesE_3 (Nat.le_of_ble_eq_true rfl) [(2, .int 0), (1, .int 0), (0, .ref 74)] rfl ?_
  refine ov_iconst 1 (by decide) dX6_takesE_4 ?_
  refine ov_istore_n dX6_takesE_5 (Nat.le_of_ble_eq_true rfl) [(3, .int 1), (2, .int 0), (1, .int 0), (0, .ref 74)] rfl ?_
  refine ov_aload_n dX6_takesE_6 3 rfl ?_
  refine ov_iconst 0 (by decide) dX6_takesE_7 ?_
  refine ov_puti (T := TX6) (kf := 18) dX6_takesE_8 qf_X6_231 sh_74 rfl (Nat.le_of_ble_eq_true rfl) rfl rfl (by decide +kernel) ?_
  refine ov_nmS (fun σ50 es50 => ?_)
  have hF := hF σ50 es50
  refine ov_aload_n dX6_takesE_11 3 rfl ?_
  refine ov_iconst 0 (by decide) dX6_takesE_12 ?_
  refine ov_puti (T := TX6) (kf := 19) dX6_takesE_13 qf_X6_237 sh_74 rfl (Nat.le_of_ble_eq_true rfl) rfl rfl (by decide +kernel) ?_
  refine ov_nmS (fun σ51 es51 => ?_)
  have hF := hF σ51 es51
  refine ov_aload_n dX6_takesE_16 3 rfl ?_
  refine ov_iconst 0 (by decide) dX6_takesE_17 ?_
  refine ov_puti (T := TX6) (kf := 21) dX6_takesE_18 qf_X6_225 sh_74 rfl (Nat.le_of_ble_eq_true rfl) rfl rfl (by decide +kernel) ?_
  refine ov_nmS (fun σ52 es52 => ?_)
  have hF := hF σ52 es52
  refine ov_aload_n dX6_takesE_21 3 rfl ?_
  refine ov_getr (T := TX6) (kf := 22) dX6_takesE_22 qf_X6_44 sh_74 rfl (Nat.le_of_ble_eq_true rfl) rfl (by decide) ?_
  refine ov_iconst 0 (by decide) dX6_takesE_25 ?_
  refine ov_iconst 0 (by decide) dX6_takesE_26 ?_
  have h53 := hF.1
  have hF := hF.2
  refine ov_zastore dX6_takesE_27 sh_86 h53 ?_
  refine ov_nmS (fun σ54 es54 => ?_)
  have hF := hF σ54 es54
  refine ov_pick [3, 2, 1, 0] [(0, .ref 74), (1, .int 0), (2, .int 0), (3, .int 1)] rfl ?_
  obtain ⟨n55, hF⟩ := hF
  exact V_X6_takesE_28 n55 0 0 1 σ54 hF
/-! X6_text -/
abbrev vv_X6_text (k : Int32 → ovSt → Prop) (pc : Nat) (L : List (Nat × Value)) (st : List Value) (σ : ovSt) : Prop := ov_V (ovZs 4 yX6_text cX6_text 4) (ovKs (some .int) ov_S0 (ovKi k)) (0, 0) ov_S0 pc L st σ
def F_X6_text_117 (k : Int32 → ovSt → Prop) : Nat → Int32 → Int32 → ovSt → Prop
  | 0 => fun _ _ _ => False
  | n + 1 => fun x2 x3 σ => (if (σ 74 18) ≤ x3 then (vp_in 7 1412 ∧ (∀ σ2 : ovSt, σ2 = ov_up σ 75 (Int32.toNatClampNeg 7) ((σ 75 (Int32.toNatClampNeg 7)) + 1) → (k x2 σ2))) else (vp_in x3 96 ∧ (vp_in ((68 + (96 * x2)) + x3) 1412 ∧ (∀ σ5 : ovSt, σ5 = ov_up σ 75 (Int32.toNatClampNeg ((68 + (96 * x2)) + x3)) (σ 84 (Int32.toNatClampNeg x3)) → F_X6_text_117 k n x2 (x3 + 1) σ5))))
set_option maxRecDepth 100000 in
set_option maxHeartbeats 4000000 in
theorem V_X6_text_117 {k : Int32 → ovSt → Prop} : ∀ (n : Nat) (x2 : Int32) (x3 : Int32) (σ : ovSt), F_X6_text_117 k n x2 x3 σ → vv_X6_text k 117 [(0, .ref 74), (2, .int x2), (3, .int x3)] [] σ := by
  intro n
  induction n with
  | zero => intro x2 x3 σ hF; exact hF.elim
  | succ n ih =>
    intro x2 x3 σ hF
    unfold F_X6_text_117 at hF
    refine ov_iload_n dX6_text_117 2 rfl ?_
    refine ov_aload_n dX6_text_118 0 rfl ?_
    refine ov_geti (T := TX6) (kf := 18) dX6_text_119 qf_X6_231 sh_74 rfl (Nat.le_of_ble_eq_true rfl) rfl ?_
    refine ov_icmp_ge 151 dX6_text_122 (by decide) hF (fun hF => ?_) (fun hF => ?_)
    · refine ov_aload_n dX6_text_151 0 rfl ?_
      refine ov_getr (T := TX6) (kf := 0) dX6_text_152 qf_X6_9 sh_74 rfl (Nat.le_of_ble_eq_true rfl) rfl (by decide) ?_
      refine ov_bipush 7 (by decide) dX6_text_155 ?_
      refine ov_dup2 rfl rfl dX6_text_157 ?_
      have h1 := hF.1
      have hF := hF.2
      refine ov_iaload dX6_text_158 sh_75 h1 ?_
      refine ov_iconst 1 (by decide) dX6_text_159 ?_
      refine ov_iadd dX6_text_160 ?_
      refine ov_iastore dX6_text_161 sh_75 h1 ?_
      refine ov_nmS (fun σ2 es2 => ?_)
      have hF := hF σ2 es2
      refine ov_iload_n dX6_text_162 1 rfl ?_
      exact ov_ireturn dX6_text_163 (Nat.le_refl _) (Nat.le_refl _) ⟨rfl, trivial, _, rfl, hF⟩
    · refine ov_aload_n dX6_text_125 0 rfl ?_
      refine ov_getr (T := TX6) (kf := 0) dX6_text_126 qf_X6_9 sh_74 rfl (Nat.le_of_ble_eq_true rfl) rfl (by decide) ?_
      refine ov_bipush 68 (by decide) dX6_text_129 ?_
      refine ov_bipush 96 (by decide) dX6_text_131 ?_
      refine ov_iload_n dX6_text_133 1 rfl ?_
      refine ov_imul dX6_text_134 ?_
      refine ov_iadd dX6_text_135 ?_
      refine ov_iload_n dX6_text_136 2 rfl ?_
      refine ov_iadd dX6_text_137 ?_
      refine ov_aload_n dX6_text_138 0 rfl ?_
      refine ov_getr (T := TX6) (kf := 17) dX6_text_139 qf_X6_38 sh_74 rfl (Nat.le_of_ble_eq_true rfl) rfl (by decide) ?_
      refine ov_iload_n dX6_text_142 2 rfl ?_
      have h3 := hF.1
      have hF := hF.2
      refine ov_iaload dX6_text_143 sh_84 h3 ?_
      have h4 := hF.1
      have hF := hF.2
      refine ov_iastore dX6_text_144 sh_75 h4 ?_
      refine ov_nmS (fun σ5 es5 => ?_)
      have hF := hF σ5 es5
      refine ov_iinc dX6_text_145 2 rfl (x3 + 1) rfl (Nat.le_of_ble_eq_true rfl) [(3, .int (x3 + 1)), (0, .ref 74), (2, .int x2)] rfl ?_
      refine ov_goto 117 dX6_text_148 (by decide) ?_
      refine ov_pick [1, 2, 0] [(0, .ref 74), (2, .int x2), (3, .int (x3 + 1))] rfl ?_
      exact ih x2 (x3 + 1) σ5 hF
def F_X6_text_33 (k : Int32 → ovSt → Prop) (t0 : Int32) (σ : ovSt) : Prop := (∀ σ6 : ovSt, σ6 = ov_up σ 74 8 0 → (if t0 = 0 then (k ((-100) - (σ6 74 10)) σ6) else (vp_in 7 1412 ∧ (if (σ6 75 (Int32.toNatClampNeg 7)) = (14 : Int32) then (k (-1000000003) σ6) else (∀ v8 : Int32, v8 = (σ6 75 (Int32.toNatClampNeg 7)) → (vp_in (40 + (2 * v8)) 1412 ∧ (∀ σ10 : ovSt, σ10 = ov_up σ6 75 (Int32.toNatClampNeg (40 + (2 * v8))) ((1000 * (σ6 74 14)) + (σ6 74 18)) → (vp_in ((40 + (2 * v8)) + 1) 1412 ∧ (∀ σ12 : ovSt, σ12 = ov_up σ10 75 (Int32.toNatClampNeg ((40 + (2 * v8)) + 1)) (σ10 74 19) → (∃ n13, F_X6_text_117 k n13 v8 0 σ12))))))))))
set_option maxRecDepth 100000 in
set_option maxHeartbeats 4000000 in
theorem V_X6_text_33 {k : Int32 → ovSt → Prop} (t0 : Int32) (σ : ovSt) (hF : F_X6_text_33 k t0 σ) : vv_X6_text k 33 [(0, .ref 74)] [.int t0] σ := by
  unfold F_X6_text_33 at hF
  refine ov_istore_n dX6_text_33 (Nat.le_of_ble_eq_true rfl) [(1, .int t0), (0, .ref 74)] rfl ?_
  refine ov_aload_n dX6_text_34 1 rfl ?_
  refine ov_iconst 0 (by decide) dX6_text_35 ?_
  refine ov_puti (T := TX6) (kf := 8) dX6_text_36 qf_X6_194 sh_74 rfl (Nat.le_of_ble_eq_true rfl) rfl rfl (by decide +kernel) ?_
  refine ov_nmS (fun σ6 es6 => ?_)
  have hF := hF σ6 es6
  refine ov_iload_n dX6_text_39 0 rfl ?_
  refine ov_if_ne 51 dX6_text_40 (by decide) hF (fun hF => ?_) (fun hF => ?_)
  · refine ov_aload_n dX6_text_51 1 rfl ?_
    refine ov_getr (T := TX6) (kf := 0) dX6_text_52 qf_X6_9 sh_74 rfl (Nat.le_of_ble_eq_true rfl) rfl (by decide) ?_
    refine ov_bipush 7 (by decide) dX6_text_55 ?_
    have h7 := hF.1
    have hF := hF.2
    refine ov_iaload dX6_text_57 sh_75 h7 ?_
    refine ov_bipush 14 (by decide) dX6_text_58 ?_
    refine ov_icmp_ne 66 dX6_text_60 (by decide) hF (fun hF => ?_) (fun hF => ?_)
    · refine ov_aload_n dX6_text_66 1 rfl ?_
      refine ov_getr (T := TX6) (kf := 0) dX6_text_67 qf_X6_9 sh_74 rfl (Nat.le_of_ble_eq_true rfl) rfl (by decide) ?_
      refine ov_bipush 7 (by decide) dX6_text_70 ?_
      refine ov_iaload dX6_text_72 sh_75 h7 ?_
      refine ov_nmI (fun v8 ev8 => ?_)
      have hF := hF v8 ev8
      refine ov_istore_n dX6_text_73 (Nat.le_of_ble_eq_true rfl) [(2, .int v8), (1, .int t0), (0, .ref 74)] rfl ?_
      refine ov_aload_n dX6_text_74 2 rfl ?_
      refine ov_getr (T := TX6) (kf := 0) dX6_text_75 qf_X6_9 sh_74 rfl (Nat.le_of_ble_eq_true rfl) rfl (by decide) ?_
      refine ov_bipush 40 (by decide) dX6_text_78 ?_
      refine ov_iconst 2 (by decide) dX6_text_80 ?_
      refine ov_iload_n dX6_text_81 0 rfl ?_
      refine ov_imul dX6_text_82 ?_
      refine ov_iadd dX6_text_83 ?_
      refine ov_sipush 1000 (by decide) dX6_text_84 ?_
      refine ov_aload_n dX6_text_87 2 rfl ?_
      refine ov_geti (T := TX6) (kf := 14) dX6_text_88 qf_X6_219 sh_74 rfl (Nat.le_of_ble_eq_true rfl) rfl ?_
      refine ov_imul dX6_text_91 ?_
      refine ov_aload_n dX6_text_92 2 rfl ?_
      refine ov_geti (T := TX6) (kf := 18) dX6_text_93 qf_X6_231 sh_74 rfl (Nat.le_of_ble_eq_true rfl) rfl ?_
      refine ov_iadd dX6_text_96 ?_
      have h9 := hF.1
      have hF := hF.2
      refine ov_iastore dX6_text_97 sh_75 h9 ?_
      refine ov_nmS (fun σ10 es10 => ?_)
      have hF := hF σ10 es10
      refine ov_aload_n dX6_text_98 2 rfl ?_
      refine ov_getr (T := TX6) (kf := 0) dX6_text_99 qf_X6_9 sh_74 rfl (Nat.le_of_ble_eq_true rfl) rfl (by decide) ?_
      refine ov_bipush 40 (by decide) dX6_text_102 ?_
      refine ov_iconst 2 (by decide) dX6_text_104 ?_
      refine ov_iload_n dX6_text_105 0 rfl ?_
      refine ov_imul dX6_text_106 ?_
      refine ov_iadd dX6_text_107 ?_
      refine ov_iconst 1 (by decide) dX6_text_108 ?_
      refine ov_iadd dX6_text_109 ?_
      refine ov_aload_n dX6_text_110 2 rfl ?_
      refine ov_geti (T := TX6) (kf := 19) dX6_text_111 qf_X6_237 sh_74 rfl (Nat.le_of_ble_eq_true rfl) rfl ?_
      have h11 := hF.1
      have hF := hF.2
      refine ov_iastore dX6_text_114 sh_75 h11 ?_
      refine ov_nmS (fun σ12 es12 => ?_)
      have hF := hF σ12 es12
      refine ov_iconst 0 (by decide) dX6_text_115 ?_
      refine ov_istore_n dX6_text_116 (Nat.le_of_ble_eq_true rfl) [(3, .int 0), (2, .int v8), (1, .int t0), (0, .ref 74)] rfl ?_
      refine ov_pick [3, 1, 0] [(0, .ref 74), (2, .int v8), (3, .int 0)] rfl ?_
      obtain ⟨n13, hF⟩ := hF
      exact V_X6_text_117 n13 v8 0 σ12 hF
    · refine ov_ldc dX6_text_63 qc_X6_91 ?_
      exact ov_ireturn dX6_text_65 (Nat.le_refl _) (Nat.le_refl _) ⟨rfl, trivial, _, rfl, hF⟩
  · refine ov_bipush (-100) (by decide) dX6_text_43 ?_
    refine ov_aload_n dX6_text_45 1 rfl ?_
    refine ov_geti (T := TX6) (kf := 10) dX6_text_46 qf_X6_201 sh_74 rfl (Nat.le_of_ble_eq_true rfl) rfl ?_
    refine ov_isub dX6_text_49 ?_
    exact ov_ireturn dX6_text_50 (Nat.le_refl _) (Nat.le_refl _) ⟨rfl, trivial, _, rfl, hF⟩
def F_X6_text_32 (k : Int32 → ovSt → Prop) (σ : ovSt) : Prop := (F_X6_text_33 k 0 σ)
set_option maxRecDepth 100000 in
set_option maxHeartbeats 4000000 in
theorem V_X6_text_32 {k : Int32 → ovSt → Prop} (σ : ovSt) (hF : F_X6_text_32 k σ) : vv_X6_text k 32 [(0, .ref 74)] [] σ := by
  unfold F_X6_text_32 at hF
  refine ov_iconst 0 (by decide) dX6_text_32 ?_
  exact V_X6_text_33 0 σ hF
def F_X6_text (σ : ovSt) (k : Int32 → ovSt → Prop) : Prop := (∀ σ14 : ovSt, σ14 = ov_up σ 74 9 0 → (∀ σ15 : ovSt, σ15 = ov_up σ14 74 13 (-1) → (F_X6_go σ15 (fun σ17 => (F_X6_takesKey σ17 (fun v18 σ19 => (if v18 = 0 then (F_X6_text_32 k σ19) else (F_X6_takesE σ19 (fun v20 σ21 => (if v20 = 0 then (F_X6_text_32 k σ21) else (F_X6_text_33 k 1 σ21)))))))))))
set_option maxRecDepth 100000 in
set_option maxHeartbeats 4000000 in
theorem c_X6_text {σ : ovSt} {k : Int32 → ovSt → Prop} (hF : F_X6_text σ k) : ov_Ct 4 yX6_text cX6_text 4 (some .int) ov_S0 [.ref 74] σ (ovKi k) := by
  refine ov_Ct.of (by decide) (Nat.le_of_ble_eq_true rfl) ?_
  unfold F_X6_text at hF
  show vv_X6_text k 0 [(0, .ref 74)] [] σ
  refine ov_aload_n dX6_text_0 0 rfl ?_
  refine ov_iconst 0 (by decide) dX6_text_1 ?_
  refine ov_puti (T := TX6) (kf := 9) dX6_text_2 qf_X6_198 sh_74 rfl (Nat.le_of_ble_eq_true rfl) rfl rfl (by decide +kernel) ?_
  refine ov_nmS (fun σ14 es14 => ?_)
  have hF := hF σ14 es14
  refine ov_aload_n dX6_text_5 0 rfl ?_
  refine ov_iconst (-1) (by decide) dX6_text_6 ?_
  refine ov_puti (T := TX6) (kf := 13) dX6_text_7 qf_X6_204 sh_74 rfl (Nat.le_of_ble_eq_true rfl) rfl rfl (by decide +kernel) ?_
  refine ov_nmS (fun σ15 es15 => ?_)
  have hF := hF σ15 es15
  refine ov_aload_n dX6_text_10 0 rfl ?_
  refine ov_callV [] dX6_text_11 (c_X6_go hF) (Nat.le_of_ble_eq_true rfl) (Nat.le_of_ble_eq_true rfl) lk_X6_222 sh_74 rfl (Nat.le_of_ble_eq_true rfl) (Nat.le_refl _) (Nat.le_refl _) (fun rr σ17 hF => ?_)
  obtain ⟨rfl, hF⟩ := hF
  show vv_X6_text k 14 [(0, .ref 74)] [] σ17
  refine ov_aload_n dX6_text_14 0 rfl ?_
  refine ov_callV [] dX6_text_15 (c_X6_takesKey hF) (Nat.le_of_ble_eq_true rfl) (Nat.le_of_ble_eq_true rfl) lk_X6_253 sh_74 rfl (Nat.le_of_ble_eq_true rfl) (Nat.le_refl _) (Nat.le_refl _) (fun rr σ19 hF => ?_)
  obtain ⟨v18, rfl, hF⟩ := hF
  show vv_X6_text k 18 [(0, .ref 74)] [.int v18] σ19
  refine ov_if_eq 32 dX6_text_18 (by decide) hF (fun hF => ?_) (fun hF => ?_)
  · exact V_X6_text_32 σ19 hF
  · refine ov_aload_n dX6_text_21 0 rfl ?_
    refine ov_callV [] dX6_text_22 (c_X6_takesE hF) (Nat.le_of_ble_eq_true rfl) (Nat.le_of_ble_eq_true rfl) lk_X6_256 sh_74 rfl (Nat.le_of_ble_eq_true rfl) (Nat.le_refl _) (Nat.le_refl _) (fun rr σ21 hF => ?_)
    obtain ⟨v20, rfl, hF⟩ := hF
    show vv_X6_text k 25 [(0, .ref 74)] [.int v20] σ21
    refine ov_if_eq 32 dX6_text_25 (by decide) hF (fun hF => ?_) (fun hF => ?_)
    · exact V_X6_text_32 σ21 hF
    · refine ov_iconst 1 (by decide) dX6_text_28 ?_
      refine ov_goto 33 dX6_text_29 (by decide) ?_
      exact V_X6_text_33 1 σ21 hF
/-! X6_textTold -/
abbrev vv_X6_textTold (k : Int32 → ovSt → Prop) (pc : Nat) (L : List (Nat × Value)) (st : List Value) (σ : ovSt) : Prop := ov_V (ovZs 1 yX6_textTold cX6_textTold 3) (ovKs (some .int) ov_S0 (ovKi k)) (0, 0) ov_S0 pc L st σ
def F_X6_textTold_26 (k : Int32 → ovSt → Prop) (σ : ovSt) : Prop := (k (-1000000001) σ)
set_option maxRecDepth 100000 in
set_option maxHeartbeats 4000000 in
theorem V_X6_textTold_26 {k : Int32 → ovSt → Prop} (σ : ovSt) (hF : F_X6_textTold_26 k σ) : vv_X6_textTold k 26 [] [] σ := by
  unfold F_X6_textTold_26 at hF
  refine ov_ldc dX6_textTold_26 qc_X6_90 ?_
  exact ov_ireturn dX6_textTold_28 (Nat.le_refl _) (Nat.le_refl _) ⟨rfl, trivial, _, rfl, hF⟩
def F_X6_textTold_64 (k : Int32 → ovSt → Prop) (t0 : Int32) (σ : ovSt) : Prop := (k t0 σ)
set_option maxRecDepth 100000 in
set_option maxHeartbeats 4000000 in
theorem V_X6_textTold_64 {k : Int32 → ovSt → Prop} (t0 : Int32) (σ : ovSt) (hF : F_X6_textTold_64 k t0 σ) : vv_X6_textTold k 64 [] [.int t0] σ := by
  unfold F_X6_textTold_64 at hF
  exact ov_ireturn dX6_textTold_64 (Nat.le_refl _) (Nat.le_refl _) ⟨rfl, trivial, _, rfl, hF⟩
def F_X6_textTold (x1 : Int32) (x2 : Int32) (σ : ovSt) (k : Int32 → ovSt → Prop) : Prop := (vp_in 7 1412 ∧ (F_X6_in x1 0 ((σ 75 (Int32.toNatClampNeg 7)) - 1) σ (fun v2 σ3 => (if v2 = 0 then (F_X6_textTold_26 k σ3) else (F_X6_in x2 0 1 σ3 (fun v4 σ5 => (if v4 = 0 then (F_X6_textTold_26 k σ5) else (if x2 = 0 then (vp_in (40 + (2 * x1)) 1412 ∧ (F_X6_textTold_64 k ((σ5 75 (Int32.toNatClampNeg (40 + (2 * x1)))) / 1000) σ5)) else (vp_in ((40 + (2 * x1)) + 1) 1412 ∧ (F_X6_textTold_64 k (σ5 75 (Int32.toNatClampNeg ((40 + (2 * x1)) + 1))) σ5))))))))))
set_option maxRecDepth 100000 in
set_option maxHeartbeats 4000000 in
theorem c_X6_textTold {x1 : Int32} {x2 : Int32} {σ : ovSt} {k : Int32 → ovSt → Prop} (hF : F_X6_textTold x1 x2 σ k) : ov_Ct 1 yX6_textTold cX6_textTold 3 (some .int) ov_S0 [.ref 74, .int x1, .int x2] σ (ovKi k) := by
  refine ov_Ct.of (by decide) (Nat.le_of_ble_eq_true rfl) ?_
  unfold F_X6_textTold at hF
  show vv_X6_textTold k 0 [(0, .ref 74), (1, .int x1), (2, .int x2)] [] σ
  refine ov_iload_n dX6_textTold_0 1 rfl ?_
  refine ov_iconst 0 (by decide) dX6_textTold_1 ?_
  refine ov_aload_n dX6_textTold_2 0 rfl ?_
  refine ov_getr (T := TX6) (kf := 0) dX6_textTold_3 qf_X6_9 sh_74 rfl (Nat.le_of_ble_eq_true rfl) rfl (by decide) ?_
  refine ov_bipush 7 (by decide) dX6_textTold_6 ?_
  have h1 := hF.1
  have hF := hF.2
  refine ov_iaload dX6_textTold_8 sh_75 h1 ?_
  refine ov_iconst 1 (by decide) dX6_textTold_9 ?_
  refine ov_isub dX6_textTold_10 ?_
  refine ov_callS [.int x1, .int 0, .int ((σ 75 (Int32.toNatClampNeg 7)) - 1)] dX6_textTold_11 (c_X6_in hF) (Nat.le_of_ble_eq_true rfl) (Nat.le_of_ble_eq_true rfl) lk_X6_82 (Nat.le_of_ble_eq_true rfl) (Nat.le_refl _) (Nat.le_refl _) (fun rr σ3 hF => ?_)
  obtain ⟨v2, rfl, hF⟩ := hF
  show vv_X6_textTold k 14 [(0, .ref 74), (1, .int x1), (2, .int x2)] [.int v2] σ3
  refine ov_if_eq 26 dX6_textTold_14 (by decide) hF (fun hF => ?_) (fun hF => ?_)
  · refine ov_pick [] [] rfl ?_
    exact V_X6_textTold_26 σ3 hF
  · refine ov_iload_n dX6_textTold_17 2 rfl ?_
    refine ov_iconst 0 (by decide) dX6_textTold_18 ?_
    refine ov_iconst 1 (by decide) dX6_textTold_19 ?_
    refine ov_callS [.int x2, .int 0, .int 1] dX6_textTold_20 (c_X6_in hF) (Nat.le_of_ble_eq_true rfl) (Nat.le_of_ble_eq_true rfl) lk_X6_82 (Nat.le_of_ble_eq_true rfl) (Nat.le_refl _) (Nat.le_refl _) (fun rr σ5 hF => ?_)
    obtain ⟨v4, rfl, hF⟩ := hF
    show vv_X6_textTold k 23 [(0, .ref 74), (1, .int x1), (2, .int x2)] [.int v4] σ5
    refine ov_if_ne 29 dX6_textTold_23 (by decide) hF (fun hF => ?_) (fun hF => ?_)
    · refine ov_iload_n dX6_textTold_29 2 rfl ?_
      refine ov_if_ne 51 dX6_textTold_30 (by decide) hF (fun hF => ?_) (fun hF => ?_)
      · refine ov_aload_n dX6_textTold_51 0 rfl ?_
        refine ov_getr (T := TX6) (kf := 0) dX6_textTold_52 qf_X6_9 sh_74 rfl (Nat.le_of_ble_eq_true rfl) rfl (by decide) ?_
        refine ov_bipush 40 (by decide) dX6_textTold_55 ?_
        refine ov_iconst 2 (by decide) dX6_textTold_57 ?_
        refine ov_iload_n dX6_textTold_58 1 rfl ?_
        refine ov_imul dX6_textTold_59 ?_
        refine ov_iadd dX6_textTold_60 ?_
        refine ov_iconst 1 (by decide) dX6_textTold_61 ?_
        refine ov_iadd dX6_textTold_62 ?_
        have h6 := hF.1
        have hF := hF.2
        refine ov_iaload dX6_textTold_63 sh_75 h6 ?_
        refine ov_pick [] [] rfl ?_
        exact V_X6_textTold_64 (σ5 75 (Int32.toNatClampNeg ((40 + (2 * x1)) + 1))) σ5 hF
      · refine ov_aload_n dX6_textTold_33 0 rfl ?_
        refine ov_getr (T := TX6) (kf := 0) dX6_textTold_34 qf_X6_9 sh_74 rfl (Nat.le_of_ble_eq_true rfl) rfl (by decide) ?_
        refine ov_bipush 40 (by decide) dX6_textTold_37 ?_
        refine ov_iconst 2 (by decide) dX6_textTold_39 ?_
        refine ov_iload_n dX6_textTold_40 1 rfl ?_
        refine ov_imul dX6_textTold_41 ?_
        refine ov_iadd dX6_textTold_42 ?_
        have h7 := hF.1
        have hF := hF.2
        refine ov_iaload dX6_textTold_43 sh_75 h7 ?_
        refine ov_sipush 1000 (by decide) dX6_textTold_44 ?_
        refine ov_idiv (by decide) dX6_textTold_47 ?_
        refine ov_goto 64 dX6_textTold_48 (by decide) ?_
        refine ov_pick [] [] rfl ?_
        exact V_X6_textTold_64 ((σ5 75 (Int32.toNatClampNeg (40 + (2 * x1)))) / 1000) σ5 hF
    · refine ov_pick [] [] rfl ?_
      exact V_X6_textTold_26 σ5 hF
/-! X6_why -/
abbrev vv_X6_why (k : Int32 → ovSt → Prop) (pc : Nat) (L : List (Nat × Value)) (st : List Value) (σ : ovSt) : Prop := ov_V (ovZs 1 yX6_why cX6_why 3) (ovKs (some .int) ov_S0 (ovKi k)) (0, 0) ov_S0 pc L st σ
def F_X6_why_28 (k : Int32 → ovSt → Prop) (t0 : Int32) (σ : ovSt) : Prop := (k t0 σ)
set_option maxRecDepth 100000 in
set_option maxHeartbeats 4000000 in
theorem V_X6_why_28 {k : Int32 → ovSt → Prop} (t0 : Int32) (σ : ovSt) (hF : F_X6_why_28 k t0 σ) : vv_X6_why k 28 [] [.int t0] σ := by
  unfold F_X6_why_28 at hF
  exact ov_ireturn dX6_why_28 (Nat.le_refl _) (Nat.le_refl _) ⟨rfl, trivial, _, rfl, hF⟩
def F_X6_why (x1 : Int32) (σ : ovSt) (k : Int32 → ovSt → Prop) : Prop := (F_X6_in x1 0 2 σ (fun v1 σ2 => (if v1 = 0 then (k (-1000000001) σ2) else (F_X6_counts x1 σ2 (fun v3 σ4 => (if 0 ≤ v3 then (F_X6_why_28 k v3 σ4) else (F_X6_why_28 k (-1000000005) σ4)))))))
set_option maxRecDepth 100000 in
set_option maxHeartbeats 4000000 in
theorem c_X6_why {x1 : Int32} {σ : ovSt} {k : Int32 → ovSt → Prop} (hF : F_X6_why x1 σ k) : ov_Ct 1 yX6_why cX6_why 3 (some .int) ov_S0 [.ref 74, .int x1] σ (ovKi k) := by
  refine ov_Ct.of (by decide) (Nat.le_of_ble_eq_true rfl) ?_
  unfold F_X6_why at hF
  show vv_X6_why k 0 [(0, .ref 74), (1, .int x1)] [] σ
  refine ov_iload_n dX6_why_0 1 rfl ?_
  refine ov_iconst 0 (by decide) dX6_why_1 ?_
  refine ov_iconst 2 (by decide) dX6_why_2 ?_
  refine ov_callS [.int x1, .int 0, .int 2] dX6_why_3 (c_X6_in hF) (Nat.le_of_ble_eq_true rfl) (Nat.le_of_ble_eq_true rfl) lk_X6_82 (Nat.le_of_ble_eq_true rfl) (Nat.le_refl _) (Nat.le_refl _) (fun rr σ2 hF => ?_)
  obtain ⟨v1, rfl, hF⟩ := hF
  show vv_X6_why k 6 [(0, .ref 74), (1, .int x1)] [.int v1] σ2
  refine ov_if_ne 12 dX6_why_6 (by decide) hF (fun hF => ?_) (fun hF => ?_)
  · refine ov_aload_n dX6_why_12 0 rfl ?_
    refine ov_iload_n dX6_why_13 1 rfl ?_
    refine ov_callV [.int x1] dX6_why_14 (c_X6_counts hF) (Nat.le_of_ble_eq_true rfl) (Nat.le_of_ble_eq_true rfl) lk_X6_112 sh_74 rfl (Nat.le_of_ble_eq_true rfl) (Nat.le_refl _) (Nat.le_refl _) (fun rr σ4 hF => ?_)
    obtain ⟨v3, rfl, hF⟩ := hF
    show vv_X6_why k 17 [(0, .ref 74), (1, .int x1)] [.int v3] σ4
    refine ov_istore_n dX6_why_17 (Nat.le_of_ble_eq_true rfl) [(2, .int v3), (0, .ref 74), (1, .int x1)] rfl ?_
    refine ov_iload_n dX6_why_18 0 rfl ?_
    refine ov_if_ge 27 dX6_why_19 (by decide) hF (fun hF => ?_) (fun hF => ?_)
    · refine ov_iload_n dX6_why_27 0 rfl ?_
      refine ov_pick [] [] rfl ?_
      exact V_X6_why_28 v3 σ4 hF
    · refine ov_ldc dX6_why_22 qc_X6_81 ?_
      refine ov_goto 28 dX6_why_24 (by decide) ?_
      refine ov_pick [] [] rfl ?_
      exact V_X6_why_28 (-1000000005) σ4 hF
  · refine ov_ldc dX6_why_9 qc_X6_90 ?_
    exact ov_ireturn dX6_why_11 (Nat.le_refl _) (Nat.le_refl _) ⟨rfl, trivial, _, rfl, hF⟩
/-! X6_isSlot -/
abbrev vv_X6_isSlot (k : Int32 → ovSt → Prop) (pc : Nat) (L : List (Nat × Value)) (st : List Value) (σ : ovSt) : Prop := ov_V (ovZs 1 yX6_isSlot cX6_isSlot 1) (ovKs (some .boolean) ov_S0 (ovKi k)) (0, 0) ov_S0 pc L st σ
def F_X6_isSlot (x0 : Int32) (σ : ovSt) (k : Int32 → ovSt → Prop) : Prop := (F_X6_in x0 0 4 σ (fun v1 σ2 => (ov_bl v1 ∧ (k v1 σ2))))
set_option maxRecDepth 100000 in
set_option maxHeartbeats 4000000 in
theorem c_X6_isSlot {x0 : Int32} {σ : ovSt} {k : Int32 → ovSt → Prop} (hF : F_X6_isSlot x0 σ k) : ov_Ct 1 yX6_isSlot cX6_isSlot 1 (some .boolean) ov_S0 [.int x0] σ (ovKi k) := by
  refine ov_Ct.of (by decide) (Nat.le_of_ble_eq_true rfl) ?_
  unfold F_X6_isSlot at hF
  show vv_X6_isSlot k 0 [(0, .int x0)] [] σ
  refine ov_iload_n dX6_isSlot_0 0 rfl ?_
  refine ov_iconst 0 (by decide) dX6_isSlot_1 ?_
  refine ov_iconst 4 (by decide) dX6_isSlot_2 ?_
  refine ov_callS [.int x0, .int 0, .int 4] dX6_isSlot_3 (c_X6_in hF) (Nat.le_of_ble_eq_true rfl) (Nat.le_of_ble_eq_true rfl) lk_X6_82 (Nat.le_of_ble_eq_true rfl) (Nat.le_refl _) (Nat.le_refl _) (fun rr σ2 hF => ?_)
  obtain ⟨v1, rfl, hF⟩ := hF
  show vv_X6_isSlot k 6 [(0, .int x0)] [.int v1] σ2
  have h3 := hF.1
  have hF := hF.2
  exact ov_ireturn dX6_isSlot_6 (Nat.le_refl _) (Nat.le_refl _) ⟨rfl, h3, _, rfl, hF⟩
/-! X6_sheet -/
abbrev vv_X6_sheet (k : Int32 → ovSt → Prop) (pc : Nat) (L : List (Nat × Value)) (st : List Value) (σ : ovSt) : Prop := ov_V (ovZs 2 yX6_sheet cX6_sheet 5) (ovKs (some .int) ov_S0 (ovKi k)) (0, 0) ov_S0 pc L st σ
def F_X6_sheet_26 (k : Int32 → ovSt → Prop) (σ : ovSt) : Prop := (k (-1000000001) σ)
set_option maxRecDepth 100000 in
set_option maxHeartbeats 4000000 in
theorem V_X6_sheet_26 {k : Int32 → ovSt → Prop} (σ : ovSt) (hF : F_X6_sheet_26 k σ) : vv_X6_sheet k 26 [] [] σ := by
  unfold F_X6_sheet_26 at hF
  refine ov_ldc dX6_sheet_26 qc_X6_90 ?_
  exact ov_ireturn dX6_sheet_28 (Nat.le_refl _) (Nat.le_refl _) ⟨rfl, trivial, _, rfl, hF⟩
def F_X6_sheet_66 (k : Int32 → ovSt → Prop) : Nat → Int32 → Int32 → ovSt → Prop
  | 0 => fun _ _ _ => False
  | n + 1 => fun x1 x4 σ => (if (24 : Int32) ≤ x4 then (vp_in x1 4 ∧ (k (σ 90 (Int32.toNatClampNeg x1)) σ)) else (vp_in ((24 * x1) + x4) 96 ∧ (∀ σ3 : ovSt, σ3 = ov_up σ 91 (Int32.toNatClampNeg ((24 * x1) + x4)) 0 → F_X6_sheet_66 k n x1 (x4 + 1) σ3)))
set_option maxRecDepth 100000 in
set_option maxHeartbeats 4000000 in
theorem V_X6_sheet_66 {k : Int32 → ovSt → Prop} : ∀ (n : Nat) (x1 : Int32) (x4 : Int32) (σ : ovSt), F_X6_sheet_66 k n x1 x4 σ → vv_X6_sheet k 66 [(0, .ref 74), (1, .int x1), (4, .int x4)] [] σ := by
  intro n
  induction n with
  | zero => intro x1 x4 σ hF; exact hF.elim
  | succ n ih =>
    intro x1 x4 σ hF
    unfold F_X6_sheet_66 at hF
    refine ov_iload dX6_sheet_66 2 rfl ?_
    refine ov_bipush 24 (by decide) dX6_sheet_68 ?_
    refine ov_icmp_ge 92 dX6_sheet_70 (by decide) hF (fun hF => ?_) (fun hF => ?_)
    · refine ov_aload_n dX6_sheet_92 0 rfl ?_
      refine ov_getr (T := TX6) (kf := 26) dX6_sheet_93 qf_X6_57 sh_74 rfl (Nat.le_of_ble_eq_true rfl) rfl (by decide) ?_
      refine ov_iload_n dX6_sheet_96 1 rfl ?_
      have h1 := hF.1
      have hF := hF.2
      refine ov_iaload dX6_sheet_97 sh_90 h1 ?_
      exact ov_ireturn dX6_sheet_98 (Nat.le_refl _) (Nat.le_refl _) ⟨rfl, trivial, _, rfl, hF⟩
    · refine ov_aload_n dX6_sheet_73 0 rfl ?_
      refine ov_getr (T := TX6) (kf := 27) dX6_sheet_74 qf_X6_60 sh_74 rfl (Nat.le_of_ble_eq_true rfl) rfl (by decide) ?_
      refine ov_bipush 24 (by decide) dX6_sheet_77 ?_
      refine ov_iload_n dX6_sheet_79 1 rfl ?_
      refine ov_imul dX6_sheet_80 ?_
      refine ov_iload dX6_sheet_81 2 rfl ?_
      refine ov_iadd dX6_sheet_83 ?_
      refine ov_iconst 0 (by decide) dX6_sheet_84 ?_
      have h2 := hF.1
      have hF := hF.2
      refine ov_iastore dX6_sheet_85 sh_91 h2 ?_
      refine ov_nmS (fun σ3 es3 => ?_)
      have hF := hF σ3 es3
      refine ov_iinc dX6_sheet_86 2 rfl (x4 + 1) rfl (Nat.le_of_ble_eq_true rfl) [(4, .int (x4 + 1)), (0, .ref 74), (1, .int x1)] rfl ?_
      refine ov_goto 66 dX6_sheet_89 (by decide) ?_
      refine ov_pick [1, 2, 0] [(0, .ref 74), (1, .int x1), (4, .int (x4 + 1))] rfl ?_
      exact ih x1 (x4 + 1) σ3 hF
def F_X6_sheet_62 (k : Int32 → ovSt → Prop) (x1 : Int32) (t0 : Int32) (t1 : Int32) (σ : ovSt) : Prop := (vp_in t1 4 ∧ (∀ σ5 : ovSt, σ5 = ov_up σ 90 (Int32.toNatClampNeg t1) t0 → (∃ n6, F_X6_sheet_66 k n6 x1 0 σ5)))
set_option maxRecDepth 100000 in
set_option maxHeartbeats 4000000 in
theorem V_X6_sheet_62 {k : Int32 → ovSt → Prop} (x1 : Int32) (t0 : Int32) (t1 : Int32) (σ : ovSt) (hF : F_X6_sheet_62 k x1 t0 t1 σ) : vv_X6_sheet k 62 [(0, .ref 74), (1, .int x1)] [.int t0, .int t1, .ref 90] σ := by
  unfold F_X6_sheet_62 at hF
  have h4 := hF.1
  have hF := hF.2
  refine ov_iastore dX6_sheet_62 sh_90 h4 ?_
  refine ov_nmS (fun σ5 es5 => ?_)
  have hF := hF σ5 es5
  refine ov_iconst 0 (by decide) dX6_sheet_63 ?_
  refine ov_istore dX6_sheet_64 (Nat.le_of_ble_eq_true rfl) [(4, .int 0), (0, .ref 74), (1, .int x1)] rfl ?_
  refine ov_pick [1, 2, 0] [(0, .ref 74), (1, .int x1), (4, .int 0)] rfl ?_
  obtain ⟨n6, hF⟩ := hF
  exact V_X6_sheet_66 n6 x1 0 σ5 hF
def F_X6_sheet_41 (k : Int32 → ovSt → Prop) (x1 : Int32) (x2 : Int32) (x3 : Int32) (σ : ovSt) : Prop := (vp_in x1 4 ∧ (∀ σ8 : ovSt, σ8 = ov_up σ 89 (Int32.toNatClampNeg x1) x2 → (if 0 ≤ x2 then (F_X6_sheet_62 k x1 x3 x1 σ8) else (F_X6_sheet_62 k x1 0 x1 σ8))))
set_option maxRecDepth 100000 in
set_option maxHeartbeats 4000000 in
theorem V_X6_sheet_41 {k : Int32 → ovSt → Prop} (x1 : Int32) (x2 : Int32) (x3 : Int32) (σ : ovSt) (hF : F_X6_sheet_41 k x1 x2 x3 σ) : vv_X6_sheet k 41 [(0, .ref 74), (1, .int x1), (2, .int x2), (3, .int x3)] [] σ := by
  unfold F_X6_sheet_41 at hF
  refine ov_aload_n dX6_sheet_41 0 rfl ?_
  refine ov_getr (T := TX6) (kf := 25) dX6_sheet_42 qf_X6_54 sh_74 rfl (Nat.le_of_ble_eq_true rfl) rfl (by decide) ?_
  refine ov_iload_n dX6_sheet_45 1 rfl ?_
  refine ov_iload_n dX6_sheet_46 2 rfl ?_
  have h7 := hF.1
  have hF := hF.2
  refine ov_iastore dX6_sheet_47 sh_89 h7 ?_
  refine ov_nmS (fun σ8 es8 => ?_)
  have hF := hF σ8 es8
  refine ov_aload_n dX6_sheet_48 0 rfl ?_
  refine ov_getr (T := TX6) (kf := 26) dX6_sheet_49 qf_X6_57 sh_74 rfl (Nat.le_of_ble_eq_true rfl) rfl (by decide) ?_
  refine ov_iload_n dX6_sheet_52 1 rfl ?_
  refine ov_iload_n dX6_sheet_53 2 rfl ?_
  refine ov_if_ge 61 dX6_sheet_54 (by decide) hF (fun hF => ?_) (fun hF => ?_)
  · refine ov_iload_n dX6_sheet_61 3 rfl ?_
    refine ov_pick [0, 1] [(0, .ref 74), (1, .int x1)] rfl ?_
    exact V_X6_sheet_62 x1 x3 x1 σ8 hF
  · refine ov_iconst 0 (by decide) dX6_sheet_57 ?_
    refine ov_goto 62 dX6_sheet_58 (by decide) ?_
    refine ov_pick [0, 1] [(0, .ref 74), (1, .int x1)] rfl ?_
    exact V_X6_sheet_62 x1 0 x1 σ8 hF
def F_X6_sheet_29 (k : Int32 → ovSt → Prop) (x1 : Int32) (x2 : Int32) (x3 : Int32) (σ : ovSt) : Prop := (if x2 < 0 then (F_X6_sheet_41 k x1 x2 x3 σ) else (if 0 ≤ x3 then (F_X6_sheet_41 k x1 x2 x3 σ) else (k (-1000000014) σ)))
set_option maxRecDepth 100000 in
set_option maxHeartbeats 4000000 in
theorem V_X6_sheet_29 {k : Int32 → ovSt → Prop} (x1 : Int32) (x2 : Int32) (x3 : Int32) (σ : ovSt) (hF : F_X6_sheet_29 k x1 x2 x3 σ) : vv_X6_sheet k 29 [(0, .ref 74), (1, .int x1), (2, .int x2), (3, .int x3)] [] σ := by
  unfold F_X6_sheet_29 at hF
  refine ov_iload_n dX6_sheet_29 2 rfl ?_
  refine ov_if_lt 41 dX6_sheet_30 (by decide) hF (fun hF => ?_) (fun hF => ?_)
  · exact V_X6_sheet_41 x1 x2 x3 σ hF
  · refine ov_iload_n dX6_sheet_33 3 rfl ?_
    refine ov_if_ge 41 dX6_sheet_34 (by decide) hF (fun hF => ?_) (fun hF => ?_)
    · exact V_X6_sheet_41 x1 x2 x3 σ hF
    · refine ov_ldcw dX6_sheet_37 qc_X6_262 ?_
      exact ov_ireturn dX6_sheet_40 (Nat.le_refl _) (Nat.le_refl _) ⟨rfl, trivial, _, rfl, hF⟩
def F_X6_sheet (x1 : Int32) (x2 : Int32) (x3 : Int32) (σ : ovSt) (k : Int32 → ovSt → Prop) : Prop := (F_X6_isSheet x1 σ (fun v9 σ10 => (if v9 = 0 then (F_X6_sheet_26 k σ10) else (F_X6_in x2 (-1) 1 σ10 (fun v11 σ12 => (if v11 = 0 then (F_X6_sheet_26 k σ12) else (if x2 < 0 then (F_X6_sheet_29 k x1 x2 x3 σ12) else (if x3 ≤ (24 : Int32) then (F_X6_sheet_29 k x1 x2 x3 σ12) else (F_X6_sheet_26 k σ12)))))))))
set_option maxRecDepth 100000 in
set_option maxHeartbeats 4000000 in
theorem c_X6_sheet {x1 : Int32} {x2 : Int32} {x3 : Int32} {σ : ovSt} {k : Int32 → ovSt → Prop} (hF : F_X6_sheet x1 x2 x3 σ k) : ov_Ct 2 yX6_sheet cX6_sheet 5 (some .int) ov_S0 [.ref 74, .int x1, .int x2, .int x3] σ (ovKi k) := by
  refine ov_Ct.of (by decide) (Nat.le_of_ble_eq_true rfl) ?_
  unfold F_X6_sheet at hF
  show vv_X6_sheet k 0 [(0, .ref 74), (1, .int x1), (2, .int x2), (3, .int x3)] [] σ
  refine ov_iload_n dX6_sheet_0 1 rfl ?_
  refine ov_callS [.int x1] dX6_sheet_1 (c_X6_isSheet hF) (Nat.le_of_ble_eq_true rfl) (Nat.le_of_ble_eq_true rfl) lk_X6_177 (Nat.le_of_ble_eq_true rfl) (Nat.le_refl _) (Nat.le_refl _) (fun rr σ10 hF => ?_)
  obtain ⟨v9, rfl, hF⟩ := hF
  show vv_X6_sheet k 4 [(0, .ref 74), (1, .int x1), (2, .int x2), (3, .int x3)] [.int v9] σ10
  refine ov_if_eq 26 dX6_sheet_4 (by decide) hF (fun hF => ?_) (fun hF => ?_)
  · refine ov_pick [] [] rfl ?_
    exact V_X6_sheet_26 σ10 hF
  · refine ov_iload_n dX6_sheet_7 2 rfl ?_
    refine ov_iconst (-1) (by decide) dX6_sheet_8 ?_
    refine ov_iconst 1 (by decide) dX6_sheet_9 ?_
    refine ov_callS [.int x2, .int (-1), .int 1] dX6_sheet_10 (c_X6_in hF) (Nat.le_of_ble_eq_true rfl) (Nat.le_of_ble_eq_true rfl) lk_X6_82 (Nat.le_of_ble_eq_true rfl) (Nat.le_refl _) (Nat.le_refl _) (fun rr σ12 hF => ?_)
    obtain ⟨v11, rfl, hF⟩ := hF
    show vv_X6_sheet k 13 [(0, .ref 74), (1, .int x1), (2, .int x2), (3, .int x3)] [.int v11] σ12
    refine ov_if_eq 26 dX6_sheet_13 (by decide) hF (fun hF => ?_) (fun hF => ?_)
    · refine ov_pick [] [] rfl ?_
      exact V_X6_sheet_26 σ12 hF
    · refine ov_iload_n dX6_sheet_16 2 rfl ?_
      refine ov_if_lt 29 dX6_sheet_17 (by decide) hF (fun hF => ?_) (fun hF => ?_)
      · exact V_X6_sheet_29 x1 x2 x3 σ12 hF
      · refine ov_iload_n dX6_sheet_20 3 rfl ?_
        refine ov_bipush 24 (by decide) dX6_sheet_21 ?_
        refine ov_icmp_le 29 dX6_sheet_23 (by decide) hF (fun hF => ?_) (fun hF => ?_)
        · exact V_X6_sheet_29 x1 x2 x3 σ12 hF
        · refine ov_pick [] [] rfl ?_
          exact V_X6_sheet_26 σ12 hF
/-! X6_mark -/
abbrev vv_X6_mark (k : Int32 → ovSt → Prop) (pc : Nat) (L : List (Nat × Value)) (st : List Value) (σ : ovSt) : Prop := ov_V (ovZs 2 yX6_mark cX6_mark 4) (ovKs (some .int) ov_S0 (ovKi k)) (0, 0) ov_S0 pc L st σ
def F_X6_mark_116 (k : Int32 → ovSt → Prop) (t0 : Int32) (t1 : Int32) (σ : ovSt) : Prop := (vp_in t1 96 ∧ (∀ σ2 : ovSt, σ2 = ov_up σ 91 (Int32.toNatClampNeg t1) t0 → (k 1 σ2)))
set_option maxRecDepth 100000 in
set_option maxHeartbeats 4000000 in
theorem V_X6_mark_116 {k : Int32 → ovSt → Prop} (t0 : Int32) (t1 : Int32) (σ : ovSt) (hF : F_X6_mark_116 k t0 t1 σ) : vv_X6_mark k 116 [] [.int t0, .int t1, .ref 91] σ := by
  unfold F_X6_mark_116 at hF
  have h1 := hF.1
  have hF := hF.2
  refine ov_iastore dX6_mark_116 sh_91 h1 ?_
  refine ov_nmS (fun σ2 es2 => ?_)
  have hF := hF σ2 es2
  refine ov_iconst 1 (by decide) dX6_mark_117 ?_
  exact ov_ireturn dX6_mark_118 (Nat.le_refl _) (Nat.le_refl _) ⟨rfl, trivial, _, rfl, hF⟩
def F_X6_mark_91 (k : Int32 → ovSt → Prop) (x1 : Int32) (x2 : Int32) (x3 : Int32) (σ : ovSt) : Prop := (vp_in x1 4 ∧ (if (σ 89 (Int32.toNatClampNeg x1)) = 0 then (F_X6_mark_116 k (Int32.toInt16 x3).toInt32 ((24 * x1) + x2) σ) else (F_X6_mark_116 k x3 ((24 * x1) + x2) σ)))
set_option maxRecDepth 100000 in
set_option maxHeartbeats 4000000 in
theorem V_X6_mark_91 {k : Int32 → ovSt → Prop} (x1 : Int32) (x2 : Int32) (x3 : Int32) (σ : ovSt) (hF : F_X6_mark_91 k x1 x2 x3 σ) : vv_X6_mark k 91 [(0, .ref 74), (1, .int x1), (2, .int x2), (3, .int x3)] [] σ := by
  unfold F_X6_mark_91 at hF
  refine ov_aload_n dX6_mark_91 0 rfl ?_
  refine ov_getr (T := TX6) (kf := 27) dX6_mark_92 qf_X6_60 sh_74 rfl (Nat.le_of_ble_eq_true rfl) rfl (by decide) ?_
  refine ov_bipush 24 (by decide) dX6_mark_95 ?_
  refine ov_iload_n dX6_mark_97 1 rfl ?_
  refine ov_imul dX6_mark_98 ?_
  refine ov_iload_n dX6_mark_99 2 rfl ?_
  refine ov_iadd dX6_mark_100 ?_
  refine ov_aload_n dX6_mark_101 0 rfl ?_
  refine ov_getr (T := TX6) (kf := 25) dX6_mark_102 qf_X6_54 sh_74 rfl (Nat.le_of_ble_eq_true rfl) rfl (by decide) ?_
  refine ov_iload_n dX6_mark_105 1 rfl ?_
  have h3 := hF.1
  have hF := hF.2
  refine ov_iaload dX6_mark_106 sh_89 h3 ?_
  refine ov_if_ne 115 dX6_mark_107 (by decide) hF (fun hF => ?_) (fun hF => ?_)
  · refine ov_iload_n dX6_mark_115 3 rfl ?_
    refine ov_pick [] [] rfl ?_
    exact V_X6_mark_116 x3 ((24 * x1) + x2) σ hF
  · refine ov_iload_n dX6_mark_110 3 rfl ?_
    refine ov_i2s dX6_mark_111 ?_
    refine ov_goto 116 dX6_mark_112 (by decide) ?_
    refine ov_pick [] [] rfl ?_
    exact V_X6_mark_116 (Int32.toInt16 x3).toInt32 ((24 * x1) + x2) σ hF
def F_X6_mark_60 (k : Int32 → ovSt → Prop) (x1 : Int32) (x2 : Int32) (x3 : Int32) (σ : ovSt) : Prop := (vp_in x1 4 ∧ (if (σ 89 (Int32.toNatClampNeg x1)) = (1 : Int32) then (if x3 = ((-1000000005) : Int32) then (F_X6_mark_91 k x1 x2 x3 σ) else (F_X6_in x3 (-99999) 99999 σ (fun v5 σ6 => (if v5 = 0 then (k (-1000000001) σ6) else (F_X6_mark_91 k x1 x2 x3 σ6))))) else (F_X6_mark_91 k x1 x2 x3 σ)))
set_option maxRecDepth 100000 in
set_option maxHeartbeats 4000000 in
theorem V_X6_mark_60 {k : Int32 → ovSt → Prop} (x1 : Int32) (x2 : Int32) (x3 : Int32) (σ : ovSt) (hF : F_X6_mark_60 k x1 x2 x3 σ) : vv_X6_mark k 60 [(0, .ref 74), (1, .int x1), (2, .int x2), (3, .int x3)] [] σ := by
  unfold F_X6_mark_60 at hF
  refine ov_aload_n dX6_mark_60 0 rfl ?_
  refine ov_getr (T := TX6) (kf := 25) dX6_mark_61 qf_X6_54 sh_74 rfl (Nat.le_of_ble_eq_true rfl) rfl (by decide) ?_
  refine ov_iload_n dX6_mark_64 1 rfl ?_
  have h4 := hF.1
  have hF := hF.2
  refine ov_iaload dX6_mark_65 sh_89 h4 ?_
  refine ov_iconst 1 (by decide) dX6_mark_66 ?_
  refine ov_icmp_ne 91 dX6_mark_67 (by decide) hF (fun hF => ?_) (fun hF => ?_)
  · exact V_X6_mark_91 x1 x2 x3 σ hF
  · refine ov_iload_n dX6_mark_70 3 rfl ?_
    refine ov_ldc dX6_mark_71 qc_X6_81 ?_
    refine ov_icmp_eq 91 dX6_mark_73 (by decide) hF (fun hF => ?_) (fun hF => ?_)
    · exact V_X6_mark_91 x1 x2 x3 σ hF
    · refine ov_iload_n dX6_mark_76 3 rfl ?_
      refine ov_ldcw dX6_mark_77 qc_X6_264 ?_
      refine ov_ldc dX6_mark_80 qc_X6_100 ?_
      refine ov_callS [.int x3, .int (-99999), .int 99999] dX6_mark_82 (c_X6_in hF) (Nat.le_of_ble_eq_true rfl) (Nat.le_of_ble_eq_true rfl) lk_X6_82 (Nat.le_of_ble_eq_true rfl) (Nat.le_refl _) (Nat.le_refl _) (fun rr σ6 hF => ?_)
      obtain ⟨v5, rfl, hF⟩ := hF
      show vv_X6_mark k 85 [(0, .ref 74), (1, .int x1), (2, .int x2), (3, .int x3)] [.int v5] σ6
      refine ov_if_ne 91 dX6_mark_85 (by decide) hF (fun hF => ?_) (fun hF => ?_)
      · exact V_X6_mark_91 x1 x2 x3 σ6 hF
      · refine ov_ldc dX6_mark_88 qc_X6_90 ?_
        exact ov_ireturn dX6_mark_90 (Nat.le_refl _) (Nat.le_refl _) ⟨rfl, trivial, _, rfl, hF⟩
def F_X6_mark (x1 : Int32) (x2 : Int32) (x3 : Int32) (σ : ovSt) (k : Int32 → ovSt → Prop) : Prop := (F_X6_isSheet x1 σ (fun v7 σ8 => (if v7 = 0 then (k (-1000000001) σ8) else (vp_in x1 4 ∧ (if 0 ≤ (σ8 89 (Int32.toNatClampNeg x1)) then (F_X6_in x2 0 ((σ8 90 (Int32.toNatClampNeg x1)) - 1) σ8 (fun v10 σ11 => (if v10 = 0 then (k (-1000000013) σ11) else (if (σ11 89 (Int32.toNatClampNeg x1)) = 0 then (if x3 = ((-1000000005) : Int32) then (k (-1000000012) σ11) else (F_X6_mark_60 k x1 x2 x3 σ11)) else (F_X6_mark_60 k x1 x2 x3 σ11))))) else (k (-1000000011) σ8))))))
set_option maxRecDepth 100000 in
set_option maxHeartbeats 4000000 in
theorem c_X6_mark {x1 : Int32} {x2 : Int32} {x3 : Int32} {σ : ovSt} {k : Int32 → ovSt → Prop} (hF : F_X6_mark x1 x2 x3 σ k) : ov_Ct 2 yX6_mark cX6_mark 4 (some .int) ov_S0 [.ref 74, .int x1, .int x2, .int x3] σ (ovKi k) := by
  refine ov_Ct.of (by decide) (Nat.le_of_ble_eq_true rfl) ?_
  unfold F_X6_mark at hF
  show vv_X6_mark k 0 [(0, .ref 74), (1, .int x1), (2, .int x2), (3, .int x3)] [] σ
  refine ov_iload_n dX6_mark_0 1 rfl ?_
  refine ov_callS [.int x1] dX6_mark_1 (c_X6_isSheet hF) (Nat.le_of_ble_eq_true rfl) (Nat.le_of_ble_eq_true rfl) lk_X6_177 (Nat.le_of_ble_eq_true rfl) (Nat.le_refl _) (Nat.le_refl _) (fun rr σ8 hF => ?_)
  obtain ⟨v7, rfl, hF⟩ := hF
  show vv_X6_mark k 4 [(0, .ref 74), (1, .int x1), (2, .int x2), (3, .int x3)] [.int v7] σ8
  refine ov_if_ne 10 dX6_mark_4 (by decide) hF (fun hF => ?_) (fun hF => ?_)
  · refine ov_aload_n dX6_mark_10 0 rfl ?_
    refine ov_getr (T := TX6) (kf := 25) dX6_mark_11 qf_X6_54 sh_74 rfl (Nat.le_of_ble_eq_true rfl) rfl (by decide) ?_
    refine ov_iload_n dX6_mark_14 1 rfl ?_
    have h9 := hF.1
    have hF := hF.2
    refine ov_iaload dX6_mark_15 sh_89 h9 ?_
    refine ov_if_ge 22 dX6_mark_16 (by decide) hF (fun hF => ?_) (fun hF => ?_)
    · refine ov_iload_n dX6_mark_22 2 rfl ?_
      refine ov_iconst 0 (by decide) dX6_mark_23 ?_
      refine ov_aload_n dX6_mark_24 0 rfl ?_
      refine ov_getr (T := TX6) (kf := 26) dX6_mark_25 qf_X6_57 sh_74 rfl (Nat.le_of_ble_eq_true rfl) rfl (by decide) ?_
      refine ov_iload_n dX6_mark_28 1 rfl ?_
      refine ov_iaload dX6_mark_29 sh_90 h9 ?_
      refine ov_iconst 1 (by decide) dX6_mark_30 ?_
      refine ov_isub dX6_mark_31 ?_
      refine ov_callS [.int x2, .int 0, .int ((σ8 90 (Int32.toNatClampNeg x1)) - 1)] dX6_mark_32 (c_X6_in hF) (Nat.le_of_ble_eq_true rfl) (Nat.le_of_ble_eq_true rfl) lk_X6_82 (Nat.le_of_ble_eq_true rfl) (Nat.le_refl _) (Nat.le_refl _) (fun rr σ11 hF => ?_)
      obtain ⟨v10, rfl, hF⟩ := hF
      show vv_X6_mark k 35 [(0, .ref 74), (1, .int x1), (2, .int x2), (3, .int x3)] [.int v10] σ11
      refine ov_if_ne 42 dX6_mark_35 (by decide) hF (fun hF => ?_) (fun hF => ?_)
      · refine ov_aload_n dX6_mark_42 0 rfl ?_
        refine ov_getr (T := TX6) (kf := 25) dX6_mark_43 qf_X6_54 sh_74 rfl (Nat.le_of_ble_eq_true rfl) rfl (by decide) ?_
        refine ov_iload_n dX6_mark_46 1 rfl ?_
        refine ov_iaload dX6_mark_47 sh_89 h9 ?_
        refine ov_if_ne 60 dX6_mark_48 (by decide) hF (fun hF => ?_) (fun hF => ?_)
        · exact V_X6_mark_60 x1 x2 x3 σ11 hF
        · refine ov_iload_n dX6_mark_51 3 rfl ?_
          refine ov_ldc dX6_mark_52 qc_X6_81 ?_
          refine ov_icmp_ne 60 dX6_mark_54 (by decide) hF (fun hF => ?_) (fun hF => ?_)
          · exact V_X6_mark_60 x1 x2 x3 σ11 hF
          · refine ov_ldc dX6_mark_57 qc_X6_147 ?_
            exact ov_ireturn dX6_mark_59 (Nat.le_refl _) (Nat.le_refl _) ⟨rfl, trivial, _, rfl, hF⟩
      · refine ov_ldcw dX6_mark_38 qc_X6_263 ?_
        exact ov_ireturn dX6_mark_41 (Nat.le_refl _) (Nat.le_refl _) ⟨rfl, trivial, _, rfl, hF⟩
    · refine ov_ldc dX6_mark_19 qc_X6_180 ?_
      exact ov_ireturn dX6_mark_21 (Nat.le_refl _) (Nat.le_refl _) ⟨rfl, trivial, _, rfl, hF⟩
  · refine ov_ldc dX6_mark_7 qc_X6_90 ?_
    exact ov_ireturn dX6_mark_9 (Nat.le_refl _) (Nat.le_refl _) ⟨rfl, trivial, _, rfl, hF⟩
/-! X6_pour -/
abbrev vv_X6_pour (k : Int32 → ovSt → Prop) (pc : Nat) (L : List (Nat × Value)) (st : List Value) (σ : ovSt) : Prop := ov_V (ovZs 2 yX6_pour cX6_pour 6) (ovKs (some .int) ov_S0 (ovKi k)) (0, 0) ov_S0 pc L st σ
def F_X6_pour_110 (R26 : Int32 → Int32 → Int32 → ovSt → Prop) (k : Int32 → ovSt → Prop) (x1 : Int32) (x3 : Int32) (t0 : Int32) (t1 : Int32) (σ : ovSt) : Prop := (∀ v1 : Int32, v1 = (t1 + t0) → R26 x1 v1 (x3 + 1) σ)
set_option maxRecDepth 100000 in
set_option maxHeartbeats 4000000 in
theorem V_X6_pour_110 {k : Int32 → ovSt → Prop} {R26 : Int32 → Int32 → Int32 → ovSt → Prop} (hR26 : ∀ (x1 : Int32) (x2 : Int32) (x3 : Int32) (σ : ovSt), R26 x1 x2 x3 σ → vv_X6_pour k 26 [(0, .ref 74), (1, .int x1), (2, .int x2), (3, .int x3)] [] σ) (x1 : Int32) (x3 : Int32) (t0 : Int32) (t1 : Int32) (σ : ovSt) (hF : F_X6_pour_110 R26 k x1 x3 t0 t1 σ) : vv_X6_pour k 110 [(0, .ref 74), (1, .int x1), (3, .int x3)] [.int t0, .int t1] σ := by
  unfold F_X6_pour_110 at hF
  refine ov_iadd dX6_pour_110 ?_
  refine ov_nmI (fun v1 ev1 => ?_)
  have hF := hF v1 ev1
  refine ov_istore_n dX6_pour_111 (Nat.le_of_ble_eq_true rfl) [(2, .int v1), (0, .ref 74), (1, .int x1), (3, .int x3)] rfl ?_
  refine ov_iinc dX6_pour_112 3 rfl (x3 + 1) rfl (Nat.le_of_ble_eq_true rfl) [(3, .int (x3 + 1)), (2, .int v1), (0, .ref 74), (1, .int x1)] rfl ?_
  refine ov_goto 26 dX6_pour_115 (by decide) ?_
  refine ov_pick [2, 3, 1, 0] [(0, .ref 74), (1, .int x1), (2, .int v1), (3, .int (x3 + 1))] rfl ?_
  exact hR26 x1 v1 (x3 + 1) σ hF
def F_X6_pour_83 (R26 : Int32 → Int32 → Int32 → ovSt → Prop) (k : Int32 → ovSt → Prop) (x1 : Int32) (x2 : Int32) (x3 : Int32) (t0 : Int32) (σ : ovSt) : Prop := (F_X6_becomes ((8 + (4 * x3)) + 2) t0 σ (fun v2 σ3 => (if v2 = t0 then (F_X6_pour_110 R26 k x1 x3 0 x2 σ3) else (F_X6_pour_110 R26 k x1 x3 1 x2 σ3))))
set_option maxRecDepth 100000 in
set_option maxHeartbeats 4000000 in
theorem V_X6_pour_83 {k : Int32 → ovSt → Prop} {R26 : Int32 → Int32 → Int32 → ovSt → Prop} (hR26 : ∀ (x1 : Int32) (x2 : Int32) (x3 : Int32) (σ : ovSt), R26 x1 x2 x3 σ → vv_X6_pour k 26 [(0, .ref 74), (1, .int x1), (2, .int x2), (3, .int x3)] [] σ) (x1 : Int32) (x2 : Int32) (x3 : Int32) (t0 : Int32) (σ : ovSt) (hF : F_X6_pour_83 R26 k x1 x2 x3 t0 σ) : vv_X6_pour k 83 [(0, .ref 74), (1, .int x1), (2, .int x2), (3, .int x3)] [.int t0] σ := by
  unfold F_X6_pour_83 at hF
  refine ov_istore dX6_pour_83 (Nat.le_of_ble_eq_true rfl) [(5, .int t0), (0, .ref 74), (1, .int x1), (2, .int x2), (3, .int x3)] rfl ?_
  refine ov_iload_n dX6_pour_85 3 rfl ?_
  refine ov_aload_n dX6_pour_86 1 rfl ?_
  refine ov_bipush 8 (by decide) dX6_pour_87 ?_
  refine ov_iconst 4 (by decide) dX6_pour_89 ?_
  refine ov_iload_n dX6_pour_90 4 rfl ?_
  refine ov_imul dX6_pour_91 ?_
  refine ov_iadd dX6_pour_92 ?_
  refine ov_iconst 2 (by decide) dX6_pour_93 ?_
  refine ov_iadd dX6_pour_94 ?_
  refine ov_iload dX6_pour_95 0 rfl ?_
  refine ov_callV [.int ((8 + (4 * x3)) + 2), .int t0] dX6_pour_97 (c_X6_becomes hF) (Nat.le_of_ble_eq_true rfl) (Nat.le_of_ble_eq_true rfl) lk_X6_148 sh_74 rfl (Nat.le_of_ble_eq_true rfl) (Nat.le_refl _) (Nat.le_refl _) (fun rr σ3 hF => ?_)
  obtain ⟨v2, rfl, hF⟩ := hF
  show vv_X6_pour k 100 [(5, .int t0), (0, .ref 74), (1, .int x1), (2, .int x2), (3, .int x3)] [.int v2, .int x2] σ3
  refine ov_iload dX6_pour_100 0 rfl ?_
  refine ov_icmp_ne 109 dX6_pour_102 (by decide) hF (fun hF => ?_) (fun hF => ?_)
  · refine ov_iconst 1 (by decide) dX6_pour_109 ?_
    refine ov_pick [1, 2, 4] [(0, .ref 74), (1, .int x1), (3, .int x3)] rfl ?_
    exact V_X6_pour_110 hR26 x1 x3 1 x2 σ3 hF
  · refine ov_iconst 0 (by decide) dX6_pour_105 ?_
    refine ov_goto 110 dX6_pour_106 (by decide) ?_
    refine ov_pick [1, 2, 4] [(0, .ref 74), (1, .int x1), (3, .int x3)] rfl ?_
    exact V_X6_pour_110 hR26 x1 x3 0 x2 σ3 hF
def F_X6_pour_118 (k : Int32 → ovSt → Prop) (x2 : Int32) (σ : ovSt) : Prop := (k x2 σ)
set_option maxRecDepth 100000 in
set_option maxHeartbeats 4000000 in
theorem V_X6_pour_118 {k : Int32 → ovSt → Prop} (x2 : Int32) (σ : ovSt) (hF : F_X6_pour_118 k x2 σ) : vv_X6_pour k 118 [(2, .int x2)] [] σ := by
  unfold F_X6_pour_118 at hF
  refine ov_iload_n dX6_pour_118 0 rfl ?_
  exact ov_ireturn dX6_pour_119 (Nat.le_refl _) (Nat.le_refl _) ⟨rfl, trivial, _, rfl, hF⟩
def F_X6_pour_26 (k : Int32 → ovSt → Prop) : Nat → Int32 → Int32 → Int32 → ovSt → Prop
  | 0 => fun _ _ _ _ => False
  | n + 1 => fun x1 x2 x3 σ => (vp_in x1 4 ∧ (if (σ 90 (Int32.toNatClampNeg x1)) ≤ x3 then (F_X6_pour_118 k x2 σ) else (vp_in 1 1412 ∧ (if (σ 75 (Int32.toNatClampNeg 1)) ≤ x3 then (F_X6_pour_118 k x2 σ) else (vp_in ((24 * x1) + x3) 96 ∧ (∀ v7 : Int32, v7 = (σ 91 (Int32.toNatClampNeg ((24 * x1) + x3))) → (if v7 = ((-1000000005) : Int32) then (F_X6_of x3 2 σ (fun v10 σ11 => (F_X6_pour_83 (F_X6_pour_26 k n) k x1 x2 x3 v10 σ11))) else (F_X6_within v7 0 99999 σ (fun v8 σ9 => (F_X6_pour_83 (F_X6_pour_26 k n) k x1 x2 x3 v8 σ9))))))))))
set_option maxRecDepth 100000 in
set_option maxHeartbeats 4000000 in
theorem V_X6_pour_26 {k : Int32 → ovSt → Prop} : ∀ (n : Nat) (x1 : Int32) (x2 : Int32) (x3 : Int32) (σ : ovSt), F_X6_pour_26 k n x1 x2 x3 σ → vv_X6_pour k 26 [(0, .ref 74), (1, .int x1), (2, .int x2), (3, .int x3)] [] σ := by
  intro n
  induction n with
  | zero => intro x1 x2 x3 σ hF; exact hF.elim
  | succ n ih =>
    intro x1 x2 x3 σ hF
    unfold F_X6_pour_26 at hF
    refine ov_iload_n dX6_pour_26 3 rfl ?_
    refine ov_aload_n dX6_pour_27 0 rfl ?_
    refine ov_getr (T := TX6) (kf := 26) dX6_pour_28 qf_X6_57 sh_74 rfl (Nat.le_of_ble_eq_true rfl) rfl (by decide) ?_
    refine ov_iload_n dX6_pour_31 1 rfl ?_
    have h4 := hF.1
    have hF := hF.2
    refine ov_iaload dX6_pour_32 sh_90 h4 ?_
    refine ov_icmp_ge 118 dX6_pour_33 (by decide) hF (fun hF => ?_) (fun hF => ?_)
    · refine ov_pick [2] [(2, .int x2)] rfl ?_
      exact V_X6_pour_118 x2 σ hF
    · refine ov_iload_n dX6_pour_36 3 rfl ?_
      refine ov_aload_n dX6_pour_37 0 rfl ?_
      refine ov_getr (T := TX6) (kf := 0) dX6_pour_38 qf_X6_9 sh_74 rfl (Nat.le_of_ble_eq_true rfl) rfl (by decide) ?_
      refine ov_iconst 1 (by decide) dX6_pour_41 ?_
      have h5 := hF.1
      have hF := hF.2
      refine ov_iaload dX6_pour_42 sh_75 h5 ?_
      refine ov_icmp_ge 118 dX6_pour_43 (by decide) hF (fun hF => ?_) (fun hF => ?_)
      · refine ov_pick [2] [(2, .int x2)] rfl ?_
        exact V_X6_pour_118 x2 σ hF
      · refine ov_aload_n dX6_pour_46 0 rfl ?_
        refine ov_getr (T := TX6) (kf := 27) dX6_pour_47 qf_X6_60 sh_74 rfl (Nat.le_of_ble_eq_true rfl) rfl (by decide) ?_
        refine ov_bipush 24 (by decide) dX6_pour_50 ?_
        refine ov_iload_n dX6_pour_52 1 rfl ?_
        refine ov_imul dX6_pour_53 ?_
        refine ov_iload_n dX6_pour_54 3 rfl ?_
        refine ov_iadd dX6_pour_55 ?_
        have h6 := hF.1
        have hF := hF.2
        refine ov_iaload dX6_pour_56 sh_91 h6 ?_
        refine ov_nmI (fun v7 ev7 => ?_)
        have hF := hF v7 ev7
        refine ov_istore dX6_pour_57 (Nat.le_of_ble_eq_true rfl) [(4, .int v7), (0, .ref 74), (1, .int x1), (2, .int x2), (3, .int x3)] rfl ?_
        refine ov_iload dX6_pour_59 0 rfl ?_
        refine ov_ldc dX6_pour_61 qc_X6_81 ?_
        refine ov_icmp_ne 75 dX6_pour_63 (by decide) hF (fun hF => ?_) (fun hF => ?_)
        · refine ov_iload dX6_pour_75 0 rfl ?_
          refine ov_iconst 0 (by decide) dX6_pour_77 ?_
          refine ov_ldc dX6_pour_78 qc_X6_100 ?_
          refine ov_callS [.int v7, .int 0, .int 99999] dX6_pour_80 (c_X6_within hF) (Nat.le_of_ble_eq_true rfl) (Nat.le_of_ble_eq_true rfl) lk_X6_101 (Nat.le_of_ble_eq_true rfl) (Nat.le_refl _) (Nat.le_refl _) (fun rr σ9 hF => ?_)
          obtain ⟨v8, rfl, hF⟩ := hF
          show vv_X6_pour k 83 [(4, .int v7), (0, .ref 74), (1, .int x1), (2, .int x2), (3, .int x3)] [.int v8] σ9
          refine ov_pick [1, 2, 3, 4] [(0, .ref 74), (1, .int x1), (2, .int x2), (3, .int x3)] rfl ?_
          exact V_X6_pour_83 ih x1 x2 x3 v8 σ9 hF
        · refine ov_aload_n dX6_pour_66 1 rfl ?_
          refine ov_iload_n dX6_pour_67 4 rfl ?_
          refine ov_iconst 2 (by decide) dX6_pour_68 ?_
          refine ov_callV [.int x3, .int 2] dX6_pour_69 (c_X6_of hF) (Nat.le_of_ble_eq_true rfl) (Nat.le_of_ble_eq_true rfl) lk_X6_96 sh_74 rfl (Nat.le_of_ble_eq_true rfl) (Nat.le_refl _) (Nat.le_refl _) (fun rr σ11 hF => ?_)
          obtain ⟨v10, rfl, hF⟩ := hF
          show vv_X6_pour k 72 [(4, .int v7), (0, .ref 74), (1, .int x1), (2, .int x2), (3, .int x3)] [.int v10] σ11
          refine ov_goto 83 dX6_pour_72 (by decide) ?_
          refine ov_pick [1, 2, 3, 4] [(0, .ref 74), (1, .int x1), (2, .int x2), (3, .int x3)] rfl ?_
          exact V_X6_pour_83 ih x1 x2 x3 v10 σ11 hF
def F_X6_pour (x1 : Int32) (σ : ovSt) (k : Int32 → ovSt → Prop) : Prop := (F_X6_isSheet x1 σ (fun v12 σ13 => (if v12 = 0 then (k (-1000000001) σ13) else (vp_in x1 4 ∧ (if 0 ≤ (σ13 89 (Int32.toNatClampNeg x1)) then (∃ n15, F_X6_pour_26 k n15 x1 0 0 σ13) else (k (-1000000011) σ13))))))
set_option maxRecDepth 100000 in
set_option maxHeartbeats 4000000 in
theorem c_X6_pour {x1 : Int32} {σ : ovSt} {k : Int32 → ovSt → Prop} (hF : F_X6_pour x1 σ k) : ov_Ct 2 yX6_pour cX6_pour 6 (some .int) ov_S0 [.ref 74, .int x1] σ (ovKi k) := by
  refine ov_Ct.of (by decide) (Nat.le_of_ble_eq_true rfl) ?_
  unfold F_X6_pour at hF
  show vv_X6_pour k 0 [(0, .ref 74), (1, .int x1)] [] σ
  refine ov_iload_n dX6_pour_0 1 rfl ?_
  refine ov_callS [.int x1] dX6_pour_1 (c_X6_isSheet hF) (Nat.le_of_ble_eq_true rfl) (Nat.le_of_ble_eq_true rfl) lk_X6_177 (Nat.le_of_ble_eq_true rfl) (Nat.le_refl _) (Nat.le_refl _) (fun rr σ13 hF => ?_)
  obtain ⟨v12, rfl, hF⟩ := hF
  show vv_X6_pour k 4 [(0, .ref 74), (1, .int x1)] [.int v12] σ13
  refine ov_if_ne 10 dX6_pour_4 (by decide) hF (fun hF => ?_) (fun hF => ?_)
  · refine ov_aload_n dX6_pour_10 0 rfl ?_
    refine ov_getr (T := TX6) (kf := 25) dX6_pour_11 qf_X6_54 sh_74 rfl (Nat.le_of_ble_eq_true rfl) rfl (by decide) ?_
    refine ov_iload_n dX6_pour_14 1 rfl ?_
    have h14 := hF.1
    have hF := hF.2
    refine ov_iaload dX6_pour_15 sh_89 h14 ?_
    refine ov_if_ge 22 dX6_pour_16 (by decide) hF (fun hF => ?_) (fun hF => ?_)
    · refine ov_iconst 0 (by decide) dX6_pour_22 ?_
      refine ov_istore_n dX6_pour_23 (Nat.le_of_ble_eq_true rfl) [(2, .int 0), (0, .ref 74), (1, .int x1)] rfl ?_
      refine ov_iconst 0 (by decide) dX6_pour_24 ?_
      refine ov_istore_n dX6_pour_25 (Nat.le_of_ble_eq_true rfl) [(3, .int 0), (2, .int 0), (0, .ref 74), (1, .int x1)] rfl ?_
      refine ov_pick [2, 3, 1, 0] [(0, .ref 74), (1, .int x1), (2, .int 0), (3, .int 0)] rfl ?_
      obtain ⟨n15, hF⟩ := hF
      exact V_X6_pour_26 n15 x1 0 0 σ13 hF
    · refine ov_ldc dX6_pour_19 qc_X6_180 ?_
      exact ov_ireturn dX6_pour_21 (Nat.le_refl _) (Nat.le_refl _) ⟨rfl, trivial, _, rfl, hF⟩
  · refine ov_ldc dX6_pour_7 qc_X6_90 ?_
    exact ov_ireturn dX6_pour_9 (Nat.le_refl _) (Nat.le_refl _) ⟨rfl, trivial, _, rfl, hF⟩
/-! X6_reads -/
abbrev vv_X6_reads (k : Int32 → ovSt → Prop) (pc : Nat) (L : List (Nat × Value)) (st : List Value) (σ : ovSt) : Prop := ov_V (ovZs 5 yX6_reads cX6_reads 5) (ovKs (some .int) ov_S0 (ovKi k)) (0, 0) ov_S0 pc L st σ
def F_X6_reads_82 (R31 : Int32 → Int32 → Int32 → ovSt → Prop) (k : Int32 → ovSt → Prop) (x1 : Int32) (x3 : Int32) (t0 : Int32) (σ : ovSt) : Prop := (F_X6_day σ (fun σ2 => R31 x1 t0 (x3 + 1) σ2))
set_option maxRecDepth 100000 in
set_option maxHeartbeats 4000000 in
theorem V_X6_reads_82 {k : Int32 → ovSt → Prop} {R31 : Int32 → Int32 → Int32 → ovSt → Prop} (hR31 : ∀ (x1 : Int32) (x2 : Int32) (x3 : Int32) (σ : ovSt), R31 x1 x2 x3 σ → vv_X6_reads k 31 [(0, .ref 74), (1, .int x1), (2, .int x2), (3, .int x3)] [] σ) (x1 : Int32) (x3 : Int32) (t0 : Int32) (σ : ovSt) (hF : F_X6_reads_82 R31 k x1 x3 t0 σ) : vv_X6_reads k 82 [(0, .ref 74), (1, .int x1), (3, .int x3)] [.int t0] σ := by
  unfold F_X6_reads_82 at hF
  refine ov_istore_n dX6_reads_82 (Nat.le_of_ble_eq_true rfl) [(2, .int t0), (0, .ref 74), (1, .int x1), (3, .int x3)] rfl ?_
  refine ov_aload_n dX6_reads_83 1 rfl ?_
  refine ov_callV [] dX6_reads_84 (c_X6_day hF) (Nat.le_of_ble_eq_true rfl) (Nat.le_of_ble_eq_true rfl) lk_X6_155 sh_74 rfl (Nat.le_of_ble_eq_true rfl) (Nat.le_refl _) (Nat.le_refl _) (fun rr σ2 hF => ?_)
  obtain ⟨rfl, hF⟩ := hF
  show vv_X6_reads k 87 [(2, .int t0), (0, .ref 74), (1, .int x1), (3, .int x3)] [] σ2
  refine ov_iinc dX6_reads_87 3 rfl (x3 + 1) rfl (Nat.le_of_ble_eq_true rfl) [(3, .int (x3 + 1)), (2, .int t0), (0, .ref 74), (1, .int x1)] rfl ?_
  refine ov_goto 31 dX6_reads_90 (by decide) ?_
  refine ov_pick [2, 3, 1, 0] [(0, .ref 74), (1, .int x1), (2, .int t0), (3, .int (x3 + 1))] rfl ?_
  exact hR31 x1 t0 (x3 + 1) σ2 hF
def F_X6_reads_80 (R31 : Int32 → Int32 → Int32 → ovSt → Prop) (k : Int32 → ovSt → Prop) (x1 : Int32) (x3 : Int32) (σ : ovSt) : Prop := (F_X6_reads_82 R31 k x1 x3 (-1000000005) σ)
set_option maxRecDepth 100000 in
set_option maxHeartbeats 4000000 in
theorem V_X6_reads_80 {k : Int32 → ovSt → Prop} {R31 : Int32 → Int32 → Int32 → ovSt → Prop} (hR31 : ∀ (x1 : Int32) (x2 : Int32) (x3 : Int32) (σ : ovSt), R31 x1 x2 x3 σ → vv_X6_reads k 31 [(0, .ref 74), (1, .int x1), (2, .int x2), (3, .int x3)] [] σ) (x1 : Int32) (x3 : Int32) (σ : ovSt) (hF : F_X6_reads_80 R31 k x1 x3 σ) : vv_X6_reads k 80 [(0, .ref 74), (1, .int x1), (3, .int x3)] [] σ := by
  unfold F_X6_reads_80 at hF
  refine ov_ldc dX6_reads_80 qc_X6_81 ?_
  exact V_X6_reads_82 hR31 x1 x3 (-1000000005) σ hF
def F_X6_reads_93 (k : Int32 → ovSt → Prop) (x2 : Int32) (σ : ovSt) : Prop := (F_X6_putsBack σ (fun σ4 => (k x2 σ4)))
set_option maxRecDepth 100000 in
set_option maxHeartbeats 4000000 in
theorem V_X6_reads_93 {k : Int32 → ovSt → Prop} (x2 : Int32) (σ : ovSt) (hF : F_X6_reads_93 k x2 σ) : vv_X6_reads k 93 [(0, .ref 74), (2, .int x2)] [] σ := by
  unfold F_X6_reads_93 at hF
  refine ov_aload_n dX6_reads_93 0 rfl ?_
  refine ov_callV [] dX6_reads_94 (c_X6_putsBack hF) (Nat.le_of_ble_eq_true rfl) (Nat.le_of_ble_eq_true rfl) lk_X6_168 sh_74 rfl (Nat.le_of_ble_eq_true rfl) (Nat.le_refl _) (Nat.le_refl _) (fun rr σ4 hF => ?_)
  obtain ⟨rfl, hF⟩ := hF
  show vv_X6_reads k 97 [(0, .ref 74), (2, .int x2)] [] σ4
  refine ov_iload_n dX6_reads_97 1 rfl ?_
  exact ov_ireturn dX6_reads_98 (Nat.le_refl _) (Nat.le_refl _) ⟨rfl, trivial, _, rfl, hF⟩
def F_X6_reads_31 (k : Int32 → ovSt → Prop) : Nat → Int32 → Int32 → Int32 → ovSt → Prop
  | 0 => fun _ _ _ _ => False
  | n + 1 => fun x1 x2 x3 σ => (vp_in x1 4 ∧ (if (σ 90 (Int32.toNatClampNeg x1)) ≤ x3 then (F_X6_reads_93 k x2 σ) else (if x2 = ((-1000000005) : Int32) then (vp_in ((24 * x1) + x3) 96 ∧ (∀ v7 : Int32, v7 = (σ 91 (Int32.toNatClampNeg ((24 * x1) + x3))) → (if v7 = ((-1000000005) : Int32) then (F_X6_reads_80 (F_X6_reads_31 k n) k x1 x3 σ) else (F_X6_tasteAll σ (fun v8 σ9 => (if v7 = v8 then (F_X6_reads_80 (F_X6_reads_31 k n) k x1 x3 σ9) else (F_X6_reads_82 (F_X6_reads_31 k n) k x1 x3 x3 σ9))))))) else (F_X6_reads_93 k x2 σ))))
set_option maxRecDepth 100000 in
set_option maxHeartbeats 4000000 in
theorem V_X6_reads_31 {k : Int32 → ovSt → Prop} : ∀ (n : Nat) (x1 : Int32) (x2 : Int32) (x3 : Int32) (σ : ovSt), F_X6_reads_31 k n x1 x2 x3 σ → vv_X6_reads k 31 [(0, .ref 74), (1, .int x1), (2, .int x2), (3, .int x3)] [] σ := by
  intro n
  induction n with
  | zero => intro x1 x2 x3 σ hF; exact hF.elim
  | succ n ih =>
    intro x1 x2 x3 σ hF
    unfold F_X6_reads_31 at hF
    refine ov_iload_n dX6_reads_31 3 rfl ?_
    refine ov_aload_n dX6_reads_32 0 rfl ?_
    refine ov_getr (T := TX6) (kf := 26) dX6_reads_33 qf_X6_57 sh_74 rfl (Nat.le_of_ble_eq_true rfl) rfl (by decide) ?_
    refine ov_iload_n dX6_reads_36 1 rfl ?_
    have h5 := hF.1
    have hF := hF.2
    refine ov_iaload dX6_reads_37 sh_90 h5 ?_
    refine ov_icmp_ge 93 dX6_reads_38 (by decide) hF (fun hF => ?_) (fun hF => ?_)
    · refine ov_pick [0, 2] [(0, .ref 74), (2, .int x2)] rfl ?_
      exact V_X6_reads_93 x2 σ hF
    · refine ov_iload_n dX6_reads_41 2 rfl ?_
      refine ov_ldc dX6_reads_42 qc_X6_81 ?_
      refine ov_icmp_ne 93 dX6_reads_44 (by decide) hF (fun hF => ?_) (fun hF => ?_)
      · refine ov_pick [0, 2] [(0, .ref 74), (2, .int x2)] rfl ?_
        exact V_X6_reads_93 x2 σ hF
      · refine ov_aload_n dX6_reads_47 0 rfl ?_
        refine ov_getr (T := TX6) (kf := 27) dX6_reads_48 qf_X6_60 sh_74 rfl (Nat.le_of_ble_eq_true rfl) rfl (by decide) ?_
        refine ov_bipush 24 (by decide) dX6_reads_51 ?_
        refine ov_iload_n dX6_reads_53 1 rfl ?_
        refine ov_imul dX6_reads_54 ?_
        refine ov_iload_n dX6_reads_55 3 rfl ?_
        refine ov_iadd dX6_reads_56 ?_
        have h6 := hF.1
        have hF := hF.2
        refine ov_iaload dX6_reads_57 sh_91 h6 ?_
        refine ov_nmI (fun v7 ev7 => ?_)
        have hF := hF v7 ev7
        refine ov_istore dX6_reads_58 (Nat.le_of_ble_eq_true rfl) [(4, .int v7), (0, .ref 74), (1, .int x1), (2, .int x2), (3, .int x3)] rfl ?_
        refine ov_iload dX6_reads_60 0 rfl ?_
        refine ov_ldc dX6_reads_62 qc_X6_81 ?_
        refine ov_icmp_eq 80 dX6_reads_64 (by decide) hF (fun hF => ?_) (fun hF => ?_)
        · refine ov_pick [1, 2, 4] [(0, .ref 74), (1, .int x1), (3, .int x3)] rfl ?_
          exact V_X6_reads_80 ih x1 x3 σ hF
        · refine ov_iload dX6_reads_67 0 rfl ?_
          refine ov_aload_n dX6_reads_69 1 rfl ?_
          refine ov_callV [] dX6_reads_70 (c_X6_tasteAll hF) (Nat.le_of_ble_eq_true rfl) (Nat.le_of_ble_eq_true rfl) lk_X6_162 sh_74 rfl (Nat.le_of_ble_eq_true rfl) (Nat.le_refl _) (Nat.le_refl _) (fun rr σ9 hF => ?_)
          obtain ⟨v8, rfl, hF⟩ := hF
          show vv_X6_reads k 73 [(4, .int v7), (0, .ref 74), (1, .int x1), (2, .int x2), (3, .int x3)] [.int v8, .int v7] σ9
          refine ov_icmp_eq 80 dX6_reads_73 (by decide) hF (fun hF => ?_) (fun hF => ?_)
          · refine ov_pick [1, 2, 4] [(0, .ref 74), (1, .int x1), (3, .int x3)] rfl ?_
            exact V_X6_reads_80 ih x1 x3 σ9 hF
          · refine ov_iload_n dX6_reads_76 4 rfl ?_
            refine ov_goto 82 dX6_reads_77 (by decide) ?_
            refine ov_pick [1, 2, 4] [(0, .ref 74), (1, .int x1), (3, .int x3)] rfl ?_
            exact V_X6_reads_82 ih x1 x3 x3 σ9 hF
def F_X6_reads (x1 : Int32) (σ : ovSt) (k : Int32 → ovSt → Prop) : Prop := (F_X6_isSheet x1 σ (fun v10 σ11 => (if v10 = 0 then (k (-1000000001) σ11) else (vp_in x1 4 ∧ (if 0 ≤ (σ11 89 (Int32.toNatClampNeg x1)) then (F_X6_thinks σ11 (fun σ14 => (∃ n15, F_X6_reads_31 k n15 x1 (-1000000005) 0 σ14))) else (k (-1000000011) σ11))))))
set_option maxRecDepth 100000 in
set_option maxHeartbeats 4000000 in
theorem c_X6_reads {x1 : Int32} {σ : ovSt} {k : Int32 → ovSt → Prop} (hF : F_X6_reads x1 σ k) : ov_Ct 5 yX6_reads cX6_reads 5 (some .int) ov_S0 [.ref 74, .int x1] σ (ovKi k) := by
  refine ov_Ct.of (by decide) (Nat.le_of_ble_eq_true rfl) ?_
  unfold F_X6_reads at hF
  show vv_X6_reads k 0 [(0, .ref 74), (1, .int x1)] [] σ
  refine ov_iload_n dX6_reads_0 1 rfl ?_
  refine ov_callS [.int x1] dX6_reads_1 (c_X6_isSheet hF) (Nat.le_of_ble_eq_true rfl) (Nat.le_of_ble_eq_true rfl) lk_X6_177 (Nat.le_of_ble_eq_true rfl) (Nat.le_refl _) (Nat.le_refl _) (fun rr σ11 hF => ?_)
  obtain ⟨v10, rfl, hF⟩ := hF
  show vv_X6_reads k 4 [(0, .ref 74), (1, .int x1)] [.int v10] σ11
  refine ov_if_ne 10 dX6_reads_4 (by decide) hF (fun hF => ?_) (fun hF => ?_)
  · refine ov_aload_n dX6_reads_10 0 rfl ?_
    refine ov_getr (T := TX6) (kf := 25) dX6_reads_11 qf_X6_54 sh_74 rfl (Nat.le_of_ble_eq_true rfl) rfl (by decide) ?_
    refine ov_iload_n dX6_reads_14 1 rfl ?_
    have h12 := hF.1
    have hF := hF.2
    refine ov_iaload dX6_reads_15 sh_89 h12 ?_
    refine ov_if_ge 22 dX6_reads_16 (by decide) hF (fun hF => ?_) (fun hF => ?_)
    · refine ov_aload_n dX6_reads_22 0 rfl ?_
      refine ov_callV [] dX6_reads_23 (c_X6_thinks hF) (Nat.le_of_ble_eq_true rfl) (Nat.le_of_ble_eq_true rfl) lk_X6_165 sh_74 rfl (Nat.le_of_ble_eq_true rfl) (Nat.le_refl _) (Nat.le_refl _) (fun rr σ14 hF => ?_)
      obtain ⟨rfl, hF⟩ := hF
      show vv_X6_reads k 26 [(0, .ref 74), (1, .int x1)] [] σ14
      refine ov_ldc dX6_reads_26 qc_X6_81 ?_
      refine ov_istore_n dX6_reads_28 (Nat.le_of_ble_eq_true rfl) [(2, .int (-1000000005)), (0, .ref 74), (1, .int x1)] rfl ?_
      refine ov_iconst 0 (by decide) dX6_reads_29 ?_
      refine ov_istore_n dX6_reads_30 (Nat.le_of_ble_eq_true rfl) [(3, .int 0), (2, .int (-1000000005)), (0, .ref 74), (1, .int x1)] rfl ?_
      refine ov_pick [2, 3, 1, 0] [(0, .ref 74), (1, .int x1), (2, .int (-1000000005)), (3, .int 0)] rfl ?_
      obtain ⟨n15, hF⟩ := hF
      exact V_X6_reads_31 n15 x1 (-1000000005) 0 σ14 hF
    · refine ov_ldc dX6_reads_19 qc_X6_180 ?_
      exact ov_ireturn dX6_reads_21 (Nat.le_refl _) (Nat.le_refl _) ⟨rfl, trivial, _, rfl, hF⟩
  · refine ov_ldc dX6_reads_7 qc_X6_90 ?_
    exact ov_ireturn dX6_reads_9 (Nat.le_refl _) (Nat.le_refl _) ⟨rfl, trivial, _, rfl, hF⟩
/-! X6_copy -/
abbrev vv_X6_copy (k : Int32 → ovSt → Prop) (pc : Nat) (L : List (Nat × Value)) (st : List Value) (σ : ovSt) : Prop := ov_V (ovZs 2 yX6_copy cX6_copy 7) (ovKs (some .int) ov_S0 (ovKi k)) (0, 0) ov_S0 pc L st σ
def F_X6_copy_14 (k : Int32 → ovSt → Prop) (σ : ovSt) : Prop := (k (-1000000001) σ)
set_option maxRecDepth 100000 in
set_option maxHeartbeats 4000000 in
theorem V_X6_copy_14 {k : Int32 → ovSt → Prop} (σ : ovSt) (hF : F_X6_copy_14 k σ) : vv_X6_copy k 14 [] [] σ := by
  unfold F_X6_copy_14 at hF
  refine ov_ldc dX6_copy_14 qc_X6_90 ?_
  exact ov_ireturn dX6_copy_16 (Nat.le_refl _) (Nat.le_refl _) ⟨rfl, trivial, _, rfl, hF⟩
def F_X6_copy_35 (k : Int32 → ovSt → Prop) (σ : ovSt) : Prop := (k (-1000000011) σ)
set_option maxRecDepth 100000 in
set_option maxHeartbeats 4000000 in
theorem V_X6_copy_35 {k : Int32 → ovSt → Prop} (σ : ovSt) (hF : F_X6_copy_35 k σ) : vv_X6_copy k 35 [] [] σ := by
  unfold F_X6_copy_35 at hF
  refine ov_ldc dX6_copy_35 qc_X6_180 ?_
  exact ov_ireturn dX6_copy_37 (Nat.le_refl _) (Nat.le_refl _) ⟨rfl, trivial, _, rfl, hF⟩
def F_X6_copy_97 (k : Int32 → ovSt → Prop) (σ : ovSt) : Prop := (k (-1000000013) σ)
set_option maxRecDepth 100000 in
set_option maxHeartbeats 4000000 in
theorem V_X6_copy_97 {k : Int32 → ovSt → Prop} (σ : ovSt) (hF : F_X6_copy_97 k σ) : vv_X6_copy k 97 [] [] σ := by
  unfold F_X6_copy_97 at hF
  refine ov_ldcw dX6_copy_97 qc_X6_263 ?_
  exact ov_ireturn dX6_copy_100 (Nat.le_refl _) (Nat.le_refl _) ⟨rfl, trivial, _, rfl, hF⟩
def F_X6_copy_141 (k : Int32 → ovSt → Prop) : Nat → Int32 → Int32 → Int32 → Int32 → ovSt → Prop
  | 0 => fun _ _ _ _ _ => False
  | n + 1 => fun x3 x4 x5 x6 σ => (if x5 ≤ x6 then (k x5 σ) else (vp_in x6 24 ∧ (vp_in (((24 * x3) + x4) + x6) 96 ∧ (∀ σ3 : ovSt, σ3 = ov_up σ 91 (Int32.toNatClampNeg (((24 * x3) + x4) + x6)) (σ 96 (Int32.toNatClampNeg x6)) → F_X6_copy_141 k n x3 x4 x5 (x6 + 1) σ3))))
set_option maxRecDepth 100000 in
set_option maxHeartbeats 4000000 in
theorem V_X6_copy_141 {k : Int32 → ovSt → Prop} : ∀ (n : Nat) (x3 : Int32) (x4 : Int32) (x5 : Int32) (x6 : Int32) (σ : ovSt), F_X6_copy_141 k n x3 x4 x5 x6 σ → vv_X6_copy k 141 [(0, .ref 74), (3, .int x3), (4, .int x4), (5, .int x5), (6, .int x6)] [] σ := by
  intro n
  induction n with
  | zero => intro x3 x4 x5 x6 σ hF; exact hF.elim
  | succ n ih =>
    intro x3 x4 x5 x6 σ hF
    unfold F_X6_copy_141 at hF
    refine ov_iload dX6_copy_141 4 rfl ?_
    refine ov_iload dX6_copy_143 3 rfl ?_
    refine ov_icmp_ge 176 dX6_copy_145 (by decide) hF (fun hF => ?_) (fun hF => ?_)
    · refine ov_iload dX6_copy_176 3 rfl ?_
      exact ov_ireturn dX6_copy_178 (Nat.le_refl _) (Nat.le_refl _) ⟨rfl, trivial, _, rfl, hF⟩
    · refine ov_aload_n dX6_copy_148 0 rfl ?_
      refine ov_getr (T := TX6) (kf := 27) dX6_copy_149 qf_X6_60 sh_74 rfl (Nat.le_of_ble_eq_true rfl) rfl (by decide) ?_
      refine ov_bipush 24 (by decide) dX6_copy_152 ?_
      refine ov_iload_n dX6_copy_154 1 rfl ?_
      refine ov_imul dX6_copy_155 ?_
      refine ov_iload dX6_copy_156 2 rfl ?_
      refine ov_iadd dX6_copy_158 ?_
      refine ov_iload dX6_copy_159 4 rfl ?_
      refine ov_iadd dX6_copy_161 ?_
      refine ov_aload_n dX6_copy_162 0 rfl ?_
      refine ov_getr (T := TX6) (kf := 32) dX6_copy_163 qf_X6_75 sh_74 rfl (Nat.le_of_ble_eq_true rfl) rfl (by decide) ?_
      refine ov_iload dX6_copy_166 4 rfl ?_
      have h1 := hF.1
      have hF := hF.2
      refine ov_iaload dX6_copy_168 sh_96 h1 ?_
      have h2 := hF.1
      have hF := hF.2
      refine ov_iastore dX6_copy_169 sh_91 h2 ?_
      refine ov_nmS (fun σ3 es3 => ?_)
      have hF := hF σ3 es3
      refine ov_iinc dX6_copy_170 4 rfl (x6 + 1) rfl (Nat.le_of_ble_eq_true rfl) [(6, .int (x6 + 1)), (0, .ref 74), (3, .int x3), (4, .int x4), (5, .int x5)] rfl ?_
      refine ov_goto 141 dX6_copy_173 (by decide) ?_
      refine ov_pick [1, 2, 3, 4, 0] [(0, .ref 74), (3, .int x3), (4, .int x4), (5, .int x5), (6, .int (x6 + 1))] rfl ?_
      exact ih x3 x4 x5 (x6 + 1) σ3 hF
def F_X6_copy_104 (k : Int32 → ovSt → Prop) : Nat → Int32 → Int32 → Int32 → Int32 → Int32 → Int32 → ovSt → Prop
  | 0 => fun _ _ _ _ _ _ _ => False
  | n + 1 => fun x1 x2 x3 x4 x5 x6 σ => (if x5 ≤ x6 then (∃ n4, F_X6_copy_141 k n4 x3 x4 x5 0 σ) else (vp_in (((24 * x1) + x2) + x6) 96 ∧ (vp_in x6 24 ∧ (∀ σ7 : ovSt, σ7 = ov_up σ 96 (Int32.toNatClampNeg x6) (σ 91 (Int32.toNatClampNeg (((24 * x1) + x2) + x6))) → F_X6_copy_104 k n x1 x2 x3 x4 x5 (x6 + 1) σ7))))
set_option maxRecDepth 100000 in
set_option maxHeartbeats 4000000 in
theorem V_X6_copy_104 {k : Int32 → ovSt → Prop} : ∀ (n : Nat) (x1 : Int32) (x2 : Int32) (x3 : Int32) (x4 : Int32) (x5 : Int32) (x6 : Int32) (σ : ovSt), F_X6_copy_104 k n x1 x2 x3 x4 x5 x6 σ → vv_X6_copy k 104 [(0, .ref 74), (1, .int x1), (2, .int x2), (3, .int x3), (4, .int x4), (5, .int x5), (6, .int x6)] [] σ := by
  intro n
  induction n with
  | zero => intro x1 x2 x3 x4 x5 x6 σ hF; exact hF.elim
  | succ n ih =>
    intro x1 x2 x3 x4 x5 x6 σ hF
    unfold F_X6_copy_104 at hF
    refine ov_iload dX6_copy_104 6 rfl ?_
    refine ov_iload dX6_copy_106 5 rfl ?_
    refine ov_icmp_ge 138 dX6_copy_108 (by decide) hF (fun hF => ?_) (fun hF => ?_)
    · refine ov_iconst 0 (by decide) dX6_copy_138 ?_
      refine ov_istore dX6_copy_139 (Nat.le_of_ble_eq_true rfl) [(6, .int 0), (0, .ref 74), (1, .int x1), (2, .int x2), (3, .int x3), (4, .int x4), (5, .int x5)] rfl ?_
      refine ov_pick [1, 4, 5, 6, 0] [(0, .ref 74), (3, .int x3), (4, .int x4), (5, .int x5), (6, .int 0)] rfl ?_
      obtain ⟨n4, hF⟩ := hF
      exact V_X6_copy_141 n4 x3 x4 x5 0 σ hF
    · refine ov_aload_n dX6_copy_111 0 rfl ?_
      refine ov_getr (T := TX6) (kf := 32) dX6_copy_112 qf_X6_75 sh_74 rfl (Nat.le_of_ble_eq_true rfl) rfl (by decide) ?_
      refine ov_iload dX6_copy_115 6 rfl ?_
      refine ov_aload_n dX6_copy_117 0 rfl ?_
      refine ov_getr (T := TX6) (kf := 27) dX6_copy_118 qf_X6_60 sh_74 rfl (Nat.le_of_ble_eq_true rfl) rfl (by decide) ?_
      refine ov_bipush 24 (by decide) dX6_copy_121 ?_
      refine ov_iload_n dX6_copy_123 1 rfl ?_
      refine ov_imul dX6_copy_124 ?_
      refine ov_iload_n dX6_copy_125 2 rfl ?_
      refine ov_iadd dX6_copy_126 ?_
      refine ov_iload dX6_copy_127 6 rfl ?_
      refine ov_iadd dX6_copy_129 ?_
      have h5 := hF.1
      have hF := hF.2
      refine ov_iaload dX6_copy_130 sh_91 h5 ?_
      have h6 := hF.1
      have hF := hF.2
      refine ov_iastore dX6_copy_131 sh_96 h6 ?_
      refine ov_nmS (fun σ7 es7 => ?_)
      have hF := hF σ7 es7
      refine ov_iinc dX6_copy_132 6 rfl (x6 + 1) rfl (Nat.le_of_ble_eq_true rfl) [(6, .int (x6 + 1)), (0, .ref 74), (1, .int x1), (2, .int x2), (3, .int x3), (4, .int x4), (5, .int x5)] rfl ?_
      refine ov_goto 104 dX6_copy_135 (by decide) ?_
      refine ov_pick [1, 2, 3, 4, 5, 6, 0] [(0, .ref 74), (1, .int x1), (2, .int x2), (3, .int x3), (4, .int x4), (5, .int x5), (6, .int (x6 + 1))] rfl ?_
      exact ih x1 x2 x3 x4 x5 (x6 + 1) σ7 hF
def F_X6_copy (x1 : Int32) (x2 : Int32) (x3 : Int32) (x4 : Int32) (x5 : Int32) (σ : ovSt) (k : Int32 → ovSt → Prop) : Prop := (F_X6_isSheet x1 σ (fun v8 σ9 => (if v8 = 0 then (F_X6_copy_14 k σ9) else (F_X6_isSheet x3 σ9 (fun v10 σ11 => (if v10 = 0 then (F_X6_copy_14 k σ11) else (vp_in x1 4 ∧ (if (σ11 89 (Int32.toNatClampNeg x1)) < 0 then (F_X6_copy_35 k σ11) else (vp_in x3 4 ∧ (if 0 ≤ (σ11 89 (Int32.toNatClampNeg x3)) then (if (σ11 89 (Int32.toNatClampNeg x1)) = (σ11 89 (Int32.toNatClampNeg x3)) then (if x2 < 0 then (F_X6_copy_97 k σ11) else (if x4 < 0 then (F_X6_copy_97 k σ11) else (if x5 < 0 then (F_X6_copy_97 k σ11) else (if ((σ11 90 (Int32.toNatClampNeg x1)) - x5) < x2 then (F_X6_copy_97 k σ11) else (if x4 ≤ ((σ11 90 (Int32.toNatClampNeg x3)) - x5) then (∃ n14, F_X6_copy_104 k n14 x1 x2 x3 x4 x5 0 σ11) else (F_X6_copy_97 k σ11)))))) else (k (-1000000012) σ11)) else (F_X6_copy_35 k σ11)))))))))))
set_option maxRecDepth 100000 in
set_option maxHeartbeats 4000000 in
theorem c_X6_copy {x1 : Int32} {x2 : Int32} {x3 : Int32} {x4 : Int32} {x5 : Int32} {σ : ovSt} {k : Int32 → ovSt → Prop} (hF : F_X6_copy x1 x2 x3 x4 x5 σ k) : ov_Ct 2 yX6_copy cX6_copy 7 (some .int) ov_S0 [.ref 74, .int x1, .int x2, .int x3, .int x4, .int x5] σ (ovKi k) := by
  refine ov_Ct.of (by decide) (Nat.le_of_ble_eq_true rfl) ?_
  unfold F_X6_copy at hF
  show vv_X6_copy k 0 [(0, .ref 74), (1, .int x1), (2, .int x2), (3, .int x3), (4, .int x4), (5, .int x5)] [] σ
  refine ov_iload_n dX6_copy_0 1 rfl ?_
  refine ov_callS [.int x1] dX6_copy_1 (c_X6_isSheet hF) (Nat.le_of_ble_eq_true rfl) (Nat.le_of_ble_eq_true rfl) lk_X6_177 (Nat.le_of_ble_eq_true rfl) (Nat.le_refl _) (Nat.le_refl _) (fun rr σ9 hF => ?_)
  obtain ⟨v8, rfl, hF⟩ := hF
  show vv_X6_copy k 4 [(0, .ref 74), (1, .int x1), (2, .int x2), (3, .int x3), (4, .int x4), (5, .int x5)] [.int v8] σ9
  refine ov_if_eq 14 dX6_copy_4 (by decide) hF (fun hF => ?_) (fun hF => ?_)
  · refine ov_pick [] [] rfl ?_
    exact V_X6_copy_14 σ9 hF
  · refine ov_iload_n dX6_copy_7 3 rfl ?_
    refine ov_callS [.int x3] dX6_copy_8 (c_X6_isSheet hF) (Nat.le_of_ble_eq_true rfl) (Nat.le_of_ble_eq_true rfl) lk_X6_177 (Nat.le_of_ble_eq_true rfl) (Nat.le_refl _) (Nat.le_refl _) (fun rr σ11 hF => ?_)
    obtain ⟨v10, rfl, hF⟩ := hF
    show vv_X6_copy k 11 [(0, .ref 74), (1, .int x1), (2, .int x2), (3, .int x3), (4, .int x4), (5, .int x5)] [.int v10] σ11
    refine ov_if_ne 17 dX6_copy_11 (by decide) hF (fun hF => ?_) (fun hF => ?_)
    · refine ov_aload_n dX6_copy_17 0 rfl ?_
      refine ov_getr (T := TX6) (kf := 25) dX6_copy_18 qf_X6_54 sh_74 rfl (Nat.le_of_ble_eq_true rfl) rfl (by decide) ?_
      refine ov_iload_n dX6_copy_21 1 rfl ?_
      have h12 := hF.1
      have hF := hF.2
      refine ov_iaload dX6_copy_22 sh_89 h12 ?_
      refine ov_if_lt 35 dX6_copy_23 (by decide) hF (fun hF => ?_) (fun hF => ?_)
      · refine ov_pick [] [] rfl ?_
        exact V_X6_copy_35 σ11 hF
      · refine ov_aload_n dX6_copy_26 0 rfl ?_
        refine ov_getr (T := TX6) (kf := 25) dX6_copy_27 qf_X6_54 sh_74 rfl (Nat.le_of_ble_eq_true rfl) rfl (by decide) ?_
        refine ov_iload_n dX6_copy_30 3 rfl ?_
        have h13 := hF.1
        have hF := hF.2
        refine ov_iaload dX6_copy_31 sh_89 h13 ?_
        refine ov_if_ge 38 dX6_copy_32 (by decide) hF (fun hF => ?_) (fun hF => ?_)
        · refine ov_aload_n dX6_copy_38 0 rfl ?_
          refine ov_getr (T := TX6) (kf := 25) dX6_copy_39 qf_X6_54 sh_74 rfl (Nat.le_of_ble_eq_true rfl) rfl (by decide) ?_
          refine ov_iload_n dX6_copy_42 1 rfl ?_
          refine ov_iaload dX6_copy_43 sh_89 h12 ?_
          refine ov_aload_n dX6_copy_44 0 rfl ?_
          refine ov_getr (T := TX6) (kf := 25) dX6_copy_45 qf_X6_54 sh_74 rfl (Nat.le_of_ble_eq_true rfl) rfl (by decide) ?_
          refine ov_iload_n dX6_copy_48 3 rfl ?_
          refine ov_iaload dX6_copy_49 sh_89 h13 ?_
          refine ov_icmp_eq 56 dX6_copy_50 (by decide) hF (fun hF => ?_) (fun hF => ?_)
          · refine ov_iload_n dX6_copy_56 2 rfl ?_
            refine ov_if_lt 97 dX6_copy_57 (by decide) hF (fun hF => ?_) (fun hF => ?_)
            · refine ov_pick [] [] rfl ?_
              exact V_X6_copy_97 σ11 hF
            · refine ov_iload dX6_copy_60 4 rfl ?_
              refine ov_if_lt 97 dX6_copy_62 (by decide) hF (fun hF => ?_) (fun hF => ?_)
              · refine ov_pick [] [] rfl ?_
                exact V_X6_copy_97 σ11 hF
              · refine ov_iload dX6_copy_65 5 rfl ?_
                refine ov_if_lt 97 dX6_copy_67 (by decide) hF (fun hF => ?_) (fun hF => ?_)
                · refine ov_pick [] [] rfl ?_
                  exact V_X6_copy_97 σ11 hF
                · refine ov_iload_n dX6_copy_70 2 rfl ?_
                  refine ov_aload_n dX6_copy_71 0 rfl ?_
                  refine ov_getr (T := TX6) (kf := 26) dX6_copy_72 qf_X6_57 sh_74 rfl (Nat.le_of_ble_eq_true rfl) rfl (by decide) ?_
                  refine ov_iload_n dX6_copy_75 1 rfl ?_
                  refine ov_iaload dX6_copy_76 sh_90 h12 ?_
                  refine ov_iload dX6_copy_77 5 rfl ?_
                  refine ov_isub dX6_copy_79 ?_
                  refine ov_icmp_gt 97 dX6_copy_80 (by decide) hF (fun hF => ?_) (fun hF => ?_)
                  · refine ov_pick [] [] rfl ?_
                    exact V_X6_copy_97 σ11 hF
                  · refine ov_iload dX6_copy_83 4 rfl ?_
                    refine ov_aload_n dX6_copy_85 0 rfl ?_
                    refine ov_getr (T := TX6) (kf := 26) dX6_copy_86 qf_X6_57 sh_74 rfl (Nat.le_of_ble_eq_true rfl) rfl (by decide) ?_
                    refine ov_iload_n dX6_copy_89 3 rfl ?_
                    refine ov_iaload dX6_copy_90 sh_90 h13 ?_
                    refine ov_iload dX6_copy_91 5 rfl ?_
                    refine ov_isub dX6_copy_93 ?_
                    refine ov_icmp_le 101 dX6_copy_94 (by decide) hF (fun hF => ?_) (fun hF => ?_)
                    · refine ov_iconst 0 (by decide) dX6_copy_101 ?_
                      refine ov_istore dX6_copy_102 (Nat.le_of_ble_eq_true rfl) [(6, .int 0), (0, .ref 74), (1, .int x1), (2, .int x2), (3, .int x3), (4, .int x4), (5, .int x5)] rfl ?_
                      refine ov_pick [1, 2, 3, 4, 5, 6, 0] [(0, .ref 74), (1, .int x1), (2, .int x2), (3, .int x3), (4, .int x4), (5, .int x5), (6, .int 0)] rfl ?_
                      obtain ⟨n14, hF⟩ := hF
                      exact V_X6_copy_104 n14 x1 x2 x3 x4 x5 0 σ11 hF
                    · refine ov_pick [] [] rfl ?_
                      exact V_X6_copy_97 σ11 hF
          · refine ov_ldc dX6_copy_53 qc_X6_147 ?_
            exact ov_ireturn dX6_copy_55 (Nat.le_refl _) (Nat.le_refl _) ⟨rfl, trivial, _, rfl, hF⟩
        · refine ov_pick [] [] rfl ?_
          exact V_X6_copy_35 σ11 hF
    · refine ov_pick [] [] rfl ?_
      exact V_X6_copy_14 σ11 hF
/-! X6_lay -/
abbrev vv_X6_lay (k : Int32 → ovSt → Prop) (pc : Nat) (L : List (Nat × Value)) (st : List Value) (σ : ovSt) : Prop := ov_V (ovZs 2 yX6_lay cX6_lay 6) (ovKs (some .int) ov_S0 (ovKi k)) (0, 0) ov_S0 pc L st σ
def F_X6_lay_41 (k : Int32 → ovSt → Prop) (σ : ovSt) : Prop := (k (-1000000001) σ)
set_option maxRecDepth 100000 in
set_option maxHeartbeats 4000000 in
theorem V_X6_lay_41 {k : Int32 → ovSt → Prop} (σ : ovSt) (hF : F_X6_lay_41 k σ) : vv_X6_lay k 41 [] [] σ := by
  unfold F_X6_lay_41 at hF
  refine ov_ldc dX6_lay_41 qc_X6_90 ?_
  exact ov_ireturn dX6_lay_43 (Nat.le_refl _) (Nat.le_refl _) ⟨rfl, trivial, _, rfl, hF⟩
def F_X6_lay_176 (k : Int32 → ovSt → Prop) (x4 : Int32) (σ : ovSt) : Prop := (k x4 σ)
set_option maxRecDepth 100000 in
set_option maxHeartbeats 4000000 in
theorem V_X6_lay_176 {k : Int32 → ovSt → Prop} (x4 : Int32) (σ : ovSt) (hF : F_X6_lay_176 k x4 σ) : vv_X6_lay k 176 [(4, .int x4)] [] σ := by
  unfold F_X6_lay_176 at hF
  refine ov_iload dX6_lay_176 0 rfl ?_
  exact ov_ireturn dX6_lay_178 (Nat.le_refl _) (Nat.le_refl _) ⟨rfl, trivial, _, rfl, hF⟩
def F_X6_lay_134 (k : Int32 → ovSt → Prop) : Nat → Int32 → Int32 → Int32 → Int32 → Int32 → ovSt → Prop
  | 0 => fun _ _ _ _ _ _ => False
  | n + 1 => fun x1 x2 x3 x4 x5 σ => (if (24 : Int32) ≤ x5 then (F_X6_lay_176 k x4 σ) else (if x2 = (2 : Int32) then (vp_in ((24 * x3) + x5) 96 ∧ (vp_in ((24 * x1) + x5) 120 ∧ (∀ σ3 : ovSt, σ3 = ov_up σ 95 (Int32.toNatClampNeg ((24 * x1) + x5)) (σ 91 (Int32.toNatClampNeg ((24 * x3) + x5))) → F_X6_lay_134 k n x1 x2 x3 x4 (x5 + 1) σ3))) else (F_X6_lay_176 k x4 σ)))
set_option maxRecDepth 100000 in
set_option maxHeartbeats 4000000 in
theorem V_X6_lay_134 {k : Int32 → ovSt → Prop} : ∀ (n : Nat) (x1 : Int32) (x2 : Int32) (x3 : Int32) (x4 : Int32) (x5 : Int32) (σ : ovSt), F_X6_lay_134 k n x1 x2 x3 x4 x5 σ → vv_X6_lay k 134 [(0, .ref 74), (1, .int x1), (2, .int x2), (3, .int x3), (4, .int x4), (5, .int x5)] [] σ := by
  intro n
  induction n with
  | zero => intro x1 x2 x3 x4 x5 σ hF; exact hF.elim
  | succ n ih =>
    intro x1 x2 x3 x4 x5 σ hF
    unfold F_X6_lay_134 at hF
    refine ov_iload dX6_lay_134 5 rfl ?_
    refine ov_bipush 24 (by decide) dX6_lay_136 ?_
    refine ov_icmp_ge 176 dX6_lay_138 (by decide) hF (fun hF => ?_) (fun hF => ?_)
    · refine ov_pick [4] [(4, .int x4)] rfl ?_
      exact V_X6_lay_176 x4 σ hF
    · refine ov_iload_n dX6_lay_141 2 rfl ?_
      refine ov_iconst 2 (by decide) dX6_lay_142 ?_
      refine ov_icmp_ne 176 dX6_lay_143 (by decide) hF (fun hF => ?_) (fun hF => ?_)
      · refine ov_pick [4] [(4, .int x4)] rfl ?_
        exact V_X6_lay_176 x4 σ hF
      · refine ov_aload_n dX6_lay_146 0 rfl ?_
        refine ov_getr (T := TX6) (kf := 31) dX6_lay_147 qf_X6_72 sh_74 rfl (Nat.le_of_ble_eq_true rfl) rfl (by decide) ?_
        refine ov_bipush 24 (by decide) dX6_lay_150 ?_
        refine ov_iload_n dX6_lay_152 1 rfl ?_
        refine ov_imul dX6_lay_153 ?_
        refine ov_iload dX6_lay_154 5 rfl ?_
        refine ov_iadd dX6_lay_156 ?_
        refine ov_aload_n dX6_lay_157 0 rfl ?_
        refine ov_getr (T := TX6) (kf := 27) dX6_lay_158 qf_X6_60 sh_74 rfl (Nat.le_of_ble_eq_true rfl) rfl (by decide) ?_
        refine ov_bipush 24 (by decide) dX6_lay_161 ?_
        refine ov_iload_n dX6_lay_163 3 rfl ?_
        refine ov_imul dX6_lay_164 ?_
        refine ov_iload dX6_lay_165 5 rfl ?_
        refine ov_iadd dX6_lay_167 ?_
        have h1 := hF.1
        have hF := hF.2
        refine ov_iaload dX6_lay_168 sh_91 h1 ?_
        have h2 := hF.1
        have hF := hF.2
        refine ov_iastore dX6_lay_169 sh_95 h2 ?_
        refine ov_nmS (fun σ3 es3 => ?_)
        have hF := hF σ3 es3
        refine ov_iinc dX6_lay_170 5 rfl (x5 + 1) rfl (Nat.le_of_ble_eq_true rfl) [(5, .int (x5 + 1)), (0, .ref 74), (1, .int x1), (2, .int x2), (3, .int x3), (4, .int x4)] rfl ?_
        refine ov_goto 134 dX6_lay_173 (by decide) ?_
        refine ov_pick [1, 2, 3, 4, 5, 0] [(0, .ref 74), (1, .int x1), (2, .int x2), (3, .int x3), (4, .int x4), (5, .int (x5 + 1))] rfl ?_
        exact ih x1 x2 x3 x4 (x5 + 1) σ3 hF
def F_X6_lay_130 (k : Int32 → ovSt → Prop) (x1 : Int32) (x2 : Int32) (x3 : Int32) (x4 : Int32) (t0 : Int32) (t1 : Int32) (σ : ovSt) : Prop := (vp_in t1 5 ∧ (∀ σ5 : ovSt, σ5 = ov_up σ 94 (Int32.toNatClampNeg t1) t0 → (∃ n6, F_X6_lay_134 k n6 x1 x2 x3 x4 0 σ5)))
set_option maxRecDepth 100000 in
set_option maxHeartbeats 4000000 in
theorem V_X6_lay_130 {k : Int32 → ovSt → Prop} (x1 : Int32) (x2 : Int32) (x3 : Int32) (x4 : Int32) (t0 : Int32) (t1 : Int32) (σ : ovSt) (hF : F_X6_lay_130 k x1 x2 x3 x4 t0 t1 σ) : vv_X6_lay k 130 [(0, .ref 74), (1, .int x1), (2, .int x2), (3, .int x3), (4, .int x4)] [.int t0, .int t1, .ref 94] σ := by
  unfold F_X6_lay_130 at hF
  have h4 := hF.1
  have hF := hF.2
  refine ov_iastore dX6_lay_130 sh_94 h4 ?_
  refine ov_nmS (fun σ5 es5 => ?_)
  have hF := hF σ5 es5
  refine ov_iconst 0 (by decide) dX6_lay_131 ?_
  refine ov_istore dX6_lay_132 (Nat.le_of_ble_eq_true rfl) [(5, .int 0), (0, .ref 74), (1, .int x1), (2, .int x2), (3, .int x3), (4, .int x4)] rfl ?_
  refine ov_pick [1, 2, 3, 4, 5, 0] [(0, .ref 74), (1, .int x1), (2, .int x2), (3, .int x3), (4, .int x4), (5, .int 0)] rfl ?_
  obtain ⟨n6, hF⟩ := hF
  exact V_X6_lay_134 n6 x1 x2 x3 x4 0 σ5 hF
def F_X6_lay_110 (k : Int32 → ovSt → Prop) (x1 : Int32) (x2 : Int32) (x3 : Int32) (x4 : Int32) (t0 : Int32) (t1 : Int32) (σ : ovSt) : Prop := (vp_in t1 5 ∧ (∀ σ8 : ovSt, σ8 = ov_up σ 93 (Int32.toNatClampNeg t1) t0 → (if x2 = (1 : Int32) then (F_X6_worthOf x3 σ8 (fun v9 σ10 => (F_X6_lay_130 k x1 x2 x3 x4 v9 x1 σ10))) else (F_X6_lay_130 k x1 x2 x3 x4 0 x1 σ8))))
set_option maxRecDepth 100000 in
set_option maxHeartbeats 4000000 in
theorem V_X6_lay_110 {k : Int32 → ovSt → Prop} (x1 : Int32) (x2 : Int32) (x3 : Int32) (x4 : Int32) (t0 : Int32) (t1 : Int32) (σ : ovSt) (hF : F_X6_lay_110 k x1 x2 x3 x4 t0 t1 σ) : vv_X6_lay k 110 [(0, .ref 74), (1, .int x1), (2, .int x2), (3, .int x3), (4, .int x4)] [.int t0, .int t1, .ref 93] σ := by
  unfold F_X6_lay_110 at hF
  have h7 := hF.1
  have hF := hF.2
  refine ov_iastore dX6_lay_110 sh_93 h7 ?_
  refine ov_nmS (fun σ8 es8 => ?_)
  have hF := hF σ8 es8
  refine ov_aload_n dX6_lay_111 0 rfl ?_
  refine ov_getr (T := TX6) (kf := 30) dX6_lay_112 qf_X6_69 sh_74 rfl (Nat.le_of_ble_eq_true rfl) rfl (by decide) ?_
  refine ov_iload_n dX6_lay_115 1 rfl ?_
  refine ov_iload_n dX6_lay_116 2 rfl ?_
  refine ov_iconst 1 (by decide) dX6_lay_117 ?_
  refine ov_icmp_ne 129 dX6_lay_118 (by decide) hF (fun hF => ?_) (fun hF => ?_)
  · refine ov_iconst 0 (by decide) dX6_lay_129 ?_
    exact V_X6_lay_130 x1 x2 x3 x4 0 x1 σ8 hF
  · refine ov_aload_n dX6_lay_121 0 rfl ?_
    refine ov_iload_n dX6_lay_122 3 rfl ?_
    refine ov_callV [.int x3] dX6_lay_123 (c_X6_worthOf hF) (Nat.le_of_ble_eq_true rfl) (Nat.le_of_ble_eq_true rfl) lk_X6_125 sh_74 rfl (Nat.le_of_ble_eq_true rfl) (Nat.le_refl _) (Nat.le_refl _) (fun rr σ10 hF => ?_)
    obtain ⟨v9, rfl, hF⟩ := hF
    show vv_X6_lay k 126 [(0, .ref 74), (1, .int x1), (2, .int x2), (3, .int x3), (4, .int x4)] [.int v9, .int x1, .ref 94] σ10
    refine ov_goto 130 dX6_lay_126 (by decide) ?_
    exact V_X6_lay_130 x1 x2 x3 x4 v9 x1 σ10 hF
def F_X6_lay_61 (k : Int32 → ovSt → Prop) (x1 : Int32) (x2 : Int32) (x3 : Int32) (σ : ovSt) : Prop := (vp_in x1 5 ∧ (∀ v12 : Int32, v12 = (σ 92 (Int32.toNatClampNeg x1)) → (∀ σ13 : ovSt, σ13 = ov_up σ 92 (Int32.toNatClampNeg x1) x2 → (if x2 = (1 : Int32) then (F_X6_of x3 0 σ13 (fun v15 σ16 => (F_X6_lay_110 k x1 x2 x3 v12 v15 x1 σ16))) else (if x2 = (2 : Int32) then (vp_in x3 4 ∧ (F_X6_lay_110 k x1 x2 x3 v12 (σ13 90 (Int32.toNatClampNeg x3)) x1 σ13)) else (F_X6_lay_110 k x1 x2 x3 v12 x3 x1 σ13))))))
set_option maxRecDepth 100000 in
set_option maxHeartbeats 4000000 in
theorem V_X6_lay_61 {k : Int32 → ovSt → Prop} (x1 : Int32) (x2 : Int32) (x3 : Int32) (σ : ovSt) (hF : F_X6_lay_61 k x1 x2 x3 σ) : vv_X6_lay k 61 [(0, .ref 74), (1, .int x1), (2, .int x2), (3, .int x3)] [] σ := by
  unfold F_X6_lay_61 at hF
  refine ov_aload_n dX6_lay_61 0 rfl ?_
  refine ov_getr (T := TX6) (kf := 28) dX6_lay_62 qf_X6_63 sh_74 rfl (Nat.le_of_ble_eq_true rfl) rfl (by decide) ?_
  refine ov_iload_n dX6_lay_65 1 rfl ?_
  have h11 := hF.1
  have hF := hF.2
  refine ov_iaload dX6_lay_66 sh_92 h11 ?_
  refine ov_nmI (fun v12 ev12 => ?_)
  have hF := hF v12 ev12
  refine ov_istore dX6_lay_67 (Nat.le_of_ble_eq_true rfl) [(4, .int v12), (0, .ref 74), (1, .int x1), (2, .int x2), (3, .int x3)] rfl ?_
  refine ov_aload_n dX6_lay_69 1 rfl ?_
  refine ov_getr (T := TX6) (kf := 28) dX6_lay_70 qf_X6_63 sh_74 rfl (Nat.le_of_ble_eq_true rfl) rfl (by decide) ?_
  refine ov_iload_n dX6_lay_73 2 rfl ?_
  refine ov_iload_n dX6_lay_74 3 rfl ?_
  refine ov_iastore dX6_lay_75 sh_92 h11 ?_
  refine ov_nmS (fun σ13 es13 => ?_)
  have hF := hF σ13 es13
  refine ov_aload_n dX6_lay_76 1 rfl ?_
  refine ov_getr (T := TX6) (kf := 29) dX6_lay_77 qf_X6_66 sh_74 rfl (Nat.le_of_ble_eq_true rfl) rfl (by decide) ?_
  refine ov_iload_n dX6_lay_80 2 rfl ?_
  refine ov_iload_n dX6_lay_81 3 rfl ?_
  refine ov_iconst 1 (by decide) dX6_lay_82 ?_
  refine ov_icmp_ne 95 dX6_lay_83 (by decide) hF (fun hF => ?_) (fun hF => ?_)
  · refine ov_iload_n dX6_lay_95 3 rfl ?_
    refine ov_iconst 2 (by decide) dX6_lay_96 ?_
    refine ov_icmp_ne 109 dX6_lay_97 (by decide) hF (fun hF => ?_) (fun hF => ?_)
    · refine ov_iload_n dX6_lay_109 4 rfl ?_
      refine ov_pick [1, 2, 3, 4, 0] [(0, .ref 74), (1, .int x1), (2, .int x2), (3, .int x3), (4, .int v12)] rfl ?_
      exact V_X6_lay_110 x1 x2 x3 v12 x3 x1 σ13 hF
    · refine ov_aload_n dX6_lay_100 1 rfl ?_
      refine ov_getr (T := TX6) (kf := 26) dX6_lay_101 qf_X6_57 sh_74 rfl (Nat.le_of_ble_eq_true rfl) rfl (by decide) ?_
      refine ov_iload_n dX6_lay_104 4 rfl ?_
      have h14 := hF.1
      have hF := hF.2
      refine ov_iaload dX6_lay_105 sh_90 h14 ?_
      refine ov_goto 110 dX6_lay_106 (by decide) ?_
      refine ov_pick [1, 2, 3, 4, 0] [(0, .ref 74), (1, .int x1), (2, .int x2), (3, .int x3), (4, .int v12)] rfl ?_
      exact V_X6_lay_110 x1 x2 x3 v12 (σ13 90 (Int32.toNatClampNeg x3)) x1 σ13 hF
  · refine ov_aload_n dX6_lay_86 1 rfl ?_
    refine ov_iload_n dX6_lay_87 4 rfl ?_
    refine ov_iconst 0 (by decide) dX6_lay_88 ?_
    refine ov_callV [.int x3, .int 0] dX6_lay_89 (c_X6_of hF) (Nat.le_of_ble_eq_true rfl) (Nat.le_of_ble_eq_true rfl) lk_X6_96 sh_74 rfl (Nat.le_of_ble_eq_true rfl) (Nat.le_refl _) (Nat.le_refl _) (fun rr σ16 hF => ?_)
    obtain ⟨v15, rfl, hF⟩ := hF
    show vv_X6_lay k 92 [(4, .int v12), (0, .ref 74), (1, .int x1), (2, .int x2), (3, .int x3)] [.int v15, .int x1, .ref 93] σ16
    refine ov_goto 110 dX6_lay_92 (by decide) ?_
    refine ov_pick [1, 2, 3, 4, 0] [(0, .ref 74), (1, .int x1), (2, .int x2), (3, .int x3), (4, .int v12)] rfl ?_
    exact V_X6_lay_110 x1 x2 x3 v12 v15 x1 σ16 hF
def F_X6_lay_44 (k : Int32 → ovSt → Prop) (x1 : Int32) (x2 : Int32) (x3 : Int32) (σ : ovSt) : Prop := (if x2 = (2 : Int32) then (vp_in x3 4 ∧ (if 0 ≤ (σ 89 (Int32.toNatClampNeg x3)) then (F_X6_lay_61 k x1 x2 x3 σ) else (k (-1000000011) σ))) else (F_X6_lay_61 k x1 x2 x3 σ))
set_option maxRecDepth 100000 in
set_option maxHeartbeats 4000000 in
theorem V_X6_lay_44 {k : Int32 → ovSt → Prop} (x1 : Int32) (x2 : Int32) (x3 : Int32) (σ : ovSt) (hF : F_X6_lay_44 k x1 x2 x3 σ) : vv_X6_lay k 44 [(0, .ref 74), (1, .int x1), (2, .int x2), (3, .int x3)] [] σ := by
  unfold F_X6_lay_44 at hF
  refine ov_iload_n dX6_lay_44 2 rfl ?_
  refine ov_iconst 2 (by decide) dX6_lay_45 ?_
  refine ov_icmp_ne 61 dX6_lay_46 (by decide) hF (fun hF => ?_) (fun hF => ?_)
  · exact V_X6_lay_61 x1 x2 x3 σ hF
  · refine ov_aload_n dX6_lay_49 0 rfl ?_
    refine ov_getr (T := TX6) (kf := 25) dX6_lay_50 qf_X6_54 sh_74 rfl (Nat.le_of_ble_eq_true rfl) rfl (by decide) ?_
    refine ov_iload_n dX6_lay_53 3 rfl ?_
    have h17 := hF.1
    have hF := hF.2
    refine ov_iaload dX6_lay_54 sh_89 h17 ?_
    refine ov_if_ge 61 dX6_lay_55 (by decide) hF (fun hF => ?_) (fun hF => ?_)
    · exact V_X6_lay_61 x1 x2 x3 σ hF
    · refine ov_ldc dX6_lay_58 qc_X6_180 ?_
      exact ov_ireturn dX6_lay_60 (Nat.le_refl _) (Nat.le_refl _) ⟨rfl, trivial, _, rfl, hF⟩
def F_X6_lay_29 (k : Int32 → ovSt → Prop) (x1 : Int32) (x2 : Int32) (x3 : Int32) (σ : ovSt) : Prop := (if x2 = (2 : Int32) then (F_X6_isSheet x3 σ (fun v18 σ19 => (if v18 = 0 then (F_X6_lay_41 k σ19) else (F_X6_lay_44 k x1 x2 x3 σ19)))) else (F_X6_lay_44 k x1 x2 x3 σ))
set_option maxRecDepth 100000 in
set_option maxHeartbeats 4000000 in
theorem V_X6_lay_29 {k : Int32 → ovSt → Prop} (x1 : Int32) (x2 : Int32) (x3 : Int32) (σ : ovSt) (hF : F_X6_lay_29 k x1 x2 x3 σ) : vv_X6_lay k 29 [(0, .ref 74), (1, .int x1), (2, .int x2), (3, .int x3)] [] σ := by
  unfold F_X6_lay_29 at hF
  refine ov_iload_n dX6_lay_29 2 rfl ?_
  refine ov_iconst 2 (by decide) dX6_lay_30 ?_
  refine ov_icmp_ne 44 dX6_lay_31 (by decide) hF (fun hF => ?_) (fun hF => ?_)
  · exact V_X6_lay_44 x1 x2 x3 σ hF
  · refine ov_iload_n dX6_lay_34 3 rfl ?_
    refine ov_callS [.int x3] dX6_lay_35 (c_X6_isSheet hF) (Nat.le_of_ble_eq_true rfl) (Nat.le_of_ble_eq_true rfl) lk_X6_177 (Nat.le_of_ble_eq_true rfl) (Nat.le_refl _) (Nat.le_refl _) (fun rr σ19 hF => ?_)
    obtain ⟨v18, rfl, hF⟩ := hF
    show vv_X6_lay k 38 [(0, .ref 74), (1, .int x1), (2, .int x2), (3, .int x3)] [.int v18] σ19
    refine ov_if_ne 44 dX6_lay_38 (by decide) hF (fun hF => ?_) (fun hF => ?_)
    · exact V_X6_lay_44 x1 x2 x3 σ19 hF
    · refine ov_pick [] [] rfl ?_
      exact V_X6_lay_41 σ19 hF
def F_X6_lay (x1 : Int32) (x2 : Int32) (x3 : Int32) (σ : ovSt) (k : Int32 → ovSt → Prop) : Prop := (F_X6_isSlot x1 σ (fun v20 σ21 => (if v20 = 0 then (F_X6_lay_41 k σ21) else (F_X6_in x2 0 3 σ21 (fun v22 σ23 => (if v22 = 0 then (F_X6_lay_41 k σ23) else (if x2 = (1 : Int32) then (F_X6_isThing x3 σ23 (fun v24 σ25 => (if v24 = 0 then (F_X6_lay_41 k σ25) else (F_X6_lay_29 k x1 x2 x3 σ25)))) else (F_X6_lay_29 k x1 x2 x3 σ23))))))))
set_option maxRecDepth 100000 in
set_option maxHeartbeats 4000000 in
theorem c_X6_lay {x1 : Int32} {x2 : Int32} {x3 : Int32} {σ : ovSt} {k : Int32 → ovSt → Prop} (hF : F_X6_lay x1 x2 x3 σ k) : ov_Ct 2 yX6_lay cX6_lay 6 (some .int) ov_S0 [.ref 74, .int x1, .int x2, .int x3] σ (ovKi k) := by
  refine ov_Ct.of (by decide) (Nat.le_of_ble_eq_true rfl) ?_
  unfold F_X6_lay at hF
  show vv_X6_lay k 0 [(0, .ref 74), (1, .int x1), (2, .int x2), (3, .int x3)] [] σ
  refine ov_iload_n dX6_lay_0 1 rfl ?_
  refine ov_callS [.int x1] dX6_lay_1 (c_X6_isSlot hF) (Nat.le_of_ble_eq_true rfl) (Nat.le_of_ble_eq_true rfl) lk_X6_265 (Nat.le_of_ble_eq_true rfl) (Nat.le_refl _) (Nat.le_refl _) (fun rr σ21 hF => ?_)
  obtain ⟨v20, rfl, hF⟩ := hF
  show vv_X6_lay k 4 [(0, .ref 74), (1, .int x1), (2, .int x2), (3, .int x3)] [.int v20] σ21
  refine ov_if_eq 41 dX6_lay_4 (by decide) hF (fun hF => ?_) (fun hF => ?_)
  · refine ov_pick [] [] rfl ?_
    exact V_X6_lay_41 σ21 hF
  · refine ov_iload_n dX6_lay_7 2 rfl ?_
    refine ov_iconst 0 (by decide) dX6_lay_8 ?_
    refine ov_iconst 3 (by decide) dX6_lay_9 ?_
    refine ov_callS [.int x2, .int 0, .int 3] dX6_lay_10 (c_X6_in hF) (Nat.le_of_ble_eq_true rfl) (Nat.le_of_ble_eq_true rfl) lk_X6_82 (Nat.le_of_ble_eq_true rfl) (Nat.le_refl _) (Nat.le_refl _) (fun rr σ23 hF => ?_)
    obtain ⟨v22, rfl, hF⟩ := hF
    show vv_X6_lay k 13 [(0, .ref 74), (1, .int x1), (2, .int x2), (3, .int x3)] [.int v22] σ23
    refine ov_if_eq 41 dX6_lay_13 (by decide) hF (fun hF => ?_) (fun hF => ?_)
    · refine ov_pick [] [] rfl ?_
      exact V_X6_lay_41 σ23 hF
    · refine ov_iload_n dX6_lay_16 2 rfl ?_
      refine ov_iconst 1 (by decide) dX6_lay_17 ?_
      refine ov_icmp_ne 29 dX6_lay_18 (by decide) hF (fun hF => ?_) (fun hF => ?_)
      · exact V_X6_lay_29 x1 x2 x3 σ23 hF
      · refine ov_aload_n dX6_lay_21 0 rfl ?_
        refine ov_iload_n dX6_lay_22 3 rfl ?_
        refine ov_callV [.int x3] dX6_lay_23 (c_X6_isThing hF) (Nat.le_of_ble_eq_true rfl) (Nat.le_of_ble_eq_true rfl) lk_X6_104 sh_74 rfl (Nat.le_of_ble_eq_true rfl) (Nat.le_refl _) (Nat.le_refl _) (fun rr σ25 hF => ?_)
        obtain ⟨v24, rfl, hF⟩ := hF
        show vv_X6_lay k 26 [(0, .ref 74), (1, .int x1), (2, .int x2), (3, .int x3)] [.int v24] σ25
        refine ov_if_eq 41 dX6_lay_26 (by decide) hF (fun hF => ?_) (fun hF => ?_)
        · refine ov_pick [] [] rfl ?_
          exact V_X6_lay_41 σ25 hF
        · exact V_X6_lay_29 x1 x2 x3 σ25 hF
/-! X6_ask -/
abbrev vv_X6_ask (k : Int32 → ovSt → Prop) (pc : Nat) (L : List (Nat × Value)) (st : List Value) (σ : ovSt) : Prop := ov_V (ovZs 2 yX6_ask cX6_ask 3) (ovKs (some .int) ov_S0 (ovKi k)) (0, 0) ov_S0 pc L st σ
def F_X6_ask_16 (k : Int32 → ovSt → Prop) (σ : ovSt) : Prop := (k (-1000000001) σ)
set_option maxRecDepth 100000 in
set_option maxHeartbeats 4000000 in
theorem V_X6_ask_16 {k : Int32 → ovSt → Prop} (σ : ovSt) (hF : F_X6_ask_16 k σ) : vv_X6_ask k 16 [] [] σ := by
  unfold F_X6_ask_16 at hF
  refine ov_ldc dX6_ask_16 qc_X6_90 ?_
  exact ov_ireturn dX6_ask_18 (Nat.le_refl _) (Nat.le_refl _) ⟨rfl, trivial, _, rfl, hF⟩
def F_X6_ask_65 (k : Int32 → ovSt → Prop) (t0 : Int32) (σ : ovSt) : Prop := (k t0 σ)
set_option maxRecDepth 100000 in
set_option maxHeartbeats 4000000 in
theorem V_X6_ask_65 {k : Int32 → ovSt → Prop} (t0 : Int32) (σ : ovSt) (hF : F_X6_ask_65 k t0 σ) : vv_X6_ask k 65 [] [.int t0] σ := by
  unfold F_X6_ask_65 at hF
  exact ov_ireturn dX6_ask_65 (Nat.le_refl _) (Nat.le_refl _) ⟨rfl, trivial, _, rfl, hF⟩
def F_X6_ask_63 (k : Int32 → ovSt → Prop) (σ : ovSt) : Prop := (F_X6_ask_65 k (-1000000012) σ)
set_option maxRecDepth 100000 in
set_option maxHeartbeats 4000000 in
theorem V_X6_ask_63 {k : Int32 → ovSt → Prop} (σ : ovSt) (hF : F_X6_ask_63 k σ) : vv_X6_ask k 63 [] [] σ := by
  unfold F_X6_ask_63 at hF
  refine ov_ldc dX6_ask_63 qc_X6_147 ?_
  exact V_X6_ask_65 (-1000000012) σ hF
def F_X6_ask (x1 : Int32) (x2 : Int32) (σ : ovSt) (k : Int32 → ovSt → Prop) : Prop := (F_X6_isSlot x1 σ (fun v1 σ2 => (if v1 = 0 then (F_X6_ask_16 k σ2) else (F_X6_in x2 0 5 σ2 (fun v3 σ4 => (if v3 = 0 then (F_X6_ask_16 k σ4) else (vp_in x1 5 ∧ (if (σ4 92 (Int32.toNatClampNeg x1)) = 0 then (k (-1000000011) σ4) else (if (σ4 92 (Int32.toNatClampNeg x1)) = (1 : Int32) then (F_X6_isUnder (σ4 93 (Int32.toNatClampNeg x1)) x2 σ4 (fun v6 σ7 => (if v6 = 0 then (F_X6_ask_63 k σ7) else (F_X6_ask_65 k (σ7 94 (Int32.toNatClampNeg x1)) σ7)))) else (F_X6_ask_63 k σ4))))))))))
set_option maxRecDepth 100000 in
set_option maxHeartbeats 4000000 in
theorem c_X6_ask {x1 : Int32} {x2 : Int32} {σ : ovSt} {k : Int32 → ovSt → Prop} (hF : F_X6_ask x1 x2 σ k) : ov_Ct 2 yX6_ask cX6_ask 3 (some .int) ov_S0 [.ref 74, .int x1, .int x2] σ (ovKi k) := by
  refine ov_Ct.of (by decide) (Nat.le_of_ble_eq_true rfl) ?_
  unfold F_X6_ask at hF
  show vv_X6_ask k 0 [(0, .ref 74), (1, .int x1), (2, .int x2)] [] σ
  refine ov_iload_n dX6_ask_0 1 rfl ?_
  refine ov_callS [.int x1] dX6_ask_1 (c_X6_isSlot hF) (Nat.le_of_ble_eq_true rfl) (Nat.le_of_ble_eq_true rfl) lk_X6_265 (Nat.le_of_ble_eq_true rfl) (Nat.le_refl _) (Nat.le_refl _) (fun rr σ2 hF => ?_)
  obtain ⟨v1, rfl, hF⟩ := hF
  show vv_X6_ask k 4 [(0, .ref 74), (1, .int x1), (2, .int x2)] [.int v1] σ2
  refine ov_if_eq 16 dX6_ask_4 (by decide) hF (fun hF => ?_) (fun hF => ?_)
  · refine ov_pick [] [] rfl ?_
    exact V_X6_ask_16 σ2 hF
  · refine ov_iload_n dX6_ask_7 2 rfl ?_
    refine ov_iconst 0 (by decide) dX6_ask_8 ?_
    refine ov_iconst 5 (by decide) dX6_ask_9 ?_
    refine ov_callS [.int x2, .int 0, .int 5] dX6_ask_10 (c_X6_in hF) (Nat.le_of_ble_eq_true rfl) (Nat.le_of_ble_eq_true rfl) lk_X6_82 (Nat.le_of_ble_eq_true rfl) (Nat.le_refl _) (Nat.le_refl _) (fun rr σ4 hF => ?_)
    obtain ⟨v3, rfl, hF⟩ := hF
    show vv_X6_ask k 13 [(0, .ref 74), (1, .int x1), (2, .int x2)] [.int v3] σ4
    refine ov_if_ne 19 dX6_ask_13 (by decide) hF (fun hF => ?_) (fun hF => ?_)
    · refine ov_aload_n dX6_ask_19 0 rfl ?_
      refine ov_getr (T := TX6) (kf := 28) dX6_ask_20 qf_X6_63 sh_74 rfl (Nat.le_of_ble_eq_true rfl) rfl (by decide) ?_
      refine ov_iload_n dX6_ask_23 1 rfl ?_
      have h5 := hF.1
      have hF := hF.2
      refine ov_iaload dX6_ask_24 sh_92 h5 ?_
      refine ov_if_ne 31 dX6_ask_25 (by decide) hF (fun hF => ?_) (fun hF => ?_)
      · refine ov_aload_n dX6_ask_31 0 rfl ?_
        refine ov_getr (T := TX6) (kf := 28) dX6_ask_32 qf_X6_63 sh_74 rfl (Nat.le_of_ble_eq_true rfl) rfl (by decide) ?_
        refine ov_iload_n dX6_ask_35 1 rfl ?_
        refine ov_iaload dX6_ask_36 sh_92 h5 ?_
        refine ov_iconst 1 (by decide) dX6_ask_37 ?_
        refine ov_icmp_ne 63 dX6_ask_38 (by decide) hF (fun hF => ?_) (fun hF => ?_)
        · refine ov_pick [] [] rfl ?_
          exact V_X6_ask_63 σ4 hF
        · refine ov_aload_n dX6_ask_41 0 rfl ?_
          refine ov_getr (T := TX6) (kf := 29) dX6_ask_42 qf_X6_66 sh_74 rfl (Nat.le_of_ble_eq_true rfl) rfl (by decide) ?_
          refine ov_iload_n dX6_ask_45 1 rfl ?_
          refine ov_iaload dX6_ask_46 sh_93 h5 ?_
          refine ov_iload_n dX6_ask_47 2 rfl ?_
          refine ov_callS [.int (σ4 93 (Int32.toNatClampNeg x1)), .int x2] dX6_ask_48 (c_X6_isUnder hF) (Nat.le_of_ble_eq_true rfl) (Nat.le_of_ble_eq_true rfl) lk_X6_143 (Nat.le_of_ble_eq_true rfl) (Nat.le_refl _) (Nat.le_refl _) (fun rr σ7 hF => ?_)
          obtain ⟨v6, rfl, hF⟩ := hF
          show vv_X6_ask k 51 [(0, .ref 74), (1, .int x1), (2, .int x2)] [.int v6] σ7
          refine ov_if_eq 63 dX6_ask_51 (by decide) hF (fun hF => ?_) (fun hF => ?_)
          · refine ov_pick [] [] rfl ?_
            exact V_X6_ask_63 σ7 hF
          · refine ov_aload_n dX6_ask_54 0 rfl ?_
            refine ov_getr (T := TX6) (kf := 30) dX6_ask_55 qf_X6_69 sh_74 rfl (Nat.le_of_ble_eq_true rfl) rfl (by decide) ?_
            refine ov_iload_n dX6_ask_58 1 rfl ?_
            refine ov_iaload dX6_ask_59 sh_94 h5 ?_
            refine ov_goto 65 dX6_ask_60 (by decide) ?_
            refine ov_pick [] [] rfl ?_
            exact V_X6_ask_65 (σ7 94 (Int32.toNatClampNeg x1)) σ7 hF
      · refine ov_ldc dX6_ask_28 qc_X6_180 ?_
        exact ov_ireturn dX6_ask_30 (Nat.le_refl _) (Nat.le_refl _) ⟨rfl, trivial, _, rfl, hF⟩
    · refine ov_pick [] [] rfl ?_
      exact V_X6_ask_16 σ4 hF
/-! X6_item -/
abbrev vv_X6_item (k : Int32 → ovSt → Prop) (pc : Nat) (L : List (Nat × Value)) (st : List Value) (σ : ovSt) : Prop := ov_V (ovZs 2 yX6_item cX6_item 4) (ovKs (some .int) ov_S0 (ovKi k)) (0, 0) ov_S0 pc L st σ
def F_X6_item_79 (k : Int32 → ovSt → Prop) (t0 : Int32) (σ : ovSt) : Prop := (k t0 σ)
set_option maxRecDepth 100000 in
set_option maxHeartbeats 4000000 in
theorem V_X6_item_79 {k : Int32 → ovSt → Prop} (t0 : Int32) (σ : ovSt) (hF : F_X6_item_79 k t0 σ) : vv_X6_item k 79 [] [.int t0] σ := by
  unfold F_X6_item_79 at hF
  exact ov_ireturn dX6_item_79 (Nat.le_refl _) (Nat.le_refl _) ⟨rfl, trivial, _, rfl, hF⟩
def F_X6_item (x1 : Int32) (x2 : Int32) (σ : ovSt) (k : Int32 → ovSt → Prop) : Prop := (F_X6_isSlot x1 σ (fun v1 σ2 => (if v1 = 0 then (k (-1000000001) σ2) else (vp_in x1 5 ∧ (if (σ2 92 (Int32.toNatClampNeg x1)) = 0 then (k (-1000000011) σ2) else (if (σ2 92 (Int32.toNatClampNeg x1)) = (2 : Int32) then (F_X6_in x2 0 ((σ2 93 (Int32.toNatClampNeg x1)) - 1) σ2 (fun v4 σ5 => (if v4 = 0 then (k (-1000000013) σ5) else (vp_in ((24 * x1) + x2) 120 ∧ (∀ v7 : Int32, v7 = (σ5 95 (Int32.toNatClampNeg ((24 * x1) + x2))) → (if v7 = ((-1000000005) : Int32) then (F_X6_item_79 k (-1000000012) σ5) else (F_X6_item_79 k v7 σ5))))))) else (k (-1000000012) σ2)))))))
set_option maxRecDepth 100000 in
set_option maxHeartbeats 4000000 in
theorem c_X6_item {x1 : Int32} {x2 : Int32} {σ : ovSt} {k : Int32 → ovSt → Prop} (hF : F_X6_item x1 x2 σ k) : ov_Ct 2 yX6_item cX6_item 4 (some .int) ov_S0 [.ref 74, .int x1, .int x2] σ (ovKi k) := by
  refine ov_Ct.of (by decide) (Nat.le_of_ble_eq_true rfl) ?_
  unfold F_X6_item at hF
  show vv_X6_item k 0 [(0, .ref 74), (1, .int x1), (2, .int x2)] [] σ
  refine ov_iload_n dX6_item_0 1 rfl ?_
  refine ov_callS [.int x1] dX6_item_1 (c_X6_isSlot hF) (Nat.le_of_ble_eq_true rfl) (Nat.le_of_ble_eq_true rfl) lk_X6_265 (Nat.le_of_ble_eq_true rfl) (Nat.le_refl _) (Nat.le_refl _) (fun rr σ2 hF => ?_)
  obtain ⟨v1, rfl, hF⟩ := hF
  show vv_X6_item k 4 [(0, .ref 74), (1, .int x1), (2, .int x2)] [.int v1] σ2
  refine ov_if_ne 10 dX6_item_4 (by decide) hF (fun hF => ?_) (fun hF => ?_)
  · refine ov_aload_n dX6_item_10 0 rfl ?_
    refine ov_getr (T := TX6) (kf := 28) dX6_item_11 qf_X6_63 sh_74 rfl (Nat.le_of_ble_eq_true rfl) rfl (by decide) ?_
    refine ov_iload_n dX6_item_14 1 rfl ?_
    have h3 := hF.1
    have hF := hF.2
    refine ov_iaload dX6_item_15 sh_92 h3 ?_
    refine ov_if_ne 22 dX6_item_16 (by decide) hF (fun hF => ?_) (fun hF => ?_)
    · refine ov_aload_n dX6_item_22 0 rfl ?_
      refine ov_getr (T := TX6) (kf := 28) dX6_item_23 qf_X6_63 sh_74 rfl (Nat.le_of_ble_eq_true rfl) rfl (by decide) ?_
      refine ov_iload_n dX6_item_26 1 rfl ?_
      refine ov_iaload dX6_item_27 sh_92 h3 ?_
      refine ov_iconst 2 (by decide) dX6_item_28 ?_
      refine ov_icmp_eq 35 dX6_item_29 (by decide) hF (fun hF => ?_) (fun hF => ?_)
      · refine ov_iload_n dX6_item_35 2 rfl ?_
        refine ov_iconst 0 (by decide) dX6_item_36 ?_
        refine ov_aload_n dX6_item_37 0 rfl ?_
        refine ov_getr (T := TX6) (kf := 29) dX6_item_38 qf_X6_66 sh_74 rfl (Nat.le_of_ble_eq_true rfl) rfl (by decide) ?_
        refine ov_iload_n dX6_item_41 1 rfl ?_
        refine ov_iaload dX6_item_42 sh_93 h3 ?_
        refine ov_iconst 1 (by decide) dX6_item_43 ?_
        refine ov_isub dX6_item_44 ?_
        refine ov_callS [.int x2, .int 0, .int ((σ2 93 (Int32.toNatClampNeg x1)) - 1)] dX6_item_45 (c_X6_in hF) (Nat.le_of_ble_eq_true rfl) (Nat.le_of_ble_eq_true rfl) lk_X6_82 (Nat.le_of_ble_eq_true rfl) (Nat.le_refl _) (Nat.le_refl _) (fun rr σ5 hF => ?_)
        obtain ⟨v4, rfl, hF⟩ := hF
        show vv_X6_item k 48 [(0, .ref 74), (1, .int x1), (2, .int x2)] [.int v4] σ5
        refine ov_if_ne 55 dX6_item_48 (by decide) hF (fun hF => ?_) (fun hF => ?_)
        · refine ov_aload_n dX6_item_55 0 rfl ?_
          refine ov_getr (T := TX6) (kf := 31) dX6_item_56 qf_X6_72 sh_74 rfl (Nat.le_of_ble_eq_true rfl) rfl (by decide) ?_
          refine ov_bipush 24 (by decide) dX6_item_59 ?_
          refine ov_iload_n dX6_item_61 1 rfl ?_
          refine ov_imul dX6_item_62 ?_
          refine ov_iload_n dX6_item_63 2 rfl ?_
          refine ov_iadd dX6_item_64 ?_
          have h6 := hF.1
          have hF := hF.2
          refine ov_iaload dX6_item_65 sh_95 h6 ?_
          refine ov_nmI (fun v7 ev7 => ?_)
          have hF := hF v7 ev7
          refine ov_istore_n dX6_item_66 (Nat.le_of_ble_eq_true rfl) [(3, .int v7), (0, .ref 74), (1, .int x1), (2, .int x2)] rfl ?_
          refine ov_iload_n dX6_item_67 0 rfl ?_
          refine ov_ldc dX6_item_68 qc_X6_81 ?_
          refine ov_icmp_ne 78 dX6_item_70 (by decide) hF (fun hF => ?_) (fun hF => ?_)
          · refine ov_iload_n dX6_item_78 0 rfl ?_
            refine ov_pick [] [] rfl ?_
            exact V_X6_item_79 v7 σ5 hF
          · refine ov_ldc dX6_item_73 qc_X6_147 ?_
            refine ov_goto 79 dX6_item_75 (by decide) ?_
            refine ov_pick [] [] rfl ?_
            exact V_X6_item_79 (-1000000012) σ5 hF
        · refine ov_ldcw dX6_item_51 qc_X6_263 ?_
          exact ov_ireturn dX6_item_54 (Nat.le_refl _) (Nat.le_refl _) ⟨rfl, trivial, _, rfl, hF⟩
      · refine ov_ldc dX6_item_32 qc_X6_147 ?_
        exact ov_ireturn dX6_item_34 (Nat.le_refl _) (Nat.le_refl _) ⟨rfl, trivial, _, rfl, hF⟩
    · refine ov_ldc dX6_item_19 qc_X6_180 ?_
      exact ov_ireturn dX6_item_21 (Nat.le_refl _) (Nat.le_refl _) ⟨rfl, trivial, _, rfl, hF⟩
  · refine ov_ldc dX6_item_7 qc_X6_90 ?_
    exact ov_ireturn dX6_item_9 (Nat.le_refl _) (Nat.le_refl _) ⟨rfl, trivial, _, rfl, hF⟩
/-! X6_rest -/
abbrev vv_X6_rest (k : Int32 → ovSt → Prop) (pc : Nat) (L : List (Nat × Value)) (st : List Value) (σ : ovSt) : Prop := ov_V (ovZs 2 yX6_rest cX6_rest 3) (ovKs (some .int) ov_S0 (ovKi k)) (0, 0) ov_S0 pc L st σ
def F_X6_rest_61 (k : Int32 → ovSt → Prop) (t0 : Int32) (σ : ovSt) : Prop := (k t0 σ)
set_option maxRecDepth 100000 in
set_option maxHeartbeats 4000000 in
theorem V_X6_rest_61 {k : Int32 → ovSt → Prop} (t0 : Int32) (σ : ovSt) (hF : F_X6_rest_61 k t0 σ) : vv_X6_rest k 61 [] [.int t0] σ := by
  unfold F_X6_rest_61 at hF
  exact ov_ireturn dX6_rest_61 (Nat.le_refl _) (Nat.le_refl _) ⟨rfl, trivial, _, rfl, hF⟩
def F_X6_rest (x1 : Int32) (x2 : Int32) (σ : ovSt) (k : Int32 → ovSt → Prop) : Prop := (F_X6_isSlot x1 σ (fun v1 σ2 => (if v1 = 0 then (k (-1000000001) σ2) else (vp_in x1 5 ∧ (if (σ2 92 (Int32.toNatClampNeg x1)) = 0 then (k (-1000000011) σ2) else (if (σ2 92 (Int32.toNatClampNeg x1)) = (3 : Int32) then (if x2 = 0 then (F_X6_rest_61 k (-1000000002) σ2) else (if x2 = ((-1) : Int32) then (F_X6_rest_61 k 0 σ2) else (¬ x2 = 0 ∧ (F_X6_rest_61 k ((σ2 93 (Int32.toNatClampNeg x1)) - (σ2 93 (Int32.toNatClampNeg x1)) / x2 * x2) σ2)))) else (k (-1000000012) σ2)))))))
set_option maxRecDepth 100000 in
set_option maxHeartbeats 4000000 in
theorem c_X6_rest {x1 : Int32} {x2 : Int32} {σ : ovSt} {k : Int32 → ovSt → Prop} (hF : F_X6_rest x1 x2 σ k) : ov_Ct 2 yX6_rest cX6_rest 3 (some .int) ov_S0 [.ref 74, .int x1, .int x2] σ (ovKi k) := by
  refine ov_Ct.of (by decide) (Nat.le_of_ble_eq_true rfl) ?_
  unfold F_X6_rest at hF
  show vv_X6_rest k 0 [(0, .ref 74), (1, .int x1), (2, .int x2)] [] σ
  refine ov_iload_n dX6_rest_0 1 rfl ?_
  refine ov_callS [.int x1] dX6_rest_1 (c_X6_isSlot hF) (Nat.le_of_ble_eq_true rfl) (Nat.le_of_ble_eq_true rfl) lk_X6_265 (Nat.le_of_ble_eq_true rfl) (Nat.le_refl _) (Nat.le_refl _) (fun rr σ2 hF => ?_)
  obtain ⟨v1, rfl, hF⟩ := hF
  show vv_X6_rest k 4 [(0, .ref 74), (1, .int x1), (2, .int x2)] [.int v1] σ2
  refine ov_if_ne 10 dX6_rest_4 (by decide) hF (fun hF => ?_) (fun hF => ?_)
  · refine ov_aload_n dX6_rest_10 0 rfl ?_
    refine ov_getr (T := TX6) (kf := 28) dX6_rest_11 qf_X6_63 sh_74 rfl (Nat.le_of_ble_eq_true rfl) rfl (by decide) ?_
    refine ov_iload_n dX6_rest_14 1 rfl ?_
    have h3 := hF.1
    have hF := hF.2
    refine ov_iaload dX6_rest_15 sh_92 h3 ?_
    refine ov_if_ne 22 dX6_rest_16 (by decide) hF (fun hF => ?_) (fun hF => ?_)
    · refine ov_aload_n dX6_rest_22 0 rfl ?_
      refine ov_getr (T := TX6) (kf := 28) dX6_rest_23 qf_X6_63 sh_74 rfl (Nat.le_of_ble_eq_true rfl) rfl (by decide) ?_
      refine ov_iload_n dX6_rest_26 1 rfl ?_
      refine ov_iaload dX6_rest_27 sh_92 h3 ?_
      refine ov_iconst 3 (by decide) dX6_rest_28 ?_
      refine ov_icmp_eq 35 dX6_rest_29 (by decide) hF (fun hF => ?_) (fun hF => ?_)
      · refine ov_iload_n dX6_rest_35 2 rfl ?_
        refine ov_if_ne 44 dX6_rest_36 (by decide) hF (fun hF => ?_) (fun hF => ?_)
        · refine ov_iload_n dX6_rest_44 2 rfl ?_
          refine ov_iconst (-1) (by decide) dX6_rest_45 ?_
          refine ov_icmp_ne 53 dX6_rest_46 (by decide) hF (fun hF => ?_) (fun hF => ?_)
          · refine ov_aload_n dX6_rest_53 0 rfl ?_
            refine ov_getr (T := TX6) (kf := 29) dX6_rest_54 qf_X6_66 sh_74 rfl (Nat.le_of_ble_eq_true rfl) rfl (by decide) ?_
            refine ov_iload_n dX6_rest_57 1 rfl ?_
            refine ov_iaload dX6_rest_58 sh_93 h3 ?_
            refine ov_iload_n dX6_rest_59 2 rfl ?_
            have h4 := hF.1
            have hF := hF.2
            refine ov_irem h4 dX6_rest_60 ?_
            refine ov_pick [] [] rfl ?_
            exact V_X6_rest_61 ((σ2 93 (Int32.toNatClampNeg x1)) - (σ2 93 (Int32.toNatClampNeg x1)) / x2 * x2) σ2 hF
          · refine ov_iconst 0 (by decide) dX6_rest_49 ?_
            refine ov_goto 61 dX6_rest_50 (by decide) ?_
            refine ov_pick [] [] rfl ?_
            exact V_X6_rest_61 0 σ2 hF
        · refine ov_ldc dX6_rest_39 qc_X6_189 ?_
          refine ov_goto 61 dX6_rest_41 (by decide) ?_
          refine ov_pick [] [] rfl ?_
          exact V_X6_rest_61 (-1000000002) σ2 hF
      · refine ov_ldc dX6_rest_32 qc_X6_147 ?_
        exact ov_ireturn dX6_rest_34 (Nat.le_refl _) (Nat.le_refl _) ⟨rfl, trivial, _, rfl, hF⟩
    · refine ov_ldc dX6_rest_19 qc_X6_180 ?_
      exact ov_ireturn dX6_rest_21 (Nat.le_refl _) (Nat.le_refl _) ⟨rfl, trivial, _, rfl, hF⟩
  · refine ov_ldc dX6_rest_7 qc_X6_90 ?_
    exact ov_ireturn dX6_rest_9 (Nat.le_refl _) (Nat.le_refl _) ⟨rfl, trivial, _, rfl, hF⟩
/-! X6_tell -/
abbrev vv_X6_tell (k : Int32 → ovSt → Prop) (pc : Nat) (L : List (Nat × Value)) (st : List Value) (σ : ovSt) : Prop := ov_V (ovZs 0 yX6_tell cX6_tell 2) (ovKs (some .int) ov_S0 (ovKi k)) (0, 0) ov_S0 pc L st σ
def F_X6_tell (x1 : Int32) (σ : ovSt) (k : Int32 → ovSt → Prop) : Prop := (if (σ 74 34) = (60 : Int32) then (k (-1000000003) σ) else (vp_in (σ 74 34) 60 ∧ (∀ σ2 : ovSt, σ2 = ov_up σ 97 (Int32.toNatClampNeg (σ 74 34)) x1 → (∀ σ3 : ovSt, σ3 = ov_up σ2 74 34 ((σ2 74 34) + 1) → (k (σ3 74 34) σ3)))))
set_option maxRecDepth 100000 in
set_option maxHeartbeats 4000000 in
theorem c_X6_tell {x1 : Int32} {σ : ovSt} {k : Int32 → ovSt → Prop} (hF : F_X6_tell x1 σ k) : ov_Ct 0 yX6_tell cX6_tell 2 (some .int) ov_S0 [.ref 74, .int x1] σ (ovKi k) := by
  refine ov_Ct.of (by decide) (Nat.le_of_ble_eq_true rfl) ?_
  unfold F_X6_tell at hF
  show vv_X6_tell k 0 [(0, .ref 74), (1, .int x1)] [] σ
  refine ov_aload_n dX6_tell_0 0 rfl ?_
  refine ov_geti (T := TX6) (kf := 34) dX6_tell_1 qf_X6_268 sh_74 rfl (Nat.le_of_ble_eq_true rfl) rfl ?_
  refine ov_bipush 60 (by decide) dX6_tell_4 ?_
  refine ov_icmp_ne 12 dX6_tell_6 (by decide) hF (fun hF => ?_) (fun hF => ?_)
  · refine ov_aload_n dX6_tell_12 0 rfl ?_
    refine ov_getr (T := TX6) (kf := 33) dX6_tell_13 qf_X6_78 sh_74 rfl (Nat.le_of_ble_eq_true rfl) rfl (by decide) ?_
    refine ov_aload_n dX6_tell_16 0 rfl ?_
    refine ov_geti (T := TX6) (kf := 34) dX6_tell_17 qf_X6_268 sh_74 rfl (Nat.le_of_ble_eq_true rfl) rfl ?_
    refine ov_iload_n dX6_tell_20 1 rfl ?_
    have h1 := hF.1
    have hF := hF.2
    refine ov_iastore dX6_tell_21 sh_97 h1 ?_
    refine ov_nmS (fun σ2 es2 => ?_)
    have hF := hF σ2 es2
    refine ov_aload_n dX6_tell_22 0 rfl ?_
    refine ov_dup rfl dX6_tell_23 ?_
    refine ov_geti (T := TX6) (kf := 34) dX6_tell_24 qf_X6_268 sh_74 rfl (Nat.le_of_ble_eq_true rfl) rfl ?_
    refine ov_iconst 1 (by decide) dX6_tell_27 ?_
    refine ov_iadd dX6_tell_28 ?_
    refine ov_puti (T := TX6) (kf := 34) dX6_tell_29 qf_X6_268 sh_74 rfl (Nat.le_of_ble_eq_true rfl) rfl rfl (by decide +kernel) ?_
    refine ov_nmS (fun σ3 es3 => ?_)
    have hF := hF σ3 es3
    refine ov_aload_n dX6_tell_32 0 rfl ?_
    refine ov_geti (T := TX6) (kf := 34) dX6_tell_33 qf_X6_268 sh_74 rfl (Nat.le_of_ble_eq_true rfl) rfl ?_
    exact ov_ireturn dX6_tell_36 (Nat.le_refl _) (Nat.le_refl _) ⟨rfl, trivial, _, rfl, hF⟩
  · refine ov_ldc dX6_tell_9 qc_X6_91 ?_
    exact ov_ireturn dX6_tell_11 (Nat.le_refl _) (Nat.le_refl _) ⟨rfl, trivial, _, rfl, hF⟩
/-! X6_check -/
abbrev vv_X6_check (k : Int32 → ovSt → Prop) (pc : Nat) (L : List (Nat × Value)) (st : List Value) (σ : ovSt) : Prop := ov_V (ovZs 5 yX6_check cX6_check 6) (ovKs (some .int) ov_S0 (ovKi k)) (0, 0) ov_S0 pc L st σ
def F_X6_check_168 (R79 : Int32 → Int32 → Int32 → Int32 → ovSt → Prop) (k : Int32 → ovSt → Prop) (x2 : Int32) (x3 : Int32) (x5 : Int32) (t0 : Int32) (t1 : Int32) (σ : ovSt) : Prop := (∀ v1 : Int32, v1 = (t1 + t0) → R79 x2 x3 v1 (x5 + 1) σ)
set_option maxRecDepth 100000 in
set_option maxHeartbeats 4000000 in
theorem V_X6_check_168 {k : Int32 → ovSt → Prop} {R79 : Int32 → Int32 → Int32 → Int32 → ovSt → Prop} (hR79 : ∀ (x2 : Int32) (x3 : Int32) (x4 : Int32) (x5 : Int32) (σ : ovSt), R79 x2 x3 x4 x5 σ → vv_X6_check k 79 [(0, .ref 74), (2, .int x2), (3, .int x3), (4, .int x4), (5, .int x5)] [] σ) (x2 : Int32) (x3 : Int32) (x5 : Int32) (t0 : Int32) (t1 : Int32) (σ : ovSt) (hF : F_X6_check_168 R79 k x2 x3 x5 t0 t1 σ) : vv_X6_check k 168 [(0, .ref 74), (2, .int x2), (3, .int x3), (5, .int x5)] [.int t0, .int t1] σ := by
  unfold F_X6_check_168 at hF
  refine ov_iadd dX6_check_168 ?_
  refine ov_nmI (fun v1 ev1 => ?_)
  have hF := hF v1 ev1
  refine ov_istore dX6_check_169 (Nat.le_of_ble_eq_true rfl) [(4, .int v1), (0, .ref 74), (2, .int x2), (3, .int x3), (5, .int x5)] rfl ?_
  refine ov_iinc dX6_check_171 4 rfl (x5 + 1) rfl (Nat.le_of_ble_eq_true rfl) [(5, .int (x5 + 1)), (4, .int v1), (0, .ref 74), (2, .int x2), (3, .int x3)] rfl ?_
  refine ov_goto 79 dX6_check_174 (by decide) ?_
  refine ov_pick [2, 3, 4, 1, 0] [(0, .ref 74), (2, .int x2), (3, .int x3), (4, .int v1), (5, .int (x5 + 1))] rfl ?_
  exact hR79 x2 x3 v1 (x5 + 1) σ hF
def F_X6_check_167 (R79 : Int32 → Int32 → Int32 → Int32 → ovSt → Prop) (k : Int32 → ovSt → Prop) (x2 : Int32) (x3 : Int32) (x5 : Int32) (t0 : Int32) (σ : ovSt) : Prop := (F_X6_check_168 R79 k x2 x3 x5 0 t0 σ)
set_option maxRecDepth 100000 in
set_option maxHeartbeats 4000000 in
theorem V_X6_check_167 {k : Int32 → ovSt → Prop} {R79 : Int32 → Int32 → Int32 → Int32 → ovSt → Prop} (hR79 : ∀ (x2 : Int32) (x3 : Int32) (x4 : Int32) (x5 : Int32) (σ : ovSt), R79 x2 x3 x4 x5 σ → vv_X6_check k 79 [(0, .ref 74), (2, .int x2), (3, .int x3), (4, .int x4), (5, .int x5)] [] σ) (x2 : Int32) (x3 : Int32) (x5 : Int32) (t0 : Int32) (σ : ovSt) (hF : F_X6_check_167 R79 k x2 x3 x5 t0 σ) : vv_X6_check k 167 [(0, .ref 74), (2, .int x2), (3, .int x3), (5, .int x5)] [.int t0] σ := by
  unfold F_X6_check_167 at hF
  refine ov_iconst 0 (by decide) dX6_check_167 ?_
  exact V_X6_check_168 hR79 x2 x3 x5 0 t0 σ hF
def F_X6_check_127 (R79 : Int32 → Int32 → Int32 → Int32 → ovSt → Prop) (k : Int32 → ovSt → Prop) (x2 : Int32) (x3 : Int32) (x5 : Int32) (t0 : Int32) (t1 : Int32) (σ : ovSt) : Prop := (∀ v2 : Int32, v2 = (t1 + t0) → (if v2 = ((2 * x5) + 1) then (if x2 ≤ v2 then (F_X6_check_167 R79 k x2 x3 x5 v2 σ) else (vp_in v2 60 ∧ (F_X6_amountAll σ (fun v4 σ5 => (if (σ 97 (Int32.toNatClampNeg v2)) = v4 then (F_X6_check_168 R79 k x2 x3 x5 1 v2 σ5) else (F_X6_check_167 R79 k x2 x3 x5 v2 σ5)))))) else (F_X6_check_167 R79 k x2 x3 x5 v2 σ)))
set_option maxRecDepth 100000 in
set_option maxHeartbeats 4000000 in
theorem V_X6_check_127 {k : Int32 → ovSt → Prop} {R79 : Int32 → Int32 → Int32 → Int32 → ovSt → Prop} (hR79 : ∀ (x2 : Int32) (x3 : Int32) (x4 : Int32) (x5 : Int32) (σ : ovSt), R79 x2 x3 x4 x5 σ → vv_X6_check k 79 [(0, .ref 74), (2, .int x2), (3, .int x3), (4, .int x4), (5, .int x5)] [] σ) (x2 : Int32) (x3 : Int32) (x5 : Int32) (t0 : Int32) (t1 : Int32) (σ : ovSt) (hF : F_X6_check_127 R79 k x2 x3 x5 t0 t1 σ) : vv_X6_check k 127 [(0, .ref 74), (2, .int x2), (3, .int x3), (5, .int x5)] [.int t0, .int t1] σ := by
  unfold F_X6_check_127 at hF
  refine ov_iadd dX6_check_127 ?_
  refine ov_nmI (fun v2 ev2 => ?_)
  have hF := hF v2 ev2
  refine ov_istore dX6_check_128 (Nat.le_of_ble_eq_true rfl) [(4, .int v2), (0, .ref 74), (2, .int x2), (3, .int x3), (5, .int x5)] rfl ?_
  refine ov_iload dX6_check_130 0 rfl ?_
  refine ov_iload dX6_check_132 0 rfl ?_
  refine ov_iconst 2 (by decide) dX6_check_134 ?_
  refine ov_iload dX6_check_135 4 rfl ?_
  refine ov_imul dX6_check_137 ?_
  refine ov_iconst 1 (by decide) dX6_check_138 ?_
  refine ov_iadd dX6_check_139 ?_
  refine ov_icmp_ne 167 dX6_check_140 (by decide) hF (fun hF => ?_) (fun hF => ?_)
  · refine ov_pick [1, 2, 3, 4] [(0, .ref 74), (2, .int x2), (3, .int x3), (5, .int x5)] rfl ?_
    exact V_X6_check_167 hR79 x2 x3 x5 v2 σ hF
  · refine ov_iload dX6_check_143 0 rfl ?_
    refine ov_iload_n dX6_check_145 2 rfl ?_
    refine ov_icmp_ge 167 dX6_check_146 (by decide) hF (fun hF => ?_) (fun hF => ?_)
    · refine ov_pick [1, 2, 3, 4] [(0, .ref 74), (2, .int x2), (3, .int x3), (5, .int x5)] rfl ?_
      exact V_X6_check_167 hR79 x2 x3 x5 v2 σ hF
    · refine ov_aload_n dX6_check_149 1 rfl ?_
      refine ov_getr (T := TX6) (kf := 33) dX6_check_150 qf_X6_78 sh_74 rfl (Nat.le_of_ble_eq_true rfl) rfl (by decide) ?_
      refine ov_iload dX6_check_153 0 rfl ?_
      have h3 := hF.1
      have hF := hF.2
      refine ov_iaload dX6_check_155 sh_97 h3 ?_
      refine ov_aload_n dX6_check_156 1 rfl ?_
      refine ov_callV [] dX6_check_157 (c_X6_amountAll hF) (Nat.le_of_ble_eq_true rfl) (Nat.le_of_ble_eq_true rfl) lk_X6_128 sh_74 rfl (Nat.le_of_ble_eq_true rfl) (Nat.le_refl _) (Nat.le_refl _) (fun rr σ5 hF => ?_)
      obtain ⟨v4, rfl, hF⟩ := hF
      show vv_X6_check k 160 [(4, .int v2), (0, .ref 74), (2, .int x2), (3, .int x3), (5, .int x5)] [.int v4, .int (σ 97 (Int32.toNatClampNeg v2)), .int v2] σ5
      refine ov_icmp_ne 167 dX6_check_160 (by decide) hF (fun hF => ?_) (fun hF => ?_)
      · refine ov_pick [1, 2, 3, 4] [(0, .ref 74), (2, .int x2), (3, .int x3), (5, .int x5)] rfl ?_
        exact V_X6_check_167 hR79 x2 x3 x5 v2 σ5 hF
      · refine ov_iconst 1 (by decide) dX6_check_163 ?_
        refine ov_goto 168 dX6_check_164 (by decide) ?_
        refine ov_pick [1, 2, 3, 4] [(0, .ref 74), (2, .int x2), (3, .int x3), (5, .int x5)] rfl ?_
        exact V_X6_check_168 hR79 x2 x3 x5 1 v2 σ5 hF
def F_X6_check_126 (R79 : Int32 → Int32 → Int32 → Int32 → ovSt → Prop) (k : Int32 → ovSt → Prop) (x2 : Int32) (x3 : Int32) (x5 : Int32) (t0 : Int32) (σ : ovSt) : Prop := (F_X6_check_127 R79 k x2 x3 x5 0 t0 σ)
set_option maxRecDepth 100000 in
set_option maxHeartbeats 4000000 in
theorem V_X6_check_126 {k : Int32 → ovSt → Prop} {R79 : Int32 → Int32 → Int32 → Int32 → ovSt → Prop} (hR79 : ∀ (x2 : Int32) (x3 : Int32) (x4 : Int32) (x5 : Int32) (σ : ovSt), R79 x2 x3 x4 x5 σ → vv_X6_check k 79 [(0, .ref 74), (2, .int x2), (3, .int x3), (4, .int x4), (5, .int x5)] [] σ) (x2 : Int32) (x3 : Int32) (x5 : Int32) (t0 : Int32) (σ : ovSt) (hF : F_X6_check_126 R79 k x2 x3 x5 t0 σ) : vv_X6_check k 126 [(0, .ref 74), (2, .int x2), (3, .int x3), (5, .int x5)] [.int t0] σ := by
  unfold F_X6_check_126 at hF
  refine ov_iconst 0 (by decide) dX6_check_126 ?_
  exact V_X6_check_127 hR79 x2 x3 x5 0 t0 σ hF
def F_X6_check_208 (k : Int32 → ovSt → Prop) (t0 : Int32) (σ : ovSt) : Prop := (k t0 σ)
set_option maxRecDepth 100000 in
set_option maxHeartbeats 4000000 in
theorem V_X6_check_208 {k : Int32 → ovSt → Prop} (t0 : Int32) (σ : ovSt) (hF : F_X6_check_208 k t0 σ) : vv_X6_check k 208 [] [.int t0] σ := by
  unfold F_X6_check_208 at hF
  exact ov_ireturn dX6_check_208 (Nat.le_refl _) (Nat.le_refl _) ⟨rfl, trivial, _, rfl, hF⟩
def F_X6_check_204 (k : Int32 → ovSt → Prop) (x4 : Int32) (σ : ovSt) : Prop := (F_X6_check_208 k (1 + x4) σ)
set_option maxRecDepth 100000 in
set_option maxHeartbeats 4000000 in
theorem V_X6_check_204 {k : Int32 → ovSt → Prop} (x4 : Int32) (σ : ovSt) (hF : F_X6_check_204 k x4 σ) : vv_X6_check k 204 [(4, .int x4)] [] σ := by
  unfold F_X6_check_204 at hF
  refine ov_iconst 1 (by decide) dX6_check_204 ?_
  refine ov_iload dX6_check_205 0 rfl ?_
  refine ov_iadd dX6_check_207 ?_
  refine ov_pick [] [] rfl ?_
  exact V_X6_check_208 (1 + x4) σ hF
def F_X6_check_177 (k : Int32 → ovSt → Prop) (x2 : Int32) (x3 : Int32) (x4 : Int32) (σ : ovSt) : Prop := (F_X6_copyAll 77 75 σ (fun σ7 => (if x4 = x2 then (if x4 = x3 then (F_X6_check_208 k 0 σ7) else (F_X6_check_204 k x4 σ7)) else (F_X6_check_204 k x4 σ7))))
set_option maxRecDepth 100000 in
set_option maxHeartbeats 4000000 in
theorem V_X6_check_177 {k : Int32 → ovSt → Prop} (x2 : Int32) (x3 : Int32) (x4 : Int32) (σ : ovSt) (hF : F_X6_check_177 k x2 x3 x4 σ) : vv_X6_check k 177 [(0, .ref 74), (2, .int x2), (3, .int x3), (4, .int x4)] [] σ := by
  unfold F_X6_check_177 at hF
  refine ov_aload_n dX6_check_177 0 rfl ?_
  refine ov_getr (T := TX6) (kf := 2) dX6_check_178 qf_X6_16 sh_74 rfl (Nat.le_of_ble_eq_true rfl) rfl (by decide) ?_
  refine ov_aload_n dX6_check_181 0 rfl ?_
  refine ov_getr (T := TX6) (kf := 0) dX6_check_182 qf_X6_9 sh_74 rfl (Nat.le_of_ble_eq_true rfl) rfl (by decide) ?_
  refine ov_callS [.ref 77, .ref 75] dX6_check_185 (c_X6_copyAll hF) (Nat.le_of_ble_eq_true rfl) (Nat.le_of_ble_eq_true rfl) lk_X6_190 (Nat.le_of_ble_eq_true rfl) (Nat.le_refl _) (Nat.le_refl _) (fun rr σ7 hF => ?_)
  obtain ⟨rfl, hF⟩ := hF
  show vv_X6_check k 188 [(0, .ref 74), (2, .int x2), (3, .int x3), (4, .int x4)] [] σ7
  refine ov_iload dX6_check_188 3 rfl ?_
  refine ov_iload_n dX6_check_190 1 rfl ?_
  refine ov_icmp_ne 204 dX6_check_191 (by decide) hF (fun hF => ?_) (fun hF => ?_)
  · refine ov_pick [3] [(4, .int x4)] rfl ?_
    exact V_X6_check_204 x4 σ7 hF
  · refine ov_iload dX6_check_194 3 rfl ?_
    refine ov_iload_n dX6_check_196 2 rfl ?_
    refine ov_icmp_ne 204 dX6_check_197 (by decide) hF (fun hF => ?_) (fun hF => ?_)
    · refine ov_pick [3] [(4, .int x4)] rfl ?_
      exact V_X6_check_204 x4 σ7 hF
    · refine ov_iconst 0 (by decide) dX6_check_200 ?_
      refine ov_goto 208 dX6_check_201 (by decide) ?_
      refine ov_pick [] [] rfl ?_
      exact V_X6_check_208 0 σ7 hF
def F_X6_check_79 (k : Int32 → ovSt → Prop) : Nat → Int32 → Int32 → Int32 → Int32 → ovSt → Prop
  | 0 => fun _ _ _ _ _ => False
  | n + 1 => fun x2 x3 x4 x5 σ => (if x3 ≤ (2 * x5) then (F_X6_check_177 k x2 x3 x4 σ) else (if x4 = (2 * x5) then (F_X6_day σ (fun σ9 => (if x2 ≤ x4 then (F_X6_check_126 (F_X6_check_79 k n) k x2 x3 x5 x4 σ9) else (vp_in x4 60 ∧ (F_X6_tasteAll σ9 (fun v11 σ12 => (if (σ9 97 (Int32.toNatClampNeg x4)) = v11 then (F_X6_check_127 (F_X6_check_79 k n) k x2 x3 x5 1 x4 σ12) else (F_X6_check_126 (F_X6_check_79 k n) k x2 x3 x5 x4 σ12)))))))) else (F_X6_check_177 k x2 x3 x4 σ)))
set_option maxRecDepth 100000 in
set_option maxHeartbeats 4000000 in
theorem V_X6_check_79 {k : Int32 → ovSt → Prop} : ∀ (n : Nat) (x2 : Int32) (x3 : Int32) (x4 : Int32) (x5 : Int32) (σ : ovSt), F_X6_check_79 k n x2 x3 x4 x5 σ → vv_X6_check k 79 [(0, .ref 74), (2, .int x2), (3, .int x3), (4, .int x4), (5, .int x5)] [] σ := by
  intro n
  induction n with
  | zero => intro x2 x3 x4 x5 σ hF; exact hF.elim
  | succ n ih =>
    intro x2 x3 x4 x5 σ hF
    unfold F_X6_check_79 at hF
    refine ov_iconst 2 (by decide) dX6_check_79 ?_
    refine ov_iload dX6_check_80 4 rfl ?_
    refine ov_imul dX6_check_82 ?_
    refine ov_iload_n dX6_check_83 2 rfl ?_
    refine ov_icmp_ge 177 dX6_check_84 (by decide) hF (fun hF => ?_) (fun hF => ?_)
    · refine ov_pick [0, 1, 2, 3] [(0, .ref 74), (2, .int x2), (3, .int x3), (4, .int x4)] rfl ?_
      exact V_X6_check_177 x2 x3 x4 σ hF
    · refine ov_iload dX6_check_87 3 rfl ?_
      refine ov_iconst 2 (by decide) dX6_check_89 ?_
      refine ov_iload dX6_check_90 4 rfl ?_
      refine ov_imul dX6_check_92 ?_
      refine ov_icmp_ne 177 dX6_check_93 (by decide) hF (fun hF => ?_) (fun hF => ?_)
      · refine ov_pick [0, 1, 2, 3] [(0, .ref 74), (2, .int x2), (3, .int x3), (4, .int x4)] rfl ?_
        exact V_X6_check_177 x2 x3 x4 σ hF
      · refine ov_aload_n dX6_check_96 0 rfl ?_
        refine ov_callV [] dX6_check_97 (c_X6_day hF) (Nat.le_of_ble_eq_true rfl) (Nat.le_of_ble_eq_true rfl) lk_X6_155 sh_74 rfl (Nat.le_of_ble_eq_true rfl) (Nat.le_refl _) (Nat.le_refl _) (fun rr σ9 hF => ?_)
        obtain ⟨rfl, hF⟩ := hF
        show vv_X6_check k 100 [(0, .ref 74), (2, .int x2), (3, .int x3), (4, .int x4), (5, .int x5)] [] σ9
        refine ov_iload dX6_check_100 3 rfl ?_
        refine ov_iload dX6_check_102 3 rfl ?_
        refine ov_iload_n dX6_check_104 1 rfl ?_
        refine ov_icmp_ge 126 dX6_check_105 (by decide) hF (fun hF => ?_) (fun hF => ?_)
        · refine ov_pick [0, 1, 2, 4] [(0, .ref 74), (2, .int x2), (3, .int x3), (5, .int x5)] rfl ?_
          exact V_X6_check_126 ih x2 x3 x5 x4 σ9 hF
        · refine ov_aload_n dX6_check_108 0 rfl ?_
          refine ov_getr (T := TX6) (kf := 33) dX6_check_109 qf_X6_78 sh_74 rfl (Nat.le_of_ble_eq_true rfl) rfl (by decide) ?_
          refine ov_iload dX6_check_112 3 rfl ?_
          have h10 := hF.1
          have hF := hF.2
          refine ov_iaload dX6_check_114 sh_97 h10 ?_
          refine ov_aload_n dX6_check_115 0 rfl ?_
          refine ov_callV [] dX6_check_116 (c_X6_tasteAll hF) (Nat.le_of_ble_eq_true rfl) (Nat.le_of_ble_eq_true rfl) lk_X6_162 sh_74 rfl (Nat.le_of_ble_eq_true rfl) (Nat.le_refl _) (Nat.le_refl _) (fun rr σ12 hF => ?_)
          obtain ⟨v11, rfl, hF⟩ := hF
          show vv_X6_check k 119 [(0, .ref 74), (2, .int x2), (3, .int x3), (4, .int x4), (5, .int x5)] [.int v11, .int (σ9 97 (Int32.toNatClampNeg x4)), .int x4] σ12
          refine ov_icmp_ne 126 dX6_check_119 (by decide) hF (fun hF => ?_) (fun hF => ?_)
          · refine ov_pick [0, 1, 2, 4] [(0, .ref 74), (2, .int x2), (3, .int x3), (5, .int x5)] rfl ?_
            exact V_X6_check_126 ih x2 x3 x5 x4 σ12 hF
          · refine ov_iconst 1 (by decide) dX6_check_122 ?_
            refine ov_goto 127 dX6_check_123 (by decide) ?_
            refine ov_pick [0, 1, 2, 4] [(0, .ref 74), (2, .int x2), (3, .int x3), (5, .int x5)] rfl ?_
            exact V_X6_check_127 ih x2 x3 x5 1 x4 σ12 hF
def F_X6_check (x1 : Int32) (σ : ovSt) (k : Int32 → ovSt → Prop) : Prop := (∀ v13 : Int32, v13 = (σ 74 34) → (∀ σ14 : ovSt, σ14 = ov_up σ 74 34 0 → (F_X6_in x1 1 30 σ14 (fun v15 σ16 => (if v15 = 0 then (k (-1000000001) σ16) else (if (σ16 74 3) = 0 then (k (-1000000002) σ16) else (F_X6_copyAll 75 77 σ16 (fun σ18 => (F_X6_copyAll 76 75 σ18 (fun σ20 => (vp_in 4 1412 ∧ (F_X6_within (9999 - (σ20 75 (Int32.toNatClampNeg 4))) 0 x1 σ20 (fun v22 σ23 => (∀ v24 : Int32, v24 = (2 * v22) → (∃ n25, F_X6_check_79 k n25 v13 v24 0 0 σ23)))))))))))))))
set_option maxRecDepth 100000 in
set_option maxHeartbeats 4000000 in
theorem c_X6_check {x1 : Int32} {σ : ovSt} {k : Int32 → ovSt → Prop} (hF : F_X6_check x1 σ k) : ov_Ct 5 yX6_check cX6_check 6 (some .int) ov_S0 [.ref 74, .int x1] σ (ovKi k) := by
  refine ov_Ct.of (by decide) (Nat.le_of_ble_eq_true rfl) ?_
  unfold F_X6_check at hF
  show vv_X6_check k 0 [(0, .ref 74), (1, .int x1)] [] σ
  refine ov_aload_n dX6_check_0 0 rfl ?_
  refine ov_geti (T := TX6) (kf := 34) dX6_check_1 qf_X6_268 sh_74 rfl (Nat.le_of_ble_eq_true rfl) rfl ?_
  refine ov_nmI (fun v13 ev13 => ?_)
  have hF := hF v13 ev13
  refine ov_istore_n dX6_check_4 (Nat.le_of_ble_eq_true rfl) [(2, .int v13), (0, .ref 74), (1, .int x1)] rfl ?_
  refine ov_aload_n dX6_check_5 1 rfl ?_
  refine ov_iconst 0 (by decide) dX6_check_6 ?_
  refine ov_puti (T := TX6) (kf := 34) dX6_check_7 qf_X6_268 sh_74 rfl (Nat.le_of_ble_eq_true rfl) rfl rfl (by decide +kernel) ?_
  refine ov_nmS (fun σ14 es14 => ?_)
  have hF := hF σ14 es14
  refine ov_iload_n dX6_check_10 2 rfl ?_
  refine ov_iconst 1 (by decide) dX6_check_11 ?_
  refine ov_bipush 30 (by decide) dX6_check_12 ?_
  refine ov_callS [.int x1, .int 1, .int 30] dX6_check_14 (c_X6_in hF) (Nat.le_of_ble_eq_true rfl) (Nat.le_of_ble_eq_true rfl) lk_X6_82 (Nat.le_of_ble_eq_true rfl) (Nat.le_refl _) (Nat.le_refl _) (fun rr σ16 hF => ?_)
  obtain ⟨v15, rfl, hF⟩ := hF
  show vv_X6_check k 17 [(2, .int v13), (0, .ref 74), (1, .int x1)] [.int v15] σ16
  refine ov_if_ne 23 dX6_check_17 (by decide) hF (fun hF => ?_) (fun hF => ?_)
  · refine ov_aload_n dX6_check_23 1 rfl ?_
    refine ov_geti (T := TX6) (kf := 3) dX6_check_24 qf_X6_185 sh_74 rfl (Nat.le_of_ble_eq_true rfl) rfl ?_
    refine ov_if_ne 33 dX6_check_27 (by decide) hF (fun hF => ?_) (fun hF => ?_)
    · refine ov_aload_n dX6_check_33 1 rfl ?_
      refine ov_getr (T := TX6) (kf := 0) dX6_check_34 qf_X6_9 sh_74 rfl (Nat.le_of_ble_eq_true rfl) rfl (by decide) ?_
      refine ov_aload_n dX6_check_37 1 rfl ?_
      refine ov_getr (T := TX6) (kf := 2) dX6_check_38 qf_X6_16 sh_74 rfl (Nat.le_of_ble_eq_true rfl) rfl (by decide) ?_
      refine ov_callS [.ref 75, .ref 77] dX6_check_41 (c_X6_copyAll hF) (Nat.le_of_ble_eq_true rfl) (Nat.le_of_ble_eq_true rfl) lk_X6_190 (Nat.le_of_ble_eq_true rfl) (Nat.le_refl _) (Nat.le_refl _) (fun rr σ18 hF => ?_)
      obtain ⟨rfl, hF⟩ := hF
      show vv_X6_check k 44 [(2, .int v13), (0, .ref 74), (1, .int x1)] [] σ18
      refine ov_aload_n dX6_check_44 1 rfl ?_
      refine ov_getr (T := TX6) (kf := 1) dX6_check_45 qf_X6_13 sh_74 rfl (Nat.le_of_ble_eq_true rfl) rfl (by decide) ?_
      refine ov_aload_n dX6_check_48 1 rfl ?_
      refine ov_getr (T := TX6) (kf := 0) dX6_check_49 qf_X6_9 sh_74 rfl (Nat.le_of_ble_eq_true rfl) rfl (by decide) ?_
      refine ov_callS [.ref 76, .ref 75] dX6_check_52 (c_X6_copyAll hF) (Nat.le_of_ble_eq_true rfl) (Nat.le_of_ble_eq_true rfl) lk_X6_190 (Nat.le_of_ble_eq_true rfl) (Nat.le_refl _) (Nat.le_refl _) (fun rr σ20 hF => ?_)
      obtain ⟨rfl, hF⟩ := hF
      show vv_X6_check k 55 [(2, .int v13), (0, .ref 74), (1, .int x1)] [] σ20
      refine ov_iconst 2 (by decide) dX6_check_55 ?_
      refine ov_sipush 9999 (by decide) dX6_check_56 ?_
      refine ov_aload_n dX6_check_59 1 rfl ?_
      refine ov_getr (T := TX6) (kf := 0) dX6_check_60 qf_X6_9 sh_74 rfl (Nat.le_of_ble_eq_true rfl) rfl (by decide) ?_
      refine ov_iconst 4 (by decide) dX6_check_63 ?_
      have h21 := hF.1
      have hF := hF.2
      refine ov_iaload dX6_check_64 sh_75 h21 ?_
      refine ov_isub dX6_check_65 ?_
      refine ov_iconst 0 (by decide) dX6_check_66 ?_
      refine ov_iload_n dX6_check_67 2 rfl ?_
      refine ov_callS [.int (9999 - (σ20 75 (Int32.toNatClampNeg 4))), .int 0, .int x1] dX6_check_68 (c_X6_within hF) (Nat.le_of_ble_eq_true rfl) (Nat.le_of_ble_eq_true rfl) lk_X6_101 (Nat.le_of_ble_eq_true rfl) (Nat.le_refl _) (Nat.le_refl _) (fun rr σ23 hF => ?_)
      obtain ⟨v22, rfl, hF⟩ := hF
      show vv_X6_check k 71 [(2, .int v13), (0, .ref 74), (1, .int x1)] [.int v22, .int 2] σ23
      refine ov_imul dX6_check_71 ?_
      refine ov_nmI (fun v24 ev24 => ?_)
      have hF := hF v24 ev24
      refine ov_istore_n dX6_check_72 (Nat.le_of_ble_eq_true rfl) [(3, .int v24), (2, .int v13), (0, .ref 74), (1, .int x1)] rfl ?_
      refine ov_iconst 0 (by decide) dX6_check_73 ?_
      refine ov_istore dX6_check_74 (Nat.le_of_ble_eq_true rfl) [(4, .int 0), (3, .int v24), (2, .int v13), (0, .ref 74), (1, .int x1)] rfl ?_
      refine ov_iconst 0 (by decide) dX6_check_76 ?_
      refine ov_istore dX6_check_77 (Nat.le_of_ble_eq_true rfl) [(5, .int 0), (4, .int 0), (3, .int v24), (2, .int v13), (0, .ref 74), (1, .int x1)] rfl ?_
      refine ov_pick [4, 3, 2, 1, 0] [(0, .ref 74), (2, .int v13), (3, .int v24), (4, .int 0), (5, .int 0)] rfl ?_
      obtain ⟨n25, hF⟩ := hF
      exact V_X6_check_79 n25 v13 v24 0 0 σ23 hF
    · refine ov_ldc dX6_check_30 qc_X6_189 ?_
      exact ov_ireturn dX6_check_32 (Nat.le_refl _) (Nat.le_refl _) ⟨rfl, trivial, _, rfl, hF⟩
  · refine ov_ldc dX6_check_20 qc_X6_90 ?_
    exact ov_ireturn dX6_check_22 (Nat.le_refl _) (Nat.le_refl _) ⟨rfl, trivial, _, rfl, hF⟩
/-! X6_keep -/
abbrev vv_X6_keep (k : Int32 → ovSt → Prop) (pc : Nat) (L : List (Nat × Value)) (st : List Value) (σ : ovSt) : Prop := ov_V (ovZs 1 yX6_keep cX6_keep 1) (ovKs (some .int) ov_S0 (ovKi k)) (0, 0) ov_S0 pc L st σ
def F_X6_keep (σ : ovSt) (k : Int32 → ovSt → Prop) : Prop := (F_X6_copyAll 75 76 σ (fun σ2 => (∀ σ3 : ovSt, σ3 = ov_up σ2 74 3 1 → (vp_in 1 1412 ∧ (k (σ3 75 (Int32.toNatClampNeg 1)) σ3)))))
set_option maxRecDepth 100000 in
set_option maxHeartbeats 4000000 in
theorem c_X6_keep {σ : ovSt} {k : Int32 → ovSt → Prop} (hF : F_X6_keep σ k) : ov_Ct 1 yX6_keep cX6_keep 1 (some .int) ov_S0 [.ref 74] σ (ovKi k) := by
  refine ov_Ct.of (by decide) (Nat.le_of_ble_eq_true rfl) ?_
  unfold F_X6_keep at hF
  show vv_X6_keep k 0 [(0, .ref 74)] [] σ
  refine ov_aload_n dX6_keep_0 0 rfl ?_
  refine ov_getr (T := TX6) (kf := 0) dX6_keep_1 qf_X6_9 sh_74 rfl (Nat.le_of_ble_eq_true rfl) rfl (by decide) ?_
  refine ov_aload_n dX6_keep_4 0 rfl ?_
  refine ov_getr (T := TX6) (kf := 1) dX6_keep_5 qf_X6_13 sh_74 rfl (Nat.le_of_ble_eq_true rfl) rfl (by decide) ?_
  refine ov_callS [.ref 75, .ref 76] dX6_keep_8 (c_X6_copyAll hF) (Nat.le_of_ble_eq_true rfl) (Nat.le_of_ble_eq_true rfl) lk_X6_190 (Nat.le_of_ble_eq_true rfl) (Nat.le_refl _) (Nat.le_refl _) (fun rr σ2 hF => ?_)
  obtain ⟨rfl, hF⟩ := hF
  show vv_X6_keep k 11 [(0, .ref 74)] [] σ2
  refine ov_aload_n dX6_keep_11 0 rfl ?_
  refine ov_iconst 1 (by decide) dX6_keep_12 ?_
  refine ov_putz (T := TX6) (kf := 3) rfl rfl dX6_keep_13 qf_X6_185 sh_74 rfl (Nat.le_of_ble_eq_true rfl) rfl rfl (by decide +kernel) ?_
  refine ov_nmS (fun σ3 es3 => ?_)
  have hF := hF σ3 es3
  refine ov_aload_n dX6_keep_16 0 rfl ?_
  refine ov_getr (T := TX6) (kf := 0) dX6_keep_17 qf_X6_9 sh_74 rfl (Nat.le_of_ble_eq_true rfl) rfl (by decide) ?_
  refine ov_iconst 1 (by decide) dX6_keep_20 ?_
  have h4 := hF.1
  have hF := hF.2
  refine ov_iaload dX6_keep_21 sh_75 h4 ?_
  exact ov_ireturn dX6_keep_22 (Nat.le_refl _) (Nat.le_refl _) ⟨rfl, trivial, _, rfl, hF⟩
/-! X6_back -/
abbrev vv_X6_back (k : Int32 → ovSt → Prop) (pc : Nat) (L : List (Nat × Value)) (st : List Value) (σ : ovSt) : Prop := ov_V (ovZs 1 yX6_back cX6_back 1) (ovKs (some .int) ov_S0 (ovKi k)) (0, 0) ov_S0 pc L st σ
def F_X6_back (σ : ovSt) (k : Int32 → ovSt → Prop) : Prop := (if (σ 74 3) = 0 then (k (-1000000002) σ) else (F_X6_copyAll 76 75 σ (fun σ2 => (vp_in 1 1412 ∧ (k (σ2 75 (Int32.toNatClampNeg 1)) σ2)))))
set_option maxRecDepth 100000 in
set_option maxHeartbeats 4000000 in
theorem c_X6_back {σ : ovSt} {k : Int32 → ovSt → Prop} (hF : F_X6_back σ k) : ov_Ct 1 yX6_back cX6_back 1 (some .int) ov_S0 [.ref 74] σ (ovKi k) := by
  refine ov_Ct.of (by decide) (Nat.le_of_ble_eq_true rfl) ?_
  unfold F_X6_back at hF
  show vv_X6_back k 0 [(0, .ref 74)] [] σ
  refine ov_aload_n dX6_back_0 0 rfl ?_
  refine ov_geti (T := TX6) (kf := 3) dX6_back_1 qf_X6_185 sh_74 rfl (Nat.le_of_ble_eq_true rfl) rfl ?_
  refine ov_if_ne 10 dX6_back_4 (by decide) hF (fun hF => ?_) (fun hF => ?_)
  · refine ov_aload_n dX6_back_10 0 rfl ?_
    refine ov_getr (T := TX6) (kf := 1) dX6_back_11 qf_X6_13 sh_74 rfl (Nat.le_of_ble_eq_true rfl) rfl (by decide) ?_
    refine ov_aload_n dX6_back_14 0 rfl ?_
    refine ov_getr (T := TX6) (kf := 0) dX6_back_15 qf_X6_9 sh_74 rfl (Nat.le_of_ble_eq_true rfl) rfl (by decide) ?_
    refine ov_callS [.ref 76, .ref 75] dX6_back_18 (c_X6_copyAll hF) (Nat.le_of_ble_eq_true rfl) (Nat.le_of_ble_eq_true rfl) lk_X6_190 (Nat.le_of_ble_eq_true rfl) (Nat.le_refl _) (Nat.le_refl _) (fun rr σ2 hF => ?_)
    obtain ⟨rfl, hF⟩ := hF
    show vv_X6_back k 21 [(0, .ref 74)] [] σ2
    refine ov_aload_n dX6_back_21 0 rfl ?_
    refine ov_getr (T := TX6) (kf := 0) dX6_back_22 qf_X6_9 sh_74 rfl (Nat.le_of_ble_eq_true rfl) rfl (by decide) ?_
    refine ov_iconst 1 (by decide) dX6_back_25 ?_
    have h3 := hF.1
    have hF := hF.2
    refine ov_iaload dX6_back_26 sh_75 h3 ?_
    exact ov_ireturn dX6_back_27 (Nat.le_refl _) (Nat.le_refl _) ⟨rfl, trivial, _, rfl, hF⟩
  · refine ov_ldc dX6_back_7 qc_X6_189 ?_
    exact ov_ireturn dX6_back_9 (Nat.le_refl _) (Nat.le_refl _) ⟨rfl, trivial, _, rfl, hF⟩
/-! X6_count -/
abbrev vv_X6_count (k : Int32 → ovSt → Prop) (pc : Nat) (L : List (Nat × Value)) (st : List Value) (σ : ovSt) : Prop := ov_V (ovZs 0 yX6_count cX6_count 2) (ovKs (some .int) ov_S0 (ovKi k)) (0, 0) ov_S0 pc L st σ
def F_X6_count (x1 : Int32) (σ : ovSt) (k : Int32 → ovSt → Prop) : Prop := (if x1 = 0 then (vp_in 1 1412 ∧ (k (σ 75 (Int32.toNatClampNeg 1)) σ)) else (if x1 = 1 then (vp_in 4 1412 ∧ (k (σ 75 (Int32.toNatClampNeg 4)) σ)) else (if x1 = 2 then (vp_in 2 1412 ∧ (k (σ 75 (Int32.toNatClampNeg 2)) σ)) else (if x1 = 3 then (vp_in 3 1412 ∧ (k (σ 75 (Int32.toNatClampNeg 3)) σ)) else (if x1 = 4 then (vp_in 7 1412 ∧ (k (σ 75 (Int32.toNatClampNeg 7)) σ)) else (if x1 = 5 then (k (σ 74 34) σ) else (if x1 = 6 then (k (σ 74 8) σ) else (if x1 = 7 then (vp_in 0 1412 ∧ (k (σ 75 (Int32.toNatClampNeg 0)) σ)) else (k (-1000000001) σ)))))))))
set_option maxRecDepth 100000 in
set_option maxHeartbeats 4000000 in
theorem c_X6_count {x1 : Int32} {σ : ovSt} {k : Int32 → ovSt → Prop} (hF : F_X6_count x1 σ k) : ov_Ct 0 yX6_count cX6_count 2 (some .int) ov_S0 [.ref 74, .int x1] σ (ovKi k) := by
  refine ov_Ct.of (by decide) (Nat.le_of_ble_eq_true rfl) ?_
  unfold F_X6_count at hF
  show vv_X6_count k 0 [(0, .ref 74), (1, .int x1)] [] σ
  refine ov_iload_n dX6_count_0 1 rfl ?_
  refine ov_br hF (fun z1 hF => ?_) (fun z1 hF => ?_)
  · refine ov_tin 0 47 48 dX6_count_1 z1 (by decide) (by decide) rfl (by decide) ?_
    refine ov_aload_n dX6_count_48 0 rfl ?_
    refine ov_getr (T := TX6) (kf := 0) dX6_count_49 qf_X6_9 sh_74 rfl (Nat.le_of_ble_eq_true rfl) rfl (by decide) ?_
    refine ov_iconst 1 (by decide) dX6_count_52 ?_
    have h14 := hF.1
    have hF := hF.2
    refine ov_iaload dX6_count_53 sh_75 h14 ?_
    exact ov_ireturn dX6_count_54 (Nat.le_refl _) (Nat.le_refl _) ⟨rfl, trivial, _, rfl, hF⟩
  · refine ov_br hF (fun z2 hF => ?_) (fun z2 hF => ?_)
    · refine ov_tin 1 54 55 dX6_count_1 z2 (by decide) (by decide) rfl (by decide) ?_
      refine ov_aload_n dX6_count_55 0 rfl ?_
      refine ov_getr (T := TX6) (kf := 0) dX6_count_56 qf_X6_9 sh_74 rfl (Nat.le_of_ble_eq_true rfl) rfl (by decide) ?_
      refine ov_iconst 4 (by decide) dX6_count_59 ?_
      have h13 := hF.1
      have hF := hF.2
      refine ov_iaload dX6_count_60 sh_75 h13 ?_
      exact ov_ireturn dX6_count_61 (Nat.le_refl _) (Nat.le_refl _) ⟨rfl, trivial, _, rfl, hF⟩
    · refine ov_br hF (fun z3 hF => ?_) (fun z3 hF => ?_)
      · refine ov_tin 2 61 62 dX6_count_1 z3 (by decide) (by decide) rfl (by decide) ?_
        refine ov_aload_n dX6_count_62 0 rfl ?_
        refine ov_getr (T := TX6) (kf := 0) dX6_count_63 qf_X6_9 sh_74 rfl (Nat.le_of_ble_eq_true rfl) rfl (by decide) ?_
        refine ov_iconst 2 (by decide) dX6_count_66 ?_
        have h12 := hF.1
        have hF := hF.2
        refine ov_iaload dX6_count_67 sh_75 h12 ?_
        exact ov_ireturn dX6_count_68 (Nat.le_refl _) (Nat.le_refl _) ⟨rfl, trivial, _, rfl, hF⟩
      · refine ov_br hF (fun z4 hF => ?_) (fun z4 hF => ?_)
        · refine ov_tin 3 68 69 dX6_count_1 z4 (by decide) (by decide) rfl (by decide) ?_
          refine ov_aload_n dX6_count_69 0 rfl ?_
          refine ov_getr (T := TX6) (kf := 0) dX6_count_70 qf_X6_9 sh_74 rfl (Nat.le_of_ble_eq_true rfl) rfl (by decide) ?_
          refine ov_iconst 3 (by decide) dX6_count_73 ?_
          have h11 := hF.1
          have hF := hF.2
          refine ov_iaload dX6_count_74 sh_75 h11 ?_
          exact ov_ireturn dX6_count_75 (Nat.le_refl _) (Nat.le_refl _) ⟨rfl, trivial, _, rfl, hF⟩
        · refine ov_br hF (fun z5 hF => ?_) (fun z5 hF => ?_)
          · refine ov_tin 4 75 76 dX6_count_1 z5 (by decide) (by decide) rfl (by decide) ?_
            refine ov_aload_n dX6_count_76 0 rfl ?_
            refine ov_getr (T := TX6) (kf := 0) dX6_count_77 qf_X6_9 sh_74 rfl (Nat.le_of_ble_eq_true rfl) rfl (by decide) ?_
            refine ov_bipush 7 (by decide) dX6_count_80 ?_
            have h10 := hF.1
            have hF := hF.2
            refine ov_iaload dX6_count_82 sh_75 h10 ?_
            exact ov_ireturn dX6_count_83 (Nat.le_refl _) (Nat.le_refl _) ⟨rfl, trivial, _, rfl, hF⟩
          · refine ov_br hF (fun z6 hF => ?_) (fun z6 hF => ?_)
            · refine ov_tin 5 83 84 dX6_count_1 z6 (by decide) (by decide) rfl (by decide) ?_
              refine ov_aload_n dX6_count_84 0 rfl ?_
              refine ov_geti (T := TX6) (kf := 34) dX6_count_85 qf_X6_268 sh_74 rfl (Nat.le_of_ble_eq_true rfl) rfl ?_
              exact ov_ireturn dX6_count_88 (Nat.le_refl _) (Nat.le_refl _) ⟨rfl, trivial, _, rfl, hF⟩
            · refine ov_br hF (fun z7 hF => ?_) (fun z7 hF => ?_)
              · refine ov_tin 6 88 89 dX6_count_1 z7 (by decide) (by decide) rfl (by decide) ?_
                refine ov_aload_n dX6_count_89 0 rfl ?_
                refine ov_geti (T := TX6) (kf := 8) dX6_count_90 qf_X6_194 sh_74 rfl (Nat.le_of_ble_eq_true rfl) rfl ?_
                exact ov_ireturn dX6_count_93 (Nat.le_refl _) (Nat.le_refl _) ⟨rfl, trivial, _, rfl, hF⟩
              · refine ov_br hF (fun z8 hF => ?_) (fun z8 hF => ?_)
                · refine ov_tin 7 93 94 dX6_count_1 z8 (by decide) (by decide) rfl (by decide) ?_
                  refine ov_aload_n dX6_count_94 0 rfl ?_
                  refine ov_getr (T := TX6) (kf := 0) dX6_count_95 qf_X6_9 sh_74 rfl (Nat.le_of_ble_eq_true rfl) rfl (by decide) ?_
                  refine ov_iconst 0 (by decide) dX6_count_98 ?_
                  have h9 := hF.1
                  have hF := hF.2
                  refine ov_iaload dX6_count_99 sh_75 h9 ?_
                  exact ov_ireturn dX6_count_100 (Nat.le_refl _) (Nat.le_refl _) ⟨rfl, trivial, _, rfl, hF⟩
                · refine ov_tout 101 dX6_count_1 (by have q0 := lv_neT (k := 0) (a := 0) z1 rfl; have q1 := lv_neT (k := 1) (a := 1) z2 rfl; have q2 := lv_neT (k := 2) (a := 2) z3 rfl; have q3 := lv_neT (k := 3) (a := 3) z4 rfl; have q4 := lv_neT (k := 4) (a := 4) z5 rfl; have q5 := lv_neT (k := 5) (a := 5) z6 rfl; have q6 := lv_neT (k := 6) (a := 6) z7 rfl; have q7 := lv_neT (k := 7) (a := 7) z8 rfl; omega) (by decide) ?_
                  refine ov_ldc dX6_count_101 qc_X6_90 ?_
                  exact ov_ireturn dX6_count_103 (Nat.le_refl _) (Nat.le_refl _) ⟨rfl, trivial, _, rfl, hF⟩
