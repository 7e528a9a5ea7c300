/-! X4_isWord -/
abbrev vv_X4_isWord (k : Int32 → ovSt → Prop) (pc : Nat) (L : List (Nat × Value)) (st : List Value) (σ : ovSt) : Prop := ov_V (ovZs 4 yX4_isWord cX4_isWord 3) (ovKs (some .boolean) ov_S0 (ovKi k)) (0, 0) ov_S0 pc L st σ
def F_X4_isWord_20 (w1 : Nat) (k : Int32 → ovSt → Prop) : Nat → Int32 → ovSt → Prop
  | 0 => fun _ _ => False
  | n + 1 => fun x2 σ => (F_J0_length_8abf5 w1 σ (fun v1 σ2 => (if v1 ≤ x2 then (k 1 σ2) else (vp_in ((σ2 45 4) + x2) 96 ∧ (F_J0_charAt_5068e w1 x2 σ2 (fun v4 σ5 => (if (σ2 46 (Int32.toNatClampNeg ((σ2 45 4) + x2))) = v4 then F_X4_isWord_20 w1 k n (x2 + 1) σ5 else (k 0 σ5))))))))
set_option maxRecDepth 100000 in
set_option maxHeartbeats 4000000 in
theorem V_X4_isWord_20 {k : Int32 → ovSt → Prop} {w1 : Nat} (hw1 : ov_iss w1) : ∀ (n : Nat) (x2 : Int32) (σ : ovSt), F_X4_isWord_20 w1 k n x2 σ → vv_X4_isWord k 20 [(0, .ref 45), (1, .ref w1), (2, .int x2)] [] σ := by
  intro n
  induction n with
  | zero => intro x2 σ hF; exact hF.elim
  | succ n ih =>
    intro x2 σ hF
    unfold F_X4_isWord_20 at hF
    refine ov_iload_n dX4_isWord_20 2 rfl ?_
    refine ov_aload_n dX4_isWord_21 1 rfl ?_
    refine ov_callT [] dX4_isWord_22 (w1 - 6000) (ov_issj hw1).1 (ov_issj hw1).2 rfl (c_J0_length_8abf5 hF) (Nat.le_of_ble_eq_true rfl) (Nat.le_of_ble_eq_true rfl) lk_X4_79 (Nat.le_of_ble_eq_true rfl) (Nat.le_refl _) (Nat.le_refl _) (fun rr σ2 hF => ?_)
    obtain ⟨v1, rfl, hF⟩ := hF
    show vv_X4_isWord k 25 [(0, .ref 45), (1, .ref w1), (2, .int x2)] [.int v1, .int x2] σ2
    refine ov_icmp_ge 55 dX4_isWord_25 (by decide) hF (fun hF => ?_) (fun hF => ?_)
    · refine ov_iconst 1 (by decide) dX4_isWord_55 ?_
      exact ov_ireturn dX4_isWord_56 (Nat.le_refl _) (Nat.le_refl _) ⟨rfl, ov_bl1, _, rfl, hF⟩
    · refine ov_aload_n dX4_isWord_28 0 rfl ?_
      refine ov_getr (T := TX4) (kf := 0) dX4_isWord_29 qf_X4_9 sh_45 rfl (Nat.le_of_ble_eq_true rfl) rfl (by decide) ?_
      refine ov_aload_n dX4_isWord_32 0 rfl ?_
      refine ov_geti (T := TX4) (kf := 4) dX4_isWord_33 qf_X4_26 sh_45 rfl (Nat.le_of_ble_eq_true rfl) rfl ?_
      refine ov_iload_n dX4_isWord_36 2 rfl ?_
      refine ov_iadd dX4_isWord_37 ?_
      have h3 := hF.1
      have hF := hF.2
      refine ov_baload dX4_isWord_38 sh_46 h3 ?_
      refine ov_aload_n dX4_isWord_39 1 rfl ?_
      refine ov_iload_n dX4_isWord_40 2 rfl ?_
      refine ov_callT [.int x2] dX4_isWord_41 (w1 - 6000) (ov_issj hw1).1 (ov_issj hw1).2 rfl (c_J0_charAt_5068e hF) (Nat.le_of_ble_eq_true rfl) (Nat.le_of_ble_eq_true rfl) lk_X4_84 (Nat.le_of_ble_eq_true rfl) (Nat.le_refl _) (Nat.le_refl _) (fun rr σ5 hF => ?_)
      obtain ⟨v4, rfl, hF⟩ := hF
      show vv_X4_isWord k 44 [(0, .ref 45), (1, .ref w1), (2, .int x2)] [.int v4, .int (σ2 46 (Int32.toNatClampNeg ((σ2 45 4) + x2)))] σ5
      refine ov_icmp_eq 49 dX4_isWord_44 (by decide) hF (fun hF => ?_) (fun hF => ?_)
      · refine ov_iinc dX4_isWord_49 2 rfl (x2 + 1) rfl (Nat.le_of_ble_eq_true rfl) [(2, .int (x2 + 1)), (0, .ref 45), (1, .ref w1)] rfl ?_
        refine ov_goto 20 dX4_isWord_52 (by decide) ?_
        refine ov_pick [1, 2, 0] [(0, .ref 45), (1, .ref w1), (2, .int (x2 + 1))] rfl ?_
        exact ih (x2 + 1) σ5 hF
      · refine ov_iconst 0 (by decide) dX4_isWord_47 ?_
        exact ov_ireturn dX4_isWord_48 (Nat.le_refl _) (Nat.le_refl _) ⟨rfl, ov_bl0, _, rfl, hF⟩
def F_X4_isWord (w1 : Nat) (σ : ovSt) (k : Int32 → ovSt → Prop) : Prop := (ov_iss w1 ∧ (F_J0_length_8abf5 w1 σ (fun v6 σ7 => (if ((σ 45 5) - (σ 45 4)) = v6 then (∃ n8, F_X4_isWord_20 w1 k n8 0 σ7) else (k 0 σ7)))))
set_option maxRecDepth 100000 in
set_option maxHeartbeats 4000000 in
theorem c_X4_isWord {w1 : Nat} {σ : ovSt} {k : Int32 → ovSt → Prop} (hF : F_X4_isWord w1 σ k) : ov_Ct 4 yX4_isWord cX4_isWord 3 (some .boolean) ov_S0 [.ref 45, .ref w1] σ (ovKi k) := by
  refine ov_Ct.of (by decide) (Nat.le_of_ble_eq_true rfl) ?_
  unfold F_X4_isWord at hF
  have hw1 := hF.1
  have hF := hF.2
  show vv_X4_isWord k 0 [(0, .ref 45), (1, .ref w1)] [] σ
  refine ov_aload_n dX4_isWord_0 0 rfl ?_
  refine ov_geti (T := TX4) (kf := 5) dX4_isWord_1 qf_X4_29 sh_45 rfl (Nat.le_of_ble_eq_true rfl) rfl ?_
  refine ov_aload_n dX4_isWord_4 0 rfl ?_
  refine ov_geti (T := TX4) (kf := 4) dX4_isWord_5 qf_X4_26 sh_45 rfl (Nat.le_of_ble_eq_true rfl) rfl ?_
  refine ov_isub dX4_isWord_8 ?_
  refine ov_aload_n dX4_isWord_9 1 rfl ?_
  refine ov_callT [] dX4_isWord_10 (w1 - 6000) (ov_issj hw1).1 (ov_issj hw1).2 rfl (c_J0_length_8abf5 hF) (Nat.le_of_ble_eq_true rfl) (Nat.le_of_ble_eq_true rfl) lk_X4_79 (Nat.le_of_ble_eq_true rfl) (Nat.le_refl _) (Nat.le_refl _) (fun rr σ7 hF => ?_)
  obtain ⟨v6, rfl, hF⟩ := hF
  show vv_X4_isWord k 13 [(0, .ref 45), (1, .ref w1)] [.int v6, .int ((σ 45 5) - (σ 45 4))] σ7
  refine ov_icmp_eq 18 dX4_isWord_13 (by decide) hF (fun hF => ?_) (fun hF => ?_)
  · refine ov_iconst 0 (by decide) dX4_isWord_18 ?_
    refine ov_istore_n dX4_isWord_19 (Nat.le_of_ble_eq_true rfl) [(2, .int 0), (0, .ref 45), (1, .ref w1)] rfl ?_
    refine ov_pick [1, 2, 0] [(0, .ref 45), (1, .ref w1), (2, .int 0)] rfl ?_
    obtain ⟨n8, hF⟩ := hF
    exact V_X4_isWord_20 hw1 n8 0 σ7 hF
  · refine ov_iconst 0 (by decide) dX4_isWord_16 ?_
    exact ov_ireturn dX4_isWord_17 (Nat.le_refl _) (Nat.le_refl _) ⟨rfl, ov_bl0, _, rfl, hF⟩
/-! X4_keyWord -/
abbrev vv_X4_keyWord (k : Nat → ovSt → Prop) (pc : Nat) (L : List (Nat × Value)) (st : List Value) (σ : ovSt) : Prop := ov_V (ovZs 0 yX4_keyWord cX4_keyWord 1) (ovKs (some (.object "java/lang/String")) ov_S0 (ovKr k)) (0, 0) ov_S0 pc L st σ
def F_X4_keyWord_21 (k : Nat → ovSt → Prop) (u0 : Nat) (σ : ovSt) : Prop := (k u0 σ)
set_option maxRecDepth 100000 in
set_option maxHeartbeats 4000000 in
theorem V_X4_keyWord_21 {k : Nat → ovSt → Prop} (u0 : Nat) (σ : ovSt) (hu0 : ov_iss u0) (hF : F_X4_keyWord_21 k u0 σ) : vv_X4_keyWord k 21 [] [.ref u0] σ := by
  unfold F_X4_keyWord_21 at hF
  exact ov_areturn dX4_keyWord_21 (Nat.le_refl _) (Nat.le_refl _) ⟨rfl, trivial, _, rfl, hF⟩
def F_X4_keyWord (x0 : Int32) (σ : ovSt) (k : Nat → ovSt → Prop) : Prop := (if x0 = 0 then (F_X4_keyWord_21 k 6000 σ) else (if x0 = (1 : Int32) then (F_X4_keyWord_21 k 6001 σ) else (F_X4_keyWord_21 k 6002 σ)))
set_option maxRecDepth 100000 in
set_option maxHeartbeats 4000000 in
theorem c_X4_keyWord {x0 : Int32} {σ : ovSt} {k : Nat → ovSt → Prop} (hF : F_X4_keyWord x0 σ k) : ov_Ct 0 yX4_keyWord cX4_keyWord 1 (some (.object "java/lang/String")) ov_S0 [.int x0] σ (ovKr k) := by
  refine ov_Ct.of (by decide) (Nat.le_of_ble_eq_true rfl) ?_
  unfold F_X4_keyWord at hF
  show vv_X4_keyWord k 0 [(0, .int x0)] [] σ
  refine ov_iload_n dX4_keyWord_0 0 rfl ?_
  refine ov_if_ne 9 dX4_keyWord_1 (by decide) hF (fun hF => ?_) (fun hF => ?_)
  · refine ov_iload_n dX4_keyWord_9 0 rfl ?_
    refine ov_iconst 1 (by decide) dX4_keyWord_10 ?_
    refine ov_icmp_ne 19 dX4_keyWord_11 (by decide) hF (fun hF => ?_) (fun hF => ?_)
    · refine ov_ldcS 2 (by decide) rfl rfl dX4_keyWord_19 ?_
      refine ov_pick [] [] rfl ?_
      exact V_X4_keyWord_21 6002 σ (by unfold ov_iss; decide) hF
    · refine ov_ldcS 1 (by decide) rfl rfl dX4_keyWord_14 ?_
      refine ov_goto 21 dX4_keyWord_16 (by decide) ?_
      refine ov_pick [] [] rfl ?_
      exact V_X4_keyWord_21 6001 σ (by unfold ov_iss; decide) hF
  · refine ov_ldcS 0 (by decide) rfl rfl dX4_keyWord_4 ?_
    refine ov_goto 21 dX4_keyWord_6 (by decide) ?_
    refine ov_pick [] [] rfl ?_
    exact V_X4_keyWord_21 6000 σ (by unfold ov_iss; decide) hF
/-! X4_namesOf -/
abbrev vv_X4_namesOf (k : Nat → ovSt → Prop) (pc : Nat) (L : List (Nat × Value)) (st : List Value) (σ : ovSt) : Prop := ov_V (ovZs 0 yX4_namesOf cX4_namesOf 1) (ovKs (some (.object "java/lang/String")) ov_S0 (ovKr k)) (0, 0) ov_S0 pc L st σ
def F_X4_namesOf_21 (k : Nat → ovSt → Prop) (u0 : Nat) (σ : ovSt) : Prop := (k u0 σ)
set_option maxRecDepth 100000 in
set_option maxHeartbeats 4000000 in
theorem V_X4_namesOf_21 {k : Nat → ovSt → Prop} (u0 : Nat) (σ : ovSt) (hu0 : ov_iss u0) (hF : F_X4_namesOf_21 k u0 σ) : vv_X4_namesOf k 21 [] [.ref u0] σ := by
  unfold F_X4_namesOf_21 at hF
  exact ov_areturn dX4_namesOf_21 (Nat.le_refl _) (Nat.le_refl _) ⟨rfl, trivial, _, rfl, hF⟩
def F_X4_namesOf (x0 : Int32) (σ : ovSt) (k : Nat → ovSt → Prop) : Prop := (if x0 = 0 then (F_X4_namesOf_21 k 6003 σ) else (if x0 = (1 : Int32) then (F_X4_namesOf_21 k 6004 σ) else (F_X4_namesOf_21 k 6005 σ)))
set_option maxRecDepth 100000 in
set_option maxHeartbeats 4000000 in
theorem c_X4_namesOf {x0 : Int32} {σ : ovSt} {k : Nat → ovSt → Prop} (hF : F_X4_namesOf x0 σ k) : ov_Ct 0 yX4_namesOf cX4_namesOf 1 (some (.object "java/lang/String")) ov_S0 [.int x0] σ (ovKr k) := by
  refine ov_Ct.of (by decide) (Nat.le_of_ble_eq_true rfl) ?_
  unfold F_X4_namesOf at hF
  show vv_X4_namesOf k 0 [(0, .int x0)] [] σ
  refine ov_iload_n dX4_namesOf_0 0 rfl ?_
  refine ov_if_ne 9 dX4_namesOf_1 (by decide) hF (fun hF => ?_) (fun hF => ?_)
  · refine ov_iload_n dX4_namesOf_9 0 rfl ?_
    refine ov_iconst 1 (by decide) dX4_namesOf_10 ?_
    refine ov_icmp_ne 19 dX4_namesOf_11 (by decide) hF (fun hF => ?_) (fun hF => ?_)
    · refine ov_ldcS 5 (by decide) rfl rfl dX4_namesOf_19 ?_
      refine ov_pick [] [] rfl ?_
      exact V_X4_namesOf_21 6005 σ (by unfold ov_iss; decide) hF
    · refine ov_ldcS 4 (by decide) rfl rfl dX4_namesOf_14 ?_
      refine ov_goto 21 dX4_namesOf_16 (by decide) ?_
      refine ov_pick [] [] rfl ?_
      exact V_X4_namesOf_21 6004 σ (by unfold ov_iss; decide) hF
  · refine ov_ldcS 3 (by decide) rfl rfl dX4_namesOf_4 ?_
    refine ov_goto 21 dX4_namesOf_6 (by decide) ?_
    refine ov_pick [] [] rfl ?_
    exact V_X4_namesOf_21 6003 σ (by unfold ov_iss; decide) hF
/-! X4_nameAhead -/
abbrev vv_X4_nameAhead (k : Int32 → ovSt → Prop) (pc : Nat) (L : List (Nat × Value)) (st : List Value) (σ : ovSt) : Prop := ov_V (ovZs 4 yX4_nameAhead cX4_nameAhead 1) (ovKs (some .int) ov_S0 (ovKi k)) (0, 0) ov_S0 pc L st σ
def F_X4_nameAhead_37 (k : Int32 → ovSt → Prop) (t0 : Int32) (σ : ovSt) : Prop := (k t0 σ)
set_option maxRecDepth 100000 in
set_option maxHeartbeats 4000000 in
theorem V_X4_nameAhead_37 {k : Int32 → ovSt → Prop} (t0 : Int32) (σ : ovSt) (hF : F_X4_nameAhead_37 k t0 σ) : vv_X4_nameAhead k 37 [] [.int t0] σ := by
  unfold F_X4_nameAhead_37 at hF
  exact ov_ireturn dX4_nameAhead_37 (Nat.le_refl _) (Nat.le_refl _) ⟨rfl, trivial, _, rfl, hF⟩
def F_X4_nameAhead (σ : ovSt) (k : Int32 → ovSt → Prop) : Prop := (if ((σ 45 5) - (σ 45 4)) = (1 : Int32) then (F_X4_namesOf (σ 45 6) σ (fun v1 σ2 => (ov_iss v1 ∧ (vp_in (σ2 45 4) 96 ∧ (F_J0_indexOf_0f7a4 v1 (Int32.toUInt32 (σ2 46 (Int32.toNatClampNeg (σ2 45 4))) % 65536).toInt32 σ2 (fun v4 σ5 => (F_X4_nameAhead_37 k v4 σ5))))))) else (F_X4_nameAhead_37 k (-1) σ))
set_option maxRecDepth 100000 in
set_option maxHeartbeats 4000000 in
theorem c_X4_nameAhead {σ : ovSt} {k : Int32 → ovSt → Prop} (hF : F_X4_nameAhead σ k) : ov_Ct 4 yX4_nameAhead cX4_nameAhead 1 (some .int) ov_S0 [.ref 45] σ (ovKi k) := by
  refine ov_Ct.of (by decide) (Nat.le_of_ble_eq_true rfl) ?_
  unfold F_X4_nameAhead at hF
  show vv_X4_nameAhead k 0 [(0, .ref 45)] [] σ
  refine ov_aload_n dX4_nameAhead_0 0 rfl ?_
  refine ov_geti (T := TX4) (kf := 5) dX4_nameAhead_1 qf_X4_29 sh_45 rfl (Nat.le_of_ble_eq_true rfl) rfl ?_
  refine ov_aload_n dX4_nameAhead_4 0 rfl ?_
  refine ov_geti (T := TX4) (kf := 4) dX4_nameAhead_5 qf_X4_26 sh_45 rfl (Nat.le_of_ble_eq_true rfl) rfl ?_
  refine ov_isub dX4_nameAhead_8 ?_
  refine ov_iconst 1 (by decide) dX4_nameAhead_9 ?_
  refine ov_icmp_ne 36 dX4_nameAhead_10 (by decide) hF (fun hF => ?_) (fun hF => ?_)
  · refine ov_iconst (-1) (by decide) dX4_nameAhead_36 ?_
    refine ov_pick [] [] rfl ?_
    exact V_X4_nameAhead_37 (-1) σ hF
  · refine ov_aload_n dX4_nameAhead_13 0 rfl ?_
    refine ov_geti (T := TX4) (kf := 6) dX4_nameAhead_14 qf_X4_32 sh_45 rfl (Nat.le_of_ble_eq_true rfl) rfl ?_
    refine ov_callS [.int (σ 45 6)] dX4_nameAhead_17 (c_X4_namesOf hF) (Nat.le_of_ble_eq_true rfl) (Nat.le_of_ble_eq_true rfl) lk_X4_124 (Nat.le_of_ble_eq_true rfl) (Nat.le_refl _) (Nat.le_refl _) (fun rr σ2 hF => ?_)
    obtain ⟨v1, rfl, hF⟩ := hF
    show vv_X4_nameAhead k 20 [(0, .ref 45)] [.ref v1] σ2
    have hv1 := hF.1
    have hF := hF.2
    refine ov_aload_n dX4_nameAhead_20 0 rfl ?_
    refine ov_getr (T := TX4) (kf := 0) dX4_nameAhead_21 qf_X4_9 sh_45 rfl (Nat.le_of_ble_eq_true rfl) rfl (by decide) ?_
    refine ov_aload_n dX4_nameAhead_24 0 rfl ?_
    refine ov_geti (T := TX4) (kf := 4) dX4_nameAhead_25 qf_X4_26 sh_45 rfl (Nat.le_of_ble_eq_true rfl) rfl ?_
    have h3 := hF.1
    have hF := hF.2
    refine ov_baload dX4_nameAhead_28 sh_46 h3 ?_
    refine ov_i2c dX4_nameAhead_29 ?_
    refine ov_callT [.int (Int32.toUInt32 (σ2 46 (Int32.toNatClampNeg (σ2 45 4))) % 65536).toInt32] dX4_nameAhead_30 (v1 - 6000) (ov_issj hv1).1 (ov_issj hv1).2 rfl (c_J0_indexOf_0f7a4 hF) (Nat.le_of_ble_eq_true rfl) (Nat.le_of_ble_eq_true rfl) lk_X4_127 (Nat.le_of_ble_eq_true rfl) (Nat.le_refl _) (Nat.le_refl _) (fun rr σ5 hF => ?_)
    obtain ⟨v4, rfl, hF⟩ := hF
    show vv_X4_nameAhead k 33 [(0, .ref 45)] [.int v4] σ5
    refine ov_goto 37 dX4_nameAhead_33 (by decide) ?_
    refine ov_pick [] [] rfl ?_
    exact V_X4_nameAhead_37 v4 σ5 hF
/-! X4_readKey -/
abbrev vv_X4_readKey (k : Int32 → ovSt → Prop) (pc : Nat) (L : List (Nat × Value)) (st : List Value) (σ : ovSt) : Prop := ov_V (ovZs 5 yX4_readKey cX4_readKey 2) (ovKs (some .boolean) ov_S0 (ovKi k)) (0, 0) ov_S0 pc L st σ
def F_X4_readKey_34 (R2 : Int32 → ovSt → Prop) (k : Int32 → ovSt → Prop) (x1 : Int32) (σ : ovSt) : Prop := R2 (x1 + 1) σ
set_option maxRecDepth 100000 in
set_option maxHeartbeats 4000000 in
theorem V_X4_readKey_34 {k : Int32 → ovSt → Prop} {R2 : Int32 → ovSt → Prop} (hR2 : ∀ (x1 : Int32) (σ : ovSt), R2 x1 σ → vv_X4_readKey k 2 [(0, .ref 45), (1, .int x1)] [] σ) (x1 : Int32) (σ : ovSt) (hF : F_X4_readKey_34 R2 k x1 σ) : vv_X4_readKey k 34 [(0, .ref 45), (1, .int x1)] [] σ := by
  unfold F_X4_readKey_34 at hF
  refine ov_iinc dX4_readKey_34 1 rfl (x1 + 1) rfl (Nat.le_of_ble_eq_true rfl) [(1, .int (x1 + 1)), (0, .ref 45)] rfl ?_
  refine ov_goto 2 dX4_readKey_37 (by decide) ?_
  refine ov_pick [1, 0] [(0, .ref 45), (1, .int (x1 + 1))] rfl ?_
  exact hR2 (x1 + 1) σ hF
def F_X4_readKey_2 (k : Int32 → ovSt → Prop) : Nat → Int32 → ovSt → Prop
  | 0 => fun _ _ => False
  | n + 1 => fun x1 σ => (if (3 : Int32) ≤ x1 then (k 0 σ) else (if (σ 45 3) = ((-2) : Int32) then (F_X4_keyWord x1 σ (fun v1 σ2 => (ov_iss v1 ∧ (F_X4_isWord v1 σ2 (fun v3 σ4 => (if v3 = 0 then (F_X4_readKey_34 (F_X4_readKey_2 k n) k x1 σ4) else (∀ σ5 : ovSt, σ5 = ov_up σ4 45 6 x1 → (k 1 σ5)))))))) else (F_X4_readKey_34 (F_X4_readKey_2 k n) k x1 σ)))
set_option maxRecDepth 100000 in
set_option maxHeartbeats 4000000 in
theorem V_X4_readKey_2 {k : Int32 → ovSt → Prop} : ∀ (n : Nat) (x1 : Int32) (σ : ovSt), F_X4_readKey_2 k n x1 σ → vv_X4_readKey k 2 [(0, .ref 45), (1, .int x1)] [] σ := by
  intro n
  induction n with
  | zero => intro x1 σ hF; exact hF.elim
  | succ n ih =>
    intro x1 σ hF
    unfold F_X4_readKey_2 at hF
    refine ov_iload_n dX4_readKey_2 1 rfl ?_
    refine ov_iconst 3 (by decide) dX4_readKey_3 ?_
    refine ov_icmp_ge 40 dX4_readKey_4 (by decide) hF (fun hF => ?_) (fun hF => ?_)
    · refine ov_iconst 0 (by decide) dX4_readKey_40 ?_
      exact ov_ireturn dX4_readKey_41 (Nat.le_refl _) (Nat.le_refl _) ⟨rfl, ov_bl0, _, rfl, hF⟩
    · refine ov_aload_n dX4_readKey_7 0 rfl ?_
      refine ov_geti (T := TX4) (kf := 3) dX4_readKey_8 qf_X4_23 sh_45 rfl (Nat.le_of_ble_eq_true rfl) rfl ?_
      refine ov_bipush (-2) (by decide) dX4_readKey_11 ?_
      refine ov_icmp_ne 34 dX4_readKey_13 (by decide) hF (fun hF => ?_) (fun hF => ?_)
      · exact V_X4_readKey_34 ih x1 σ hF
      · refine ov_aload_n dX4_readKey_16 0 rfl ?_
        refine ov_iload_n dX4_readKey_17 1 rfl ?_
        refine ov_callS [.int x1] dX4_readKey_18 (c_X4_keyWord hF) (Nat.le_of_ble_eq_true rfl) (Nat.le_of_ble_eq_true rfl) lk_X4_59 (Nat.le_of_ble_eq_true rfl) (Nat.le_refl _) (Nat.le_refl _) (fun rr σ2 hF => ?_)
        obtain ⟨v1, rfl, hF⟩ := hF
        show vv_X4_readKey k 21 [(0, .ref 45), (1, .int x1)] [.ref v1, .ref 45] σ2
        have hv1 := hF.1
        have hF := hF.2
        refine ov_callV [.ref v1] dX4_readKey_21 (c_X4_isWord hF) (Nat.le_of_ble_eq_true rfl) (Nat.le_of_ble_eq_true rfl) lk_X4_63 sh_45 rfl (Nat.le_of_ble_eq_true rfl) (Nat.le_refl _) (Nat.le_refl _) (fun rr σ4 hF => ?_)
        obtain ⟨v3, rfl, hF⟩ := hF
        show vv_X4_readKey k 24 [(0, .ref 45), (1, .int x1)] [.int v3] σ4
        refine ov_if_eq 34 dX4_readKey_24 (by decide) hF (fun hF => ?_) (fun hF => ?_)
        · exact V_X4_readKey_34 ih x1 σ4 hF
        · refine ov_aload_n dX4_readKey_27 0 rfl ?_
          refine ov_iload_n dX4_readKey_28 1 rfl ?_
          refine ov_puti (T := TX4) (kf := 6) dX4_readKey_29 qf_X4_32 sh_45 rfl (Nat.le_of_ble_eq_true rfl) rfl rfl (by decide +kernel) ?_
          refine ov_nmS (fun σ5 es5 => ?_)
          have hF := hF σ5 es5
          refine ov_iconst 1 (by decide) dX4_readKey_32 ?_
          exact ov_ireturn dX4_readKey_33 (Nat.le_refl _) (Nat.le_refl _) ⟨rfl, ov_bl1, _, rfl, hF⟩
def F_X4_readKey (σ : ovSt) (k : Int32 → ovSt → Prop) : Prop := (∃ n6, F_X4_readKey_2 k n6 0 σ)
set_option maxRecDepth 100000 in
set_option maxHeartbeats 4000000 in
theorem c_X4_readKey {σ : ovSt} {k : Int32 → ovSt → Prop} (hF : F_X4_readKey σ k) : ov_Ct 5 yX4_readKey cX4_readKey 2 (some .boolean) ov_S0 [.ref 45] σ (ovKi k) := by
  refine ov_Ct.of (by decide) (Nat.le_of_ble_eq_true rfl) ?_
  unfold F_X4_readKey at hF
  show vv_X4_readKey k 0 [(0, .ref 45)] [] σ
  refine ov_iconst 0 (by decide) dX4_readKey_0 ?_
  refine ov_istore_n dX4_readKey_1 (Nat.le_of_ble_eq_true rfl) [(1, .int 0), (0, .ref 45)] rfl ?_
  refine ov_pick [1, 0] [(0, .ref 45), (1, .int 0)] rfl ?_
  obtain ⟨n6, hF⟩ := hF
  exact V_X4_readKey_2 n6 0 σ hF
