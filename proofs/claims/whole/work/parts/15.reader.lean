/-! X4_readOr -/
abbrev vv_X4_readOr (d : Nat) (k : Int32 → ovSt → Prop) (pc : Nat) (L : List (Nat × Value)) (st : List Value) (σ : ovSt) : Prop := ov_V (ovZs (d + 11) yX4_readOr cX4_readOr 5) (ovKs (some .boolean) ov_S0 (ovKi k)) (0, 0) ov_S0 pc L st σ
def F_X4_readOr_53 (G_X4_readAnd : Int32 → Int32 → ovSt → (Int32 → ovSt → Prop) → Prop) (k : Int32 → ovSt → Prop) (x3 : Int32) (σ : ovSt) : Prop := (ov_bl x3 ∧ (k x3 σ))
set_option maxRecDepth 100000 in
set_option maxHeartbeats 4000000 in
theorem V_X4_readOr_53 {k : Int32 → ovSt → Prop} {d : Nat} {G_X4_readAnd : Int32 → Int32 → ovSt → (Int32 → ovSt → Prop) → Prop} (hG_X4_readAnd : ∀ (y1 y2 : Int32) (σ : ovSt) (k : Int32 → ovSt → Prop), G_X4_readAnd y1 y2 σ k → ov_Ct (d + 10) yX4_readAnd cX4_readAnd 5 (some .boolean) ov_S0 [.ref 45, .int y1, .int y2] σ (ovKi k)) (x3 : Int32) (σ : ovSt) (hF : F_X4_readOr_53 G_X4_readAnd k x3 σ) : vv_X4_readOr d k 53 [(3, .int x3)] [] σ := by
  unfold F_X4_readOr_53 at hF
  refine ov_iload_n dX4_readOr_53 0 rfl ?_
  have h1 := hF.1
  have hF := hF.2
  exact ov_ireturn dX4_readOr_54 (Nat.le_refl _) (Nat.le_refl _) ⟨rfl, h1, _, rfl, hF⟩
def F_X4_readOr_10 (G_X4_readAnd : Int32 → Int32 → ovSt → (Int32 → ovSt → Prop) → Prop) (k : Int32 → ovSt → Prop) : Nat → Int32 → Int32 → Int32 → Int32 → ovSt → Prop
  | 0 => fun _ _ _ _ _ => False
  | n + 1 => fun x1 x2 x3 x4 σ => (if (96 : Int32) ≤ x4 then (F_X4_readOr_53 G_X4_readAnd k x3 σ) else (if x3 = 0 then (F_X4_readOr_53 G_X4_readAnd k x3 σ) else (if (σ 45 3) = (124 : Int32) then (F_X4_next σ (fun σ3 => (G_X4_readAnd x1 x2 σ3 (fun v4 σ5 => (F_X4_emit (-124) σ5 (fun σ7 => F_X4_readOr_10 G_X4_readAnd k n x1 x2 v4 (x4 + 1) σ7)))))) else (F_X4_readOr_53 G_X4_readAnd k x3 σ))))
set_option maxRecDepth 100000 in
set_option maxHeartbeats 4000000 in
theorem V_X4_readOr_10 {k : Int32 → ovSt → Prop} {d : Nat} {G_X4_readAnd : Int32 → Int32 → ovSt → (Int32 → ovSt → Prop) → Prop} (hG_X4_readAnd : ∀ (y1 y2 : Int32) (σ : ovSt) (k : Int32 → ovSt → Prop), G_X4_readAnd y1 y2 σ k → ov_Ct (d + 10) yX4_readAnd cX4_readAnd 5 (some .boolean) ov_S0 [.ref 45, .int y1, .int y2] σ (ovKi k)) : ∀ (n : Nat) (x1 : Int32) (x2 : Int32) (x3 : Int32) (x4 : Int32) (σ : ovSt), F_X4_readOr_10 G_X4_readAnd k n x1 x2 x3 x4 σ → vv_X4_readOr d k 10 [(0, .ref 45), (1, .int x1), (2, .int x2), (3, .int x3), (4, .int x4)] [] σ := by
  intro n
  induction n with
  | zero => intro x1 x2 x3 x4 σ hF; exact hF.elim
  | succ n ih =>
    intro x1 x2 x3 x4 σ hF
    unfold F_X4_readOr_10 at hF
    refine ov_iload dX4_readOr_10 4 rfl ?_
    refine ov_bipush 96 (by decide) dX4_readOr_12 ?_
    refine ov_icmp_ge 53 dX4_readOr_14 (by decide) hF (fun hF => ?_) (fun hF => ?_)
    · refine ov_pick [3] [(3, .int x3)] rfl ?_
      exact V_X4_readOr_53 hG_X4_readAnd x3 σ hF
    · refine ov_iload_n dX4_readOr_17 3 rfl ?_
      refine ov_if_eq 53 dX4_readOr_18 (by decide) hF (fun hF => ?_) (fun hF => ?_)
      · refine ov_pick [3] [(3, .int x3)] rfl ?_
        exact V_X4_readOr_53 hG_X4_readAnd x3 σ hF
      · refine ov_aload_n dX4_readOr_21 0 rfl ?_
        refine ov_geti (T := TX4) (kf := 3) dX4_readOr_22 qf_X4_23 sh_45 rfl (Nat.le_of_ble_eq_true rfl) rfl ?_
        refine ov_bipush 124 (by decide) dX4_readOr_25 ?_
        refine ov_icmp_ne 53 dX4_readOr_27 (by decide) hF (fun hF => ?_) (fun hF => ?_)
        · refine ov_pick [3] [(3, .int x3)] rfl ?_
          exact V_X4_readOr_53 hG_X4_readAnd x3 σ hF
        · refine ov_aload_n dX4_readOr_30 0 rfl ?_
          refine ov_callV [] dX4_readOr_31 (c_X4_next hF) (show 1 + 1 ≤ d + 11 by omega) (Nat.le_of_ble_eq_true rfl) lk_X4_41 sh_45 rfl (Nat.le_of_ble_eq_true rfl) (Nat.le_refl _) (Nat.le_refl _) (fun rr σ3 hF => ?_)
          obtain ⟨rfl, hF⟩ := hF
          show vv_X4_readOr d k 34 [(0, .ref 45), (1, .int x1), (2, .int x2), (3, .int x3), (4, .int x4)] [] σ3
          refine ov_aload_n dX4_readOr_34 0 rfl ?_
          refine ov_iload_n dX4_readOr_35 1 rfl ?_
          refine ov_iload_n dX4_readOr_36 2 rfl ?_
          refine ov_callV [.int x1, .int x2] dX4_readOr_37 (hG_X4_readAnd _ _ _ _ hF) (Nat.le_refl _) (Nat.le_of_ble_eq_true rfl) lk_X4_88 sh_45 rfl (Nat.le_of_ble_eq_true rfl) (Nat.le_refl _) (Nat.le_refl _) (fun rr σ5 hF => ?_)
          obtain ⟨v4, rfl, hF⟩ := hF
          show vv_X4_readOr d k 40 [(0, .ref 45), (1, .int x1), (2, .int x2), (3, .int x3), (4, .int x4)] [.int v4] σ5
          refine ov_istore_n dX4_readOr_40 (Nat.le_of_ble_eq_true rfl) [(3, .int v4), (0, .ref 45), (1, .int x1), (2, .int x2), (4, .int x4)] rfl ?_
          refine ov_aload_n dX4_readOr_41 1 rfl ?_
          refine ov_bipush (-124) (by decide) dX4_readOr_42 ?_
          refine ov_callV [.int (-124)] dX4_readOr_44 (c_X4_emit hF) (show 0 + 1 ≤ d + 11 by omega) (Nat.le_of_ble_eq_true rfl) lk_X4_91 sh_45 rfl (Nat.le_of_ble_eq_true rfl) (Nat.le_refl _) (Nat.le_refl _) (fun rr σ7 hF => ?_)
          obtain ⟨rfl, hF⟩ := hF
          show vv_X4_readOr d k 47 [(3, .int v4), (0, .ref 45), (1, .int x1), (2, .int x2), (4, .int x4)] [] σ7
          refine ov_iinc dX4_readOr_47 4 rfl (x4 + 1) rfl (Nat.le_of_ble_eq_true rfl) [(4, .int (x4 + 1)), (3, .int v4), (0, .ref 45), (1, .int x1), (2, .int x2)] rfl ?_
          refine ov_goto 10 dX4_readOr_50 (by decide) ?_
          refine ov_pick [2, 3, 4, 1, 0] [(0, .ref 45), (1, .int x1), (2, .int x2), (3, .int v4), (4, .int (x4 + 1))] rfl ?_
          exact ih x1 x2 v4 (x4 + 1) σ7 hF
def F_X4_readOr (G_X4_readAnd : Int32 → Int32 → ovSt → (Int32 → ovSt → Prop) → Prop) (x1 : Int32) (x2 : Int32) (σ : ovSt) (k : Int32 → ovSt → Prop) : Prop := (G_X4_readAnd x1 x2 σ (fun v8 σ9 => (∃ n10, F_X4_readOr_10 G_X4_readAnd k n10 x1 x2 v8 0 σ9)))
set_option maxRecDepth 100000 in
set_option maxHeartbeats 4000000 in
theorem c_X4_readOr {d : Nat} {G_X4_readAnd : Int32 → Int32 → ovSt → (Int32 → ovSt → Prop) → Prop} {x1 : Int32} {x2 : Int32} (hG_X4_readAnd : ∀ (y1 y2 : Int32) (σ : ovSt) (k : Int32 → ovSt → Prop), G_X4_readAnd y1 y2 σ k → ov_Ct (d + 10) yX4_readAnd cX4_readAnd 5 (some .boolean) ov_S0 [.ref 45, .int y1, .int y2] σ (ovKi k)) {σ : ovSt} {k : Int32 → ovSt → Prop} (hF : F_X4_readOr G_X4_readAnd x1 x2 σ k) : ov_Ct (d + 11) yX4_readOr cX4_readOr 5 (some .boolean) ov_S0 [.ref 45, .int x1, .int x2] σ (ovKi k) := by
  refine ov_Ct.of (by decide) (Nat.le_of_ble_eq_true rfl) ?_
  unfold F_X4_readOr at hF
  show vv_X4_readOr d k 0 [(0, .ref 45), (1, .int x1), (2, .int x2)] [] σ
  refine ov_aload_n dX4_readOr_0 0 rfl ?_
  refine ov_iload_n dX4_readOr_1 1 rfl ?_
  refine ov_iload_n dX4_readOr_2 2 rfl ?_
  refine ov_callV [.int x1, .int x2] dX4_readOr_3 (hG_X4_readAnd _ _ _ _ hF) (Nat.le_refl _) (Nat.le_of_ble_eq_true rfl) lk_X4_88 sh_45 rfl (Nat.le_of_ble_eq_true rfl) (Nat.le_refl _) (Nat.le_refl _) (fun rr σ9 hF => ?_)
  obtain ⟨v8, rfl, hF⟩ := hF
  show vv_X4_readOr d k 6 [(0, .ref 45), (1, .int x1), (2, .int x2)] [.int v8] σ9
  refine ov_istore_n dX4_readOr_6 (Nat.le_of_ble_eq_true rfl) [(3, .int v8), (0, .ref 45), (1, .int x1), (2, .int x2)] rfl ?_
  refine ov_iconst 0 (by decide) dX4_readOr_7 ?_
  refine ov_istore dX4_readOr_8 (Nat.le_of_ble_eq_true rfl) [(4, .int 0), (3, .int v8), (0, .ref 45), (1, .int x1), (2, .int x2)] rfl ?_
  refine ov_pick [2, 3, 4, 1, 0] [(0, .ref 45), (1, .int x1), (2, .int x2), (3, .int v8), (4, .int 0)] rfl ?_
  obtain ⟨n10, hF⟩ := hF
  exact V_X4_readOr_10 hG_X4_readAnd n10 x1 x2 v8 0 σ9 hF
/-! X4_readAnd -/
abbrev vv_X4_readAnd (d : Nat) (k : Int32 → ovSt → Prop) (pc : Nat) (L : List (Nat × Value)) (st : List Value) (σ : ovSt) : Prop := ov_V (ovZs (d + 11) yX4_readAnd cX4_readAnd 5) (ovKs (some .boolean) ov_S0 (ovKi k)) (0, 0) ov_S0 pc L st σ
def F_X4_readAnd_53 (G_X4_readTest : Int32 → Int32 → ovSt → (Int32 → ovSt → Prop) → Prop) (k : Int32 → ovSt → Prop) (x3 : Int32) (σ : ovSt) : Prop := (ov_bl x3 ∧ (k x3 σ))
set_option maxRecDepth 100000 in
set_option maxHeartbeats 4000000 in
theorem V_X4_readAnd_53 {k : Int32 → ovSt → Prop} {d : Nat} {G_X4_readTest : Int32 → Int32 → ovSt → (Int32 → ovSt → Prop) → Prop} (hG_X4_readTest : ∀ (y1 y2 : Int32) (σ : ovSt) (k : Int32 → ovSt → Prop), G_X4_readTest y1 y2 σ k → ov_Ct (d + 10) yX4_readTest cX4_readTest 5 (some .boolean) ov_S0 [.ref 45, .int y1, .int y2] σ (ovKi k)) (x3 : Int32) (σ : ovSt) (hF : F_X4_readAnd_53 G_X4_readTest k x3 σ) : vv_X4_readAnd d k 53 [(3, .int x3)] [] σ := by
  unfold F_X4_readAnd_53 at hF
  refine ov_iload_n dX4_readAnd_53 0 rfl ?_
  have h1 := hF.1
  have hF := hF.2
  exact ov_ireturn dX4_readAnd_54 (Nat.le_refl _) (Nat.le_refl _) ⟨rfl, h1, _, rfl, hF⟩
def F_X4_readAnd_10 (G_X4_readTest : Int32 → Int32 → ovSt → (Int32 → ovSt → Prop) → Prop) (k : Int32 → ovSt → Prop) : Nat → Int32 → Int32 → Int32 → Int32 → ovSt → Prop
  | 0 => fun _ _ _ _ _ => False
  | n + 1 => fun x1 x2 x3 x4 σ => (if (96 : Int32) ≤ x4 then (F_X4_readAnd_53 G_X4_readTest k x3 σ) else (if x3 = 0 then (F_X4_readAnd_53 G_X4_readTest k x3 σ) else (if (σ 45 3) = (38 : Int32) then (F_X4_next σ (fun σ3 => (G_X4_readTest x1 x2 σ3 (fun v4 σ5 => (F_X4_emit (-38) σ5 (fun σ7 => F_X4_readAnd_10 G_X4_readTest k n x1 x2 v4 (x4 + 1) σ7)))))) else (F_X4_readAnd_53 G_X4_readTest k x3 σ))))
set_option maxRecDepth 100000 in
set_option maxHeartbeats 4000000 in
theorem V_X4_readAnd_10 {k : Int32 → ovSt → Prop} {d : Nat} {G_X4_readTest : Int32 → Int32 → ovSt → (Int32 → ovSt → Prop) → Prop} (hG_X4_readTest : ∀ (y1 y2 : Int32) (σ : ovSt) (k : Int32 → ovSt → Prop), G_X4_readTest y1 y2 σ k → ov_Ct (d + 10) yX4_readTest cX4_readTest 5 (some .boolean) ov_S0 [.ref 45, .int y1, .int y2] σ (ovKi k)) : ∀ (n : Nat) (x1 : Int32) (x2 : Int32) (x3 : Int32) (x4 : Int32) (σ : ovSt), F_X4_readAnd_10 G_X4_readTest k n x1 x2 x3 x4 σ → vv_X4_readAnd d k 10 [(0, .ref 45), (1, .int x1), (2, .int x2), (3, .int x3), (4, .int x4)] [] σ := by
  intro n
  induction n with
  | zero => intro x1 x2 x3 x4 σ hF; exact hF.elim
  | succ n ih =>
    intro x1 x2 x3 x4 σ hF
    unfold F_X4_readAnd_10 at hF
    refine ov_iload dX4_readAnd_10 4 rfl ?_
    refine ov_bipush 96 (by decide) dX4_readAnd_12 ?_
    refine ov_icmp_ge 53 dX4_readAnd_14 (by decide) hF (fun hF => ?_) (fun hF => ?_)
    · refine ov_pick [3] [(3, .int x3)] rfl ?_
      exact V_X4_readAnd_53 hG_X4_readTest x3 σ hF
    · refine ov_iload_n dX4_readAnd_17 3 rfl ?_
      refine ov_if_eq 53 dX4_readAnd_18 (by decide) hF (fun hF => ?_) (fun hF => ?_)
      · refine ov_pick [3] [(3, .int x3)] rfl ?_
        exact V_X4_readAnd_53 hG_X4_readTest x3 σ hF
      · refine ov_aload_n dX4_readAnd_21 0 rfl ?_
        refine ov_geti (T := TX4) (kf := 3) dX4_readAnd_22 qf_X4_23 sh_45 rfl (Nat.le_of_ble_eq_true rfl) rfl ?_
        refine ov_bipush 38 (by decide) dX4_readAnd_25 ?_
        refine ov_icmp_ne 53 dX4_readAnd_27 (by decide) hF (fun hF => ?_) (fun hF => ?_)
        · refine ov_pick [3] [(3, .int x3)] rfl ?_
          exact V_X4_readAnd_53 hG_X4_readTest x3 σ hF
        · refine ov_aload_n dX4_readAnd_30 0 rfl ?_
          refine ov_callV [] dX4_readAnd_31 (c_X4_next hF) (show 1 + 1 ≤ d + 11 by omega) (Nat.le_of_ble_eq_true rfl) lk_X4_41 sh_45 rfl (Nat.le_of_ble_eq_true rfl) (Nat.le_refl _) (Nat.le_refl _) (fun rr σ3 hF => ?_)
          obtain ⟨rfl, hF⟩ := hF
          show vv_X4_readAnd d k 34 [(0, .ref 45), (1, .int x1), (2, .int x2), (3, .int x3), (4, .int x4)] [] σ3
          refine ov_aload_n dX4_readAnd_34 0 rfl ?_
          refine ov_iload_n dX4_readAnd_35 1 rfl ?_
          refine ov_iload_n dX4_readAnd_36 2 rfl ?_
          refine ov_callV [.int x1, .int x2] dX4_readAnd_37 (hG_X4_readTest _ _ _ _ hF) (Nat.le_refl _) (Nat.le_of_ble_eq_true rfl) lk_X4_95 sh_45 rfl (Nat.le_of_ble_eq_true rfl) (Nat.le_refl _) (Nat.le_refl _) (fun rr σ5 hF => ?_)
          obtain ⟨v4, rfl, hF⟩ := hF
          show vv_X4_readAnd d k 40 [(0, .ref 45), (1, .int x1), (2, .int x2), (3, .int x3), (4, .int x4)] [.int v4] σ5
          refine ov_istore_n dX4_readAnd_40 (Nat.le_of_ble_eq_true rfl) [(3, .int v4), (0, .ref 45), (1, .int x1), (2, .int x2), (4, .int x4)] rfl ?_
          refine ov_aload_n dX4_readAnd_41 1 rfl ?_
          refine ov_bipush (-38) (by decide) dX4_readAnd_42 ?_
          refine ov_callV [.int (-38)] dX4_readAnd_44 (c_X4_emit hF) (show 0 + 1 ≤ d + 11 by omega) (Nat.le_of_ble_eq_true rfl) lk_X4_91 sh_45 rfl (Nat.le_of_ble_eq_true rfl) (Nat.le_refl _) (Nat.le_refl _) (fun rr σ7 hF => ?_)
          obtain ⟨rfl, hF⟩ := hF
          show vv_X4_readAnd d k 47 [(3, .int v4), (0, .ref 45), (1, .int x1), (2, .int x2), (4, .int x4)] [] σ7
          refine ov_iinc dX4_readAnd_47 4 rfl (x4 + 1) rfl (Nat.le_of_ble_eq_true rfl) [(4, .int (x4 + 1)), (3, .int v4), (0, .ref 45), (1, .int x1), (2, .int x2)] rfl ?_
          refine ov_goto 10 dX4_readAnd_50 (by decide) ?_
          refine ov_pick [2, 3, 4, 1, 0] [(0, .ref 45), (1, .int x1), (2, .int x2), (3, .int v4), (4, .int (x4 + 1))] rfl ?_
          exact ih x1 x2 v4 (x4 + 1) σ7 hF
def F_X4_readAnd (G_X4_readTest : Int32 → Int32 → ovSt → (Int32 → ovSt → Prop) → Prop) (x1 : Int32) (x2 : Int32) (σ : ovSt) (k : Int32 → ovSt → Prop) : Prop := (G_X4_readTest x1 x2 σ (fun v8 σ9 => (∃ n10, F_X4_readAnd_10 G_X4_readTest k n10 x1 x2 v8 0 σ9)))
set_option maxRecDepth 100000 in
set_option maxHeartbeats 4000000 in
theorem c_X4_readAnd {d : Nat} {G_X4_readTest : Int32 → Int32 → ovSt → (Int32 → ovSt → Prop) → Prop} {x1 : Int32} {x2 : Int32} (hG_X4_readTest : ∀ (y1 y2 : Int32) (σ : ovSt) (k : Int32 → ovSt → Prop), G_X4_readTest y1 y2 σ k → ov_Ct (d + 10) yX4_readTest cX4_readTest 5 (some .boolean) ov_S0 [.ref 45, .int y1, .int y2] σ (ovKi k)) {σ : ovSt} {k : Int32 → ovSt → Prop} (hF : F_X4_readAnd G_X4_readTest x1 x2 σ k) : ov_Ct (d + 11) yX4_readAnd cX4_readAnd 5 (some .boolean) ov_S0 [.ref 45, .int x1, .int x2] σ (ovKi k) := by
  refine ov_Ct.of (by decide) (Nat.le_of_ble_eq_true rfl) ?_
  unfold F_X4_readAnd at hF
  show vv_X4_readAnd d k 0 [(0, .ref 45), (1, .int x1), (2, .int x2)] [] σ
  refine ov_aload_n dX4_readAnd_0 0 rfl ?_
  refine ov_iload_n dX4_readAnd_1 1 rfl ?_
  refine ov_iload_n dX4_readAnd_2 2 rfl ?_
  refine ov_callV [.int x1, .int x2] dX4_readAnd_3 (hG_X4_readTest _ _ _ _ hF) (Nat.le_refl _) (Nat.le_of_ble_eq_true rfl) lk_X4_95 sh_45 rfl (Nat.le_of_ble_eq_true rfl) (Nat.le_refl _) (Nat.le_refl _) (fun rr σ9 hF => ?_)
  obtain ⟨v8, rfl, hF⟩ := hF
  show vv_X4_readAnd d k 6 [(0, .ref 45), (1, .int x1), (2, .int x2)] [.int v8] σ9
  refine ov_istore_n dX4_readAnd_6 (Nat.le_of_ble_eq_true rfl) [(3, .int v8), (0, .ref 45), (1, .int x1), (2, .int x2)] rfl ?_
  refine ov_iconst 0 (by decide) dX4_readAnd_7 ?_
  refine ov_istore dX4_readAnd_8 (Nat.le_of_ble_eq_true rfl) [(4, .int 0), (3, .int v8), (0, .ref 45), (1, .int x1), (2, .int x2)] rfl ?_
  refine ov_pick [2, 3, 4, 1, 0] [(0, .ref 45), (1, .int x1), (2, .int x2), (3, .int v8), (4, .int 0)] rfl ?_
  obtain ⟨n10, hF⟩ := hF
  exact V_X4_readAnd_10 hG_X4_readTest n10 x1 x2 v8 0 σ9 hF
/-! X4_readTest -/
abbrev vv_X4_readTest (d : Nat) (k : Int32 → ovSt → Prop) (pc : Nat) (L : List (Nat × Value)) (st : List Value) (σ : ovSt) : Prop := ov_V (ovZs (d + 11) yX4_readTest cX4_readTest 5) (ovKs (some .boolean) ov_S0 (ovKi k)) (0, 0) ov_S0 pc L st σ
def F_X4_readTest_36 (G_X4_readSum : Int32 → Int32 → ovSt → (Int32 → ovSt → Prop) → Prop) (k : Int32 → ovSt → Prop) (x1 : Int32) (x2 : Int32) (x3 : Int32) (σ : ovSt) : Prop := (F_X4_next σ (fun σ2 => (G_X4_readSum x1 x2 σ2 (fun v3 σ4 => (F_X4_emit (-x3) σ4 (fun σ6 => (ov_bl v3 ∧ (k v3 σ6))))))))
set_option maxRecDepth 100000 in
set_option maxHeartbeats 4000000 in
theorem V_X4_readTest_36 {k : Int32 → ovSt → Prop} {d : Nat} {G_X4_readSum : Int32 → Int32 → ovSt → (Int32 → ovSt → Prop) → Prop} (hG_X4_readSum : ∀ (y1 y2 : Int32) (σ : ovSt) (k : Int32 → ovSt → Prop), G_X4_readSum y1 y2 σ k → ov_Ct (d + 10) yX4_readSum cX4_readSum 6 (some .boolean) ov_S0 [.ref 45, .int y1, .int y2] σ (ovKi k)) (x1 : Int32) (x2 : Int32) (x3 : Int32) (σ : ovSt) (hF : F_X4_readTest_36 G_X4_readSum k x1 x2 x3 σ) : vv_X4_readTest d k 36 [(0, .ref 45), (1, .int x1), (2, .int x2), (3, .int x3)] [] σ := by
  unfold F_X4_readTest_36 at hF
  refine ov_aload_n dX4_readTest_36 0 rfl ?_
  refine ov_callV [] dX4_readTest_37 (c_X4_next hF) (show 1 + 1 ≤ d + 11 by omega) (Nat.le_of_ble_eq_true rfl) lk_X4_41 sh_45 rfl (Nat.le_of_ble_eq_true rfl) (Nat.le_refl _) (Nat.le_refl _) (fun rr σ2 hF => ?_)
  obtain ⟨rfl, hF⟩ := hF
  show vv_X4_readTest d k 40 [(0, .ref 45), (1, .int x1), (2, .int x2), (3, .int x3)] [] σ2
  refine ov_aload_n dX4_readTest_40 0 rfl ?_
  refine ov_iload_n dX4_readTest_41 1 rfl ?_
  refine ov_iload_n dX4_readTest_42 2 rfl ?_
  refine ov_callV [.int x1, .int x2] dX4_readTest_43 (hG_X4_readSum _ _ _ _ hF) (Nat.le_refl _) (Nat.le_of_ble_eq_true rfl) lk_X4_98 sh_45 rfl (Nat.le_of_ble_eq_true rfl) (Nat.le_refl _) (Nat.le_refl _) (fun rr σ4 hF => ?_)
  obtain ⟨v3, rfl, hF⟩ := hF
  show vv_X4_readTest d k 46 [(0, .ref 45), (1, .int x1), (2, .int x2), (3, .int x3)] [.int v3] σ4
  refine ov_istore dX4_readTest_46 (Nat.le_of_ble_eq_true rfl) [(4, .int v3), (0, .ref 45), (1, .int x1), (2, .int x2), (3, .int x3)] rfl ?_
  refine ov_aload_n dX4_readTest_48 1 rfl ?_
  refine ov_iload_n dX4_readTest_49 4 rfl ?_
  refine ov_ineg dX4_readTest_50 ?_
  refine ov_callV [.int (-x3)] dX4_readTest_51 (c_X4_emit hF) (show 0 + 1 ≤ d + 11 by omega) (Nat.le_of_ble_eq_true rfl) lk_X4_91 sh_45 rfl (Nat.le_of_ble_eq_true rfl) (Nat.le_refl _) (Nat.le_refl _) (fun rr σ6 hF => ?_)
  obtain ⟨rfl, hF⟩ := hF
  show vv_X4_readTest d k 54 [(4, .int v3), (0, .ref 45), (1, .int x1), (2, .int x2), (3, .int x3)] [] σ6
  refine ov_iload dX4_readTest_54 0 rfl ?_
  have h7 := hF.1
  have hF := hF.2
  exact ov_ireturn dX4_readTest_56 (Nat.le_refl _) (Nat.le_refl _) ⟨rfl, h7, _, rfl, hF⟩
def F_X4_readTest (G_X4_readSum : Int32 → Int32 → ovSt → (Int32 → ovSt → Prop) → Prop) (x1 : Int32) (x2 : Int32) (σ : ovSt) (k : Int32 → ovSt → Prop) : Prop := (G_X4_readSum x1 x2 σ (fun v8 σ9 => (if v8 = 0 then (k 0 σ9) else (∀ v10 : Int32, v10 = (σ9 45 3) → (if v10 = (60 : Int32) then (F_X4_readTest_36 G_X4_readSum k x1 x2 v10 σ9) else (if v10 = (61 : Int32) then (F_X4_readTest_36 G_X4_readSum k x1 x2 v10 σ9) else (if v10 = (62 : Int32) then (F_X4_readTest_36 G_X4_readSum k x1 x2 v10 σ9) else (k 1 σ9))))))))
set_option maxRecDepth 100000 in
set_option maxHeartbeats 4000000 in
theorem c_X4_readTest {d : Nat} {G_X4_readSum : Int32 → Int32 → ovSt → (Int32 → ovSt → Prop) → Prop} {x1 : Int32} {x2 : Int32} (hG_X4_readSum : ∀ (y1 y2 : Int32) (σ : ovSt) (k : Int32 → ovSt → Prop), G_X4_readSum y1 y2 σ k → ov_Ct (d + 10) yX4_readSum cX4_readSum 6 (some .boolean) ov_S0 [.ref 45, .int y1, .int y2] σ (ovKi k)) {σ : ovSt} {k : Int32 → ovSt → Prop} (hF : F_X4_readTest G_X4_readSum x1 x2 σ k) : ov_Ct (d + 11) yX4_readTest cX4_readTest 5 (some .boolean) ov_S0 [.ref 45, .int x1, .int x2] σ (ovKi k) := by
  refine ov_Ct.of (by decide) (Nat.le_of_ble_eq_true rfl) ?_
  unfold F_X4_readTest at hF
  show vv_X4_readTest d k 0 [(0, .ref 45), (1, .int x1), (2, .int x2)] [] σ
  refine ov_aload_n dX4_readTest_0 0 rfl ?_
  refine ov_iload_n dX4_readTest_1 1 rfl ?_
  refine ov_iload_n dX4_readTest_2 2 rfl ?_
  refine ov_callV [.int x1, .int x2] dX4_readTest_3 (hG_X4_readSum _ _ _ _ hF) (Nat.le_refl _) (Nat.le_of_ble_eq_true rfl) lk_X4_98 sh_45 rfl (Nat.le_of_ble_eq_true rfl) (Nat.le_refl _) (Nat.le_refl _) (fun rr σ9 hF => ?_)
  obtain ⟨v8, rfl, hF⟩ := hF
  show vv_X4_readTest d k 6 [(0, .ref 45), (1, .int x1), (2, .int x2)] [.int v8] σ9
  refine ov_if_ne 11 dX4_readTest_6 (by decide) hF (fun hF => ?_) (fun hF => ?_)
  · refine ov_aload_n dX4_readTest_11 0 rfl ?_
    refine ov_geti (T := TX4) (kf := 3) dX4_readTest_12 qf_X4_23 sh_45 rfl (Nat.le_of_ble_eq_true rfl) rfl ?_
    refine ov_nmI (fun v10 ev10 => ?_)
    have hF := hF v10 ev10
    refine ov_istore_n dX4_readTest_15 (Nat.le_of_ble_eq_true rfl) [(3, .int v10), (0, .ref 45), (1, .int x1), (2, .int x2)] rfl ?_
    refine ov_iload_n dX4_readTest_16 0 rfl ?_
    refine ov_bipush 60 (by decide) dX4_readTest_17 ?_
    refine ov_icmp_eq 36 dX4_readTest_19 (by decide) hF (fun hF => ?_) (fun hF => ?_)
    · refine ov_pick [1, 2, 3, 0] [(0, .ref 45), (1, .int x1), (2, .int x2), (3, .int v10)] rfl ?_
      exact V_X4_readTest_36 hG_X4_readSum x1 x2 v10 σ9 hF
    · refine ov_iload_n dX4_readTest_22 0 rfl ?_
      refine ov_bipush 61 (by decide) dX4_readTest_23 ?_
      refine ov_icmp_eq 36 dX4_readTest_25 (by decide) hF (fun hF => ?_) (fun hF => ?_)
      · refine ov_pick [1, 2, 3, 0] [(0, .ref 45), (1, .int x1), (2, .int x2), (3, .int v10)] rfl ?_
        exact V_X4_readTest_36 hG_X4_readSum x1 x2 v10 σ9 hF
      · refine ov_iload_n dX4_readTest_28 0 rfl ?_
        refine ov_bipush 62 (by decide) dX4_readTest_29 ?_
        refine ov_icmp_eq 36 dX4_readTest_31 (by decide) hF (fun hF => ?_) (fun hF => ?_)
        · refine ov_pick [1, 2, 3, 0] [(0, .ref 45), (1, .int x1), (2, .int x2), (3, .int v10)] rfl ?_
          exact V_X4_readTest_36 hG_X4_readSum x1 x2 v10 σ9 hF
        · refine ov_iconst 1 (by decide) dX4_readTest_34 ?_
          exact ov_ireturn dX4_readTest_35 (Nat.le_refl _) (Nat.le_refl _) ⟨rfl, ov_bl1, _, rfl, hF⟩
  · refine ov_iconst 0 (by decide) dX4_readTest_9 ?_
    exact ov_ireturn dX4_readTest_10 (Nat.le_refl _) (Nat.le_refl _) ⟨rfl, ov_bl0, _, rfl, hF⟩
/-! X4_readSum -/
abbrev vv_X4_readSum (d : Nat) (k : Int32 → ovSt → Prop) (pc : Nat) (L : List (Nat × Value)) (st : List Value) (σ : ovSt) : Prop := ov_V (ovZs (d + 11) yX4_readSum cX4_readSum 6) (ovKs (some .boolean) ov_S0 (ovKi k)) (0, 0) ov_S0 pc L st σ
def F_X4_readSum_39 (R10 : Int32 → Int32 → Int32 → Int32 → ovSt → Prop) (G_X4_readTerm : Int32 → Int32 → ovSt → (Int32 → ovSt → Prop) → Prop) (k : Int32 → ovSt → Prop) (x1 : Int32) (x2 : Int32) (x4 : Int32) (σ : ovSt) : Prop := (∀ v1 : Int32, v1 = (σ 45 3) → (F_X4_next σ (fun σ3 => (G_X4_readTerm x1 x2 σ3 (fun v4 σ5 => (F_X4_emit (-v1) σ5 (fun σ7 => R10 x1 x2 v4 (x4 + 1) σ7)))))))
set_option maxRecDepth 100000 in
set_option maxHeartbeats 4000000 in
theorem V_X4_readSum_39 {k : Int32 → ovSt → Prop} {d : Nat} {G_X4_readTerm : Int32 → Int32 → ovSt → (Int32 → ovSt → Prop) → Prop} {R10 : Int32 → Int32 → Int32 → Int32 → ovSt → Prop} (hR10 : ∀ (x1 : Int32) (x2 : Int32) (x3 : Int32) (x4 : Int32) (σ : ovSt), R10 x1 x2 x3 x4 σ → vv_X4_readSum d k 10 [(0, .ref 45), (1, .int x1), (2, .int x2), (3, .int x3), (4, .int x4)] [] σ) (hG_X4_readTerm : ∀ (y1 y2 : Int32) (σ : ovSt) (k : Int32 → ovSt → Prop), G_X4_readTerm y1 y2 σ k → ov_Ct (d + 10) yX4_readTerm cX4_readTerm 6 (some .boolean) ov_S0 [.ref 45, .int y1, .int y2] σ (ovKi k)) (x1 : Int32) (x2 : Int32) (x4 : Int32) (σ : ovSt) (hF : F_X4_readSum_39 R10 G_X4_readTerm k x1 x2 x4 σ) : vv_X4_readSum d k 39 [(0, .ref 45), (1, .int x1), (2, .int x2), (4, .int x4)] [] σ := by
  unfold F_X4_readSum_39 at hF
  refine ov_aload_n dX4_readSum_39 0 rfl ?_
  refine ov_geti (T := TX4) (kf := 3) dX4_readSum_40 qf_X4_23 sh_45 rfl (Nat.le_of_ble_eq_true rfl) rfl ?_
  refine ov_nmI (fun v1 ev1 => ?_)
  have hF := hF v1 ev1
  refine ov_istore dX4_readSum_43 (Nat.le_of_ble_eq_true rfl) [(5, .int v1), (0, .ref 45), (1, .int x1), (2, .int x2), (4, .int x4)] rfl ?_
  refine ov_aload_n dX4_readSum_45 1 rfl ?_
  refine ov_callV [] dX4_readSum_46 (c_X4_next hF) (show 1 + 1 ≤ d + 11 by omega) (Nat.le_of_ble_eq_true rfl) lk_X4_41 sh_45 rfl (Nat.le_of_ble_eq_true rfl) (Nat.le_refl _) (Nat.le_refl _) (fun rr σ3 hF => ?_)
  obtain ⟨rfl, hF⟩ := hF
  show vv_X4_readSum d k 49 [(5, .int v1), (0, .ref 45), (1, .int x1), (2, .int x2), (4, .int x4)] [] σ3
  refine ov_aload_n dX4_readSum_49 1 rfl ?_
  refine ov_iload_n dX4_readSum_50 2 rfl ?_
  refine ov_iload_n dX4_readSum_51 3 rfl ?_
  refine ov_callV [.int x1, .int x2] dX4_readSum_52 (hG_X4_readTerm _ _ _ _ hF) (Nat.le_refl _) (Nat.le_of_ble_eq_true rfl) lk_X4_101 sh_45 rfl (Nat.le_of_ble_eq_true rfl) (Nat.le_refl _) (Nat.le_refl _) (fun rr σ5 hF => ?_)
  obtain ⟨v4, rfl, hF⟩ := hF
  show vv_X4_readSum d k 55 [(5, .int v1), (0, .ref 45), (1, .int x1), (2, .int x2), (4, .int x4)] [.int v4] σ5
  refine ov_istore_n dX4_readSum_55 (Nat.le_of_ble_eq_true rfl) [(3, .int v4), (5, .int v1), (0, .ref 45), (1, .int x1), (2, .int x2), (4, .int x4)] rfl ?_
  refine ov_aload_n dX4_readSum_56 2 rfl ?_
  refine ov_iload dX4_readSum_57 1 rfl ?_
  refine ov_ineg dX4_readSum_59 ?_
  refine ov_callV [.int (-v1)] dX4_readSum_60 (c_X4_emit hF) (show 0 + 1 ≤ d + 11 by omega) (Nat.le_of_ble_eq_true rfl) lk_X4_91 sh_45 rfl (Nat.le_of_ble_eq_true rfl) (Nat.le_refl _) (Nat.le_refl _) (fun rr σ7 hF => ?_)
  obtain ⟨rfl, hF⟩ := hF
  show vv_X4_readSum d k 63 [(3, .int v4), (5, .int v1), (0, .ref 45), (1, .int x1), (2, .int x2), (4, .int x4)] [] σ7
  refine ov_iinc dX4_readSum_63 5 rfl (x4 + 1) rfl (Nat.le_of_ble_eq_true rfl) [(4, .int (x4 + 1)), (3, .int v4), (5, .int v1), (0, .ref 45), (1, .int x1), (2, .int x2)] rfl ?_
  refine ov_goto 10 dX4_readSum_66 (by decide) ?_
  refine ov_pick [3, 4, 5, 1, 0] [(0, .ref 45), (1, .int x1), (2, .int x2), (3, .int v4), (4, .int (x4 + 1))] rfl ?_
  exact hR10 x1 x2 v4 (x4 + 1) σ7 hF
def F_X4_readSum_69 (G_X4_readTerm : Int32 → Int32 → ovSt → (Int32 → ovSt → Prop) → Prop) (k : Int32 → ovSt → Prop) (x3 : Int32) (σ : ovSt) : Prop := (ov_bl x3 ∧ (k x3 σ))
set_option maxRecDepth 100000 in
set_option maxHeartbeats 4000000 in
theorem V_X4_readSum_69 {k : Int32 → ovSt → Prop} {d : Nat} {G_X4_readTerm : Int32 → Int32 → ovSt → (Int32 → ovSt → Prop) → Prop} (hG_X4_readTerm : ∀ (y1 y2 : Int32) (σ : ovSt) (k : Int32 → ovSt → Prop), G_X4_readTerm y1 y2 σ k → ov_Ct (d + 10) yX4_readTerm cX4_readTerm 6 (some .boolean) ov_S0 [.ref 45, .int y1, .int y2] σ (ovKi k)) (x3 : Int32) (σ : ovSt) (hF : F_X4_readSum_69 G_X4_readTerm k x3 σ) : vv_X4_readSum d k 69 [(3, .int x3)] [] σ := by
  unfold F_X4_readSum_69 at hF
  refine ov_iload_n dX4_readSum_69 0 rfl ?_
  have h8 := hF.1
  have hF := hF.2
  exact ov_ireturn dX4_readSum_70 (Nat.le_refl _) (Nat.le_refl _) ⟨rfl, h8, _, rfl, hF⟩
def F_X4_readSum_10 (G_X4_readTerm : Int32 → Int32 → ovSt → (Int32 → ovSt → Prop) → Prop) (k : Int32 → ovSt → Prop) : Nat → Int32 → Int32 → Int32 → Int32 → ovSt → Prop
  | 0 => fun _ _ _ _ _ => False
  | n + 1 => fun x1 x2 x3 x4 σ => (if (96 : Int32) ≤ x4 then (F_X4_readSum_69 G_X4_readTerm k x3 σ) else (if x3 = 0 then (F_X4_readSum_69 G_X4_readTerm k x3 σ) else (if (σ 45 3) = (43 : Int32) then (F_X4_readSum_39 (F_X4_readSum_10 G_X4_readTerm k n) G_X4_readTerm k x1 x2 x4 σ) else (if (σ 45 3) = (45 : Int32) then (F_X4_readSum_39 (F_X4_readSum_10 G_X4_readTerm k n) G_X4_readTerm k x1 x2 x4 σ) else (F_X4_readSum_69 G_X4_readTerm k x3 σ)))))
set_option maxRecDepth 100000 in
set_option maxHeartbeats 4000000 in
theorem V_X4_readSum_10 {k : Int32 → ovSt → Prop} {d : Nat} {G_X4_readTerm : Int32 → Int32 → ovSt → (Int32 → ovSt → Prop) → Prop} (hG_X4_readTerm : ∀ (y1 y2 : Int32) (σ : ovSt) (k : Int32 → ovSt → Prop), G_X4_readTerm y1 y2 σ k → ov_Ct (d + 10) yX4_readTerm cX4_readTerm 6 (some .boolean) ov_S0 [.ref 45, .int y1, .int y2] σ (ovKi k)) : ∀ (n : Nat) (x1 : Int32) (x2 : Int32) (x3 : Int32) (x4 : Int32) (σ : ovSt), F_X4_readSum_10 G_X4_readTerm k n x1 x2 x3 x4 σ → vv_X4_readSum d k 10 [(0, .ref 45), (1, .int x1), (2, .int x2), (3, .int x3), (4, .int x4)] [] σ := by
  intro n
  induction n with
  | zero => intro x1 x2 x3 x4 σ hF; exact hF.elim
  | succ n ih =>
    intro x1 x2 x3 x4 σ hF
    unfold F_X4_readSum_10 at hF
    refine ov_iload dX4_readSum_10 4 rfl ?_
    refine ov_bipush 96 (by decide) dX4_readSum_12 ?_
    refine ov_icmp_ge 69 dX4_readSum_14 (by decide) hF (fun hF => ?_) (fun hF => ?_)
    · refine ov_pick [3] [(3, .int x3)] rfl ?_
      exact V_X4_readSum_69 hG_X4_readTerm x3 σ hF
    · refine ov_iload_n dX4_readSum_17 3 rfl ?_
      refine ov_if_eq 69 dX4_readSum_18 (by decide) hF (fun hF => ?_) (fun hF => ?_)
      · refine ov_pick [3] [(3, .int x3)] rfl ?_
        exact V_X4_readSum_69 hG_X4_readTerm x3 σ hF
      · refine ov_aload_n dX4_readSum_21 0 rfl ?_
        refine ov_geti (T := TX4) (kf := 3) dX4_readSum_22 qf_X4_23 sh_45 rfl (Nat.le_of_ble_eq_true rfl) rfl ?_
        refine ov_bipush 43 (by decide) dX4_readSum_25 ?_
        refine ov_icmp_eq 39 dX4_readSum_27 (by decide) hF (fun hF => ?_) (fun hF => ?_)
        · refine ov_pick [0, 1, 2, 4] [(0, .ref 45), (1, .int x1), (2, .int x2), (4, .int x4)] rfl ?_
          exact V_X4_readSum_39 ih hG_X4_readTerm x1 x2 x4 σ hF
        · refine ov_aload_n dX4_readSum_30 0 rfl ?_
          refine ov_geti (T := TX4) (kf := 3) dX4_readSum_31 qf_X4_23 sh_45 rfl (Nat.le_of_ble_eq_true rfl) rfl ?_
          refine ov_bipush 45 (by decide) dX4_readSum_34 ?_
          refine ov_icmp_ne 69 dX4_readSum_36 (by decide) hF (fun hF => ?_) (fun hF => ?_)
          · refine ov_pick [3] [(3, .int x3)] rfl ?_
            exact V_X4_readSum_69 hG_X4_readTerm x3 σ hF
          · refine ov_pick [0, 1, 2, 4] [(0, .ref 45), (1, .int x1), (2, .int x2), (4, .int x4)] rfl ?_
            exact V_X4_readSum_39 ih hG_X4_readTerm x1 x2 x4 σ hF
def F_X4_readSum (G_X4_readTerm : Int32 → Int32 → ovSt → (Int32 → ovSt → Prop) → Prop) (x1 : Int32) (x2 : Int32) (σ : ovSt) (k : Int32 → ovSt → Prop) : Prop := (G_X4_readTerm x1 x2 σ (fun v9 σ10 => (∃ n11, F_X4_readSum_10 G_X4_readTerm k n11 x1 x2 v9 0 σ10)))
set_option maxRecDepth 100000 in
set_option maxHeartbeats 4000000 in
theorem c_X4_readSum {d : Nat} {G_X4_readTerm : Int32 → Int32 → ovSt → (Int32 → ovSt → Prop) → Prop} {x1 : Int32} {x2 : Int32} (hG_X4_readTerm : ∀ (y1 y2 : Int32) (σ : ovSt) (k : Int32 → ovSt → Prop), G_X4_readTerm y1 y2 σ k → ov_Ct (d + 10) yX4_readTerm cX4_readTerm 6 (some .boolean) ov_S0 [.ref 45, .int y1, .int y2] σ (ovKi k)) {σ : ovSt} {k : Int32 → ovSt → Prop} (hF : F_X4_readSum G_X4_readTerm x1 x2 σ k) : ov_Ct (d + 11) yX4_readSum cX4_readSum 6 (some .boolean) ov_S0 [.ref 45, .int x1, .int x2] σ (ovKi k) := by
  refine ov_Ct.of (by decide) (Nat.le_of_ble_eq_true rfl) ?_
  unfold F_X4_readSum at hF
  show vv_X4_readSum d k 0 [(0, .ref 45), (1, .int x1), (2, .int x2)] [] σ
  refine ov_aload_n dX4_readSum_0 0 rfl ?_
  refine ov_iload_n dX4_readSum_1 1 rfl ?_
  refine ov_iload_n dX4_readSum_2 2 rfl ?_
  refine ov_callV [.int x1, .int x2] dX4_readSum_3 (hG_X4_readTerm _ _ _ _ hF) (Nat.le_refl _) (Nat.le_of_ble_eq_true rfl) lk_X4_101 sh_45 rfl (Nat.le_of_ble_eq_true rfl) (Nat.le_refl _) (Nat.le_refl _) (fun rr σ10 hF => ?_)
  obtain ⟨v9, rfl, hF⟩ := hF
  show vv_X4_readSum d k 6 [(0, .ref 45), (1, .int x1), (2, .int x2)] [.int v9] σ10
  refine ov_istore_n dX4_readSum_6 (Nat.le_of_ble_eq_true rfl) [(3, .int v9), (0, .ref 45), (1, .int x1), (2, .int x2)] rfl ?_
  refine ov_iconst 0 (by decide) dX4_readSum_7 ?_
  refine ov_istore dX4_readSum_8 (Nat.le_of_ble_eq_true rfl) [(4, .int 0), (3, .int v9), (0, .ref 45), (1, .int x1), (2, .int x2)] rfl ?_
  refine ov_pick [2, 3, 4, 1, 0] [(0, .ref 45), (1, .int x1), (2, .int x2), (3, .int v9), (4, .int 0)] rfl ?_
  obtain ⟨n11, hF⟩ := hF
  exact V_X4_readSum_10 hG_X4_readTerm n11 x1 x2 v9 0 σ10 hF
/-! X4_readTerm -/
abbrev vv_X4_readTerm (d : Nat) (k : Int32 → ovSt → Prop) (pc : Nat) (L : List (Nat × Value)) (st : List Value) (σ : ovSt) : Prop := ov_V (ovZs (d + 11) yX4_readTerm cX4_readTerm 6) (ovKs (some .boolean) ov_S0 (ovKi k)) (0, 0) ov_S0 pc L st σ
def F_X4_readTerm_39 (R10 : Int32 → Int32 → Int32 → Int32 → ovSt → Prop) (G_X4_readPiece : Int32 → Int32 → ovSt → (Int32 → ovSt → Prop) → Prop) (k : Int32 → ovSt → Prop) (x1 : Int32) (x2 : Int32) (x4 : Int32) (σ : ovSt) : Prop := (∀ v1 : Int32, v1 = (σ 45 3) → (F_X4_next σ (fun σ3 => (G_X4_readPiece x1 x2 σ3 (fun v4 σ5 => (F_X4_emit (-v1) σ5 (fun σ7 => R10 x1 x2 v4 (x4 + 1) σ7)))))))
set_option maxRecDepth 100000 in
set_option maxHeartbeats 4000000 in
theorem V_X4_readTerm_39 {k : Int32 → ovSt → Prop} {d : Nat} {G_X4_readPiece : Int32 → Int32 → ovSt → (Int32 → ovSt → Prop) → Prop} {R10 : Int32 → Int32 → Int32 → Int32 → ovSt → Prop} (hR10 : ∀ (x1 : Int32) (x2 : Int32) (x3 : Int32) (x4 : Int32) (σ : ovSt), R10 x1 x2 x3 x4 σ → vv_X4_readTerm d k 10 [(0, .ref 45), (1, .int x1), (2, .int x2), (3, .int x3), (4, .int x4)] [] σ) (hG_X4_readPiece : ∀ (y1 y2 : Int32) (σ : ovSt) (k : Int32 → ovSt → Prop), G_X4_readPiece y1 y2 σ k → ov_Ct (d + 10) yX4_readPiece cX4_readPiece 3 (some .boolean) ov_S0 [.ref 45, .int y1, .int y2] σ (ovKi k)) (x1 : Int32) (x2 : Int32) (x4 : Int32) (σ : ovSt) (hF : F_X4_readTerm_39 R10 G_X4_readPiece k x1 x2 x4 σ) : vv_X4_readTerm d k 39 [(0, .ref 45), (1, .int x1), (2, .int x2), (4, .int x4)] [] σ := by
  unfold F_X4_readTerm_39 at hF
  refine ov_aload_n dX4_readTerm_39 0 rfl ?_
  refine ov_geti (T := TX4) (kf := 3) dX4_readTerm_40 qf_X4_23 sh_45 rfl (Nat.le_of_ble_eq_true rfl) rfl ?_
  refine ov_nmI (fun v1 ev1 => ?_)
  have hF := hF v1 ev1
  refine ov_istore dX4_readTerm_43 (Nat.le_of_ble_eq_true rfl) [(5, .int v1), (0, .ref 45), (1, .int x1), (2, .int x2), (4, .int x4)] rfl ?_
  refine ov_aload_n dX4_readTerm_45 1 rfl ?_
  refine ov_callV [] dX4_readTerm_46 (c_X4_next hF) (show 1 + 1 ≤ d + 11 by omega) (Nat.le_of_ble_eq_true rfl) lk_X4_41 sh_45 rfl (Nat.le_of_ble_eq_true rfl) (Nat.le_refl _) (Nat.le_refl _) (fun rr σ3 hF => ?_)
  obtain ⟨rfl, hF⟩ := hF
  show vv_X4_readTerm d k 49 [(5, .int v1), (0, .ref 45), (1, .int x1), (2, .int x2), (4, .int x4)] [] σ3
  refine ov_aload_n dX4_readTerm_49 1 rfl ?_
  refine ov_iload_n dX4_readTerm_50 2 rfl ?_
  refine ov_iload_n dX4_readTerm_51 3 rfl ?_
  refine ov_callV [.int x1, .int x2] dX4_readTerm_52 (hG_X4_readPiece _ _ _ _ hF) (Nat.le_refl _) (Nat.le_of_ble_eq_true rfl) lk_X4_104 sh_45 rfl (Nat.le_of_ble_eq_true rfl) (Nat.le_refl _) (Nat.le_refl _) (fun rr σ5 hF => ?_)
  obtain ⟨v4, rfl, hF⟩ := hF
  show vv_X4_readTerm d k 55 [(5, .int v1), (0, .ref 45), (1, .int x1), (2, .int x2), (4, .int x4)] [.int v4] σ5
  refine ov_istore_n dX4_readTerm_55 (Nat.le_of_ble_eq_true rfl) [(3, .int v4), (5, .int v1), (0, .ref 45), (1, .int x1), (2, .int x2), (4, .int x4)] rfl ?_
  refine ov_aload_n dX4_readTerm_56 2 rfl ?_
  refine ov_iload dX4_readTerm_57 1 rfl ?_
  refine ov_ineg dX4_readTerm_59 ?_
  refine ov_callV [.int (-v1)] dX4_readTerm_60 (c_X4_emit hF) (show 0 + 1 ≤ d + 11 by omega) (Nat.le_of_ble_eq_true rfl) lk_X4_91 sh_45 rfl (Nat.le_of_ble_eq_true rfl) (Nat.le_refl _) (Nat.le_refl _) (fun rr σ7 hF => ?_)
  obtain ⟨rfl, hF⟩ := hF
  show vv_X4_readTerm d k 63 [(3, .int v4), (5, .int v1), (0, .ref 45), (1, .int x1), (2, .int x2), (4, .int x4)] [] σ7
  refine ov_iinc dX4_readTerm_63 5 rfl (x4 + 1) rfl (Nat.le_of_ble_eq_true rfl) [(4, .int (x4 + 1)), (3, .int v4), (5, .int v1), (0, .ref 45), (1, .int x1), (2, .int x2)] rfl ?_
  refine ov_goto 10 dX4_readTerm_66 (by decide) ?_
  refine ov_pick [3, 4, 5, 1, 0] [(0, .ref 45), (1, .int x1), (2, .int x2), (3, .int v4), (4, .int (x4 + 1))] rfl ?_
  exact hR10 x1 x2 v4 (x4 + 1) σ7 hF
def F_X4_readTerm_69 (G_X4_readPiece : Int32 → Int32 → ovSt → (Int32 → ovSt → Prop) → Prop) (k : Int32 → ovSt → Prop) (x3 : Int32) (σ : ovSt) : Prop := (ov_bl x3 ∧ (k x3 σ))
set_option maxRecDepth 100000 in
set_option maxHeartbeats 4000000 in
theorem V_X4_readTerm_69 {k : Int32 → ovSt → Prop} {d : Nat} {G_X4_readPiece : Int32 → Int32 → ovSt → (Int32 → ovSt → Prop) → Prop} (hG_X4_readPiece : ∀ (y1 y2 : Int32) (σ : ovSt) (k : Int32 → ovSt → Prop), G_X4_readPiece y1 y2 σ k → ov_Ct (d + 10) yX4_readPiece cX4_readPiece 3 (some .boolean) ov_S0 [.ref 45, .int y1, .int y2] σ (ovKi k)) (x3 : Int32) (σ : ovSt) (hF : F_X4_readTerm_69 G_X4_readPiece k x3 σ) : vv_X4_readTerm d k 69 [(3, .int x3)] [] σ := by
  unfold F_X4_readTerm_69 at hF
  refine ov_iload_n dX4_readTerm_69 0 rfl ?_
  have h8 := hF.1
  have hF := hF.2
  exact ov_ireturn dX4_readTerm_70 (Nat.le_refl _) (Nat.le_refl _) ⟨rfl, h8, _, rfl, hF⟩
def F_X4_readTerm_10 (G_X4_readPiece : Int32 → Int32 → ovSt → (Int32 → ovSt → Prop) → Prop) (k : Int32 → ovSt → Prop) : Nat → Int32 → Int32 → Int32 → Int32 → ovSt → Prop
  | 0 => fun _ _ _ _ _ => False
  | n + 1 => fun x1 x2 x3 x4 σ => (if (96 : Int32) ≤ x4 then (F_X4_readTerm_69 G_X4_readPiece k x3 σ) else (if x3 = 0 then (F_X4_readTerm_69 G_X4_readPiece k x3 σ) else (if (σ 45 3) = (42 : Int32) then (F_X4_readTerm_39 (F_X4_readTerm_10 G_X4_readPiece k n) G_X4_readPiece k x1 x2 x4 σ) else (if (σ 45 3) = (47 : Int32) then (F_X4_readTerm_39 (F_X4_readTerm_10 G_X4_readPiece k n) G_X4_readPiece k x1 x2 x4 σ) else (F_X4_readTerm_69 G_X4_readPiece k x3 σ)))))
set_option maxRecDepth 100000 in
set_option maxHeartbeats 4000000 in
theorem V_X4_readTerm_10 {k : Int32 → ovSt → Prop} {d : Nat} {G_X4_readPiece : Int32 → Int32 → ovSt → (Int32 → ovSt → Prop) → Prop} (hG_X4_readPiece : ∀ (y1 y2 : Int32) (σ : ovSt) (k : Int32 → ovSt → Prop), G_X4_readPiece y1 y2 σ k → ov_Ct (d + 10) yX4_readPiece cX4_readPiece 3 (some .boolean) ov_S0 [.ref 45, .int y1, .int y2] σ (ovKi k)) : ∀ (n : Nat) (x1 : Int32) (x2 : Int32) (x3 : Int32) (x4 : Int32) (σ : ovSt), F_X4_readTerm_10 G_X4_readPiece k n x1 x2 x3 x4 σ → vv_X4_readTerm d k 10 [(0, .ref 45), (1, .int x1), (2, .int x2), (3, .int x3), (4, .int x4)] [] σ := by
  intro n
  induction n with
  | zero => intro x1 x2 x3 x4 σ hF; exact hF.elim
  | succ n ih =>
    intro x1 x2 x3 x4 σ hF
    unfold F_X4_readTerm_10 at hF
    refine ov_iload dX4_readTerm_10 4 rfl ?_
    refine ov_bipush 96 (by decide) dX4_readTerm_12 ?_
    refine ov_icmp_ge 69 dX4_readTerm_14 (by decide) hF (fun hF => ?_) (fun hF => ?_)
    · refine ov_pick [3] [(3, .int x3)] rfl ?_
      exact V_X4_readTerm_69 hG_X4_readPiece x3 σ hF
    · refine ov_iload_n dX4_readTerm_17 3 rfl ?_
      refine ov_if_eq 69 dX4_readTerm_18 (by decide) hF (fun hF => ?_) (fun hF => ?_)
      · refine ov_pick [3] [(3, .int x3)] rfl ?_
        exact V_X4_readTerm_69 hG_X4_readPiece x3 σ hF
      · refine ov_aload_n dX4_readTerm_21 0 rfl ?_
        refine ov_geti (T := TX4) (kf := 3) dX4_readTerm_22 qf_X4_23 sh_45 rfl (Nat.le_of_ble_eq_true rfl) rfl ?_
        refine ov_bipush 42 (by decide) dX4_readTerm_25 ?_
        refine ov_icmp_eq 39 dX4_readTerm_27 (by decide) hF (fun hF => ?_) (fun hF => ?_)
        · refine ov_pick [0, 1, 2, 4] [(0, .ref 45), (1, .int x1), (2, .int x2), (4, .int x4)] rfl ?_
          exact V_X4_readTerm_39 ih hG_X4_readPiece x1 x2 x4 σ hF
        · refine ov_aload_n dX4_readTerm_30 0 rfl ?_
          refine ov_geti (T := TX4) (kf := 3) dX4_readTerm_31 qf_X4_23 sh_45 rfl (Nat.le_of_ble_eq_true rfl) rfl ?_
          refine ov_bipush 47 (by decide) dX4_readTerm_34 ?_
          refine ov_icmp_ne 69 dX4_readTerm_36 (by decide) hF (fun hF => ?_) (fun hF => ?_)
          · refine ov_pick [3] [(3, .int x3)] rfl ?_
            exact V_X4_readTerm_69 hG_X4_readPiece x3 σ hF
          · refine ov_pick [0, 1, 2, 4] [(0, .ref 45), (1, .int x1), (2, .int x2), (4, .int x4)] rfl ?_
            exact V_X4_readTerm_39 ih hG_X4_readPiece x1 x2 x4 σ hF
def F_X4_readTerm (G_X4_readPiece : Int32 → Int32 → ovSt → (Int32 → ovSt → Prop) → Prop) (x1 : Int32) (x2 : Int32) (σ : ovSt) (k : Int32 → ovSt → Prop) : Prop := (G_X4_readPiece x1 x2 σ (fun v9 σ10 => (∃ n11, F_X4_readTerm_10 G_X4_readPiece k n11 x1 x2 v9 0 σ10)))
set_option maxRecDepth 100000 in
set_option maxHeartbeats 4000000 in
theorem c_X4_readTerm {d : Nat} {G_X4_readPiece : Int32 → Int32 → ovSt → (Int32 → ovSt → Prop) → Prop} {x1 : Int32} {x2 : Int32} (hG_X4_readPiece : ∀ (y1 y2 : Int32) (σ : ovSt) (k : Int32 → ovSt → Prop), G_X4_readPiece y1 y2 σ k → ov_Ct (d + 10) yX4_readPiece cX4_readPiece 3 (some .boolean) ov_S0 [.ref 45, .int y1, .int y2] σ (ovKi k)) {σ : ovSt} {k : Int32 → ovSt → Prop} (hF : F_X4_readTerm G_X4_readPiece x1 x2 σ k) : ov_Ct (d + 11) yX4_readTerm cX4_readTerm 6 (some .boolean) ov_S0 [.ref 45, .int x1, .int x2] σ (ovKi k) := by
  refine ov_Ct.of (by decide) (Nat.le_of_ble_eq_true rfl) ?_
  unfold F_X4_readTerm at hF
  show vv_X4_readTerm d k 0 [(0, .ref 45), (1, .int x1), (2, .int x2)] [] σ
  refine ov_aload_n dX4_readTerm_0 0 rfl ?_
  refine ov_iload_n dX4_readTerm_1 1 rfl ?_
  refine ov_iload_n dX4_readTerm_2 2 rfl ?_
  refine ov_callV [.int x1, .int x2] dX4_readTerm_3 (hG_X4_readPiece _ _ _ _ hF) (Nat.le_refl _) (Nat.le_of_ble_eq_true rfl) lk_X4_104 sh_45 rfl (Nat.le_of_ble_eq_true rfl) (Nat.le_refl _) (Nat.le_refl _) (fun rr σ10 hF => ?_)
  obtain ⟨v9, rfl, hF⟩ := hF
  show vv_X4_readTerm d k 6 [(0, .ref 45), (1, .int x1), (2, .int x2)] [.int v9] σ10
  refine ov_istore_n dX4_readTerm_6 (Nat.le_of_ble_eq_true rfl) [(3, .int v9), (0, .ref 45), (1, .int x1), (2, .int x2)] rfl ?_
  refine ov_iconst 0 (by decide) dX4_readTerm_7 ?_
  refine ov_istore dX4_readTerm_8 (Nat.le_of_ble_eq_true rfl) [(4, .int 0), (3, .int v9), (0, .ref 45), (1, .int x1), (2, .int x2)] rfl ?_
  refine ov_pick [2, 3, 4, 1, 0] [(0, .ref 45), (1, .int x1), (2, .int x2), (3, .int v9), (4, .int 0)] rfl ?_
  obtain ⟨n11, hF⟩ := hF
  exact V_X4_readTerm_10 hG_X4_readPiece n11 x1 x2 v9 0 σ10 hF
/-! X4_readPiece -/
abbrev vv_X4_readPiece (d : Nat) (k : Int32 → ovSt → Prop) (pc : Nat) (L : List (Nat × Value)) (st : List Value) (σ : ovSt) : Prop := ov_V (ovZs (d + 11) yX4_readPiece cX4_readPiece 3) (ovKs (some .boolean) ov_S0 (ovKi k)) (0, 0) ov_S0 pc L st σ
def F_X4_readPiece_82 (G_X4_readNot : Int32 → Int32 → ovSt → (Int32 → ovSt → Prop) → Prop) (G_X4_readInner : Int32 → Int32 → ovSt → (Int32 → ovSt → Prop) → Prop) (k : Int32 → ovSt → Prop) (t0 : Int32) (σ : ovSt) : Prop := (ov_bl t0 ∧ (k t0 σ))
set_option maxRecDepth 100000 in
set_option maxHeartbeats 4000000 in
theorem V_X4_readPiece_82 {k : Int32 → ovSt → Prop} {d : Nat} {G_X4_readNot : Int32 → Int32 → ovSt → (Int32 → ovSt → Prop) → Prop} {G_X4_readInner : Int32 → Int32 → ovSt → (Int32 → ovSt → Prop) → Prop} (hG_X4_readNot : ∀ (y1 y2 : Int32) (σ : ovSt) (k : Int32 → ovSt → Prop), G_X4_readNot y1 y2 σ k → ov_Ct (d + 10) yX4_readNot cX4_readNot 4 (some .boolean) ov_S0 [.ref 45, .int y1, .int y2] σ (ovKi k)) (hG_X4_readInner : ∀ (y1 y2 : Int32) (σ : ovSt) (k : Int32 → ovSt → Prop), G_X4_readInner y1 y2 σ k → ov_Ct (d + 10) yX4_readInner cX4_readInner 3 (some .boolean) ov_S0 [.ref 45, .int y1, .int y2] σ (ovKi k)) (t0 : Int32) (σ : ovSt) (hF : F_X4_readPiece_82 G_X4_readNot G_X4_readInner k t0 σ) : vv_X4_readPiece d k 82 [] [.int t0] σ := by
  unfold F_X4_readPiece_82 at hF
  have h1 := hF.1
  have hF := hF.2
  exact ov_ireturn dX4_readPiece_82 (Nat.le_refl _) (Nat.le_refl _) ⟨rfl, h1, _, rfl, hF⟩
def F_X4_readPiece_81 (G_X4_readNot : Int32 → Int32 → ovSt → (Int32 → ovSt → Prop) → Prop) (G_X4_readInner : Int32 → Int32 → ovSt → (Int32 → ovSt → Prop) → Prop) (k : Int32 → ovSt → Prop) (σ : ovSt) : Prop := (F_X4_readPiece_82 G_X4_readNot G_X4_readInner k 0 σ)
set_option maxRecDepth 100000 in
set_option maxHeartbeats 4000000 in
theorem V_X4_readPiece_81 {k : Int32 → ovSt → Prop} {d : Nat} {G_X4_readNot : Int32 → Int32 → ovSt → (Int32 → ovSt → Prop) → Prop} {G_X4_readInner : Int32 → Int32 → ovSt → (Int32 → ovSt → Prop) → Prop} (hG_X4_readNot : ∀ (y1 y2 : Int32) (σ : ovSt) (k : Int32 → ovSt → Prop), G_X4_readNot y1 y2 σ k → ov_Ct (d + 10) yX4_readNot cX4_readNot 4 (some .boolean) ov_S0 [.ref 45, .int y1, .int y2] σ (ovKi k)) (hG_X4_readInner : ∀ (y1 y2 : Int32) (σ : ovSt) (k : Int32 → ovSt → Prop), G_X4_readInner y1 y2 σ k → ov_Ct (d + 10) yX4_readInner cX4_readInner 3 (some .boolean) ov_S0 [.ref 45, .int y1, .int y2] σ (ovKi k)) (σ : ovSt) (hF : F_X4_readPiece_81 G_X4_readNot G_X4_readInner k σ) : vv_X4_readPiece d k 81 [] [] σ := by
  unfold F_X4_readPiece_81 at hF
  refine ov_iconst 0 (by decide) dX4_readPiece_81 ?_
  exact V_X4_readPiece_82 hG_X4_readNot hG_X4_readInner 0 σ hF
def F_X4_readPiece_105 (G_X4_readNot : Int32 → Int32 → ovSt → (Int32 → ovSt → Prop) → Prop) (G_X4_readInner : Int32 → Int32 → ovSt → (Int32 → ovSt → Prop) → Prop) (k : Int32 → ovSt → Prop) (t0 : Int32) (σ : ovSt) : Prop := (ov_bl t0 ∧ (k t0 σ))
set_option maxRecDepth 100000 in
set_option maxHeartbeats 4000000 in
theorem V_X4_readPiece_105 {k : Int32 → ovSt → Prop} {d : Nat} {G_X4_readNot : Int32 → Int32 → ovSt → (Int32 → ovSt → Prop) → Prop} {G_X4_readInner : Int32 → Int32 → ovSt → (Int32 → ovSt → Prop) → Prop} (hG_X4_readNot : ∀ (y1 y2 : Int32) (σ : ovSt) (k : Int32 → ovSt → Prop), G_X4_readNot y1 y2 σ k → ov_Ct (d + 10) yX4_readNot cX4_readNot 4 (some .boolean) ov_S0 [.ref 45, .int y1, .int y2] σ (ovKi k)) (hG_X4_readInner : ∀ (y1 y2 : Int32) (σ : ovSt) (k : Int32 → ovSt → Prop), G_X4_readInner y1 y2 σ k → ov_Ct (d + 10) yX4_readInner cX4_readInner 3 (some .boolean) ov_S0 [.ref 45, .int y1, .int y2] σ (ovKi k)) (t0 : Int32) (σ : ovSt) (hF : F_X4_readPiece_105 G_X4_readNot G_X4_readInner k t0 σ) : vv_X4_readPiece d k 105 [] [.int t0] σ := by
  unfold F_X4_readPiece_105 at hF
  have h2 := hF.1
  have hF := hF.2
  exact ov_ireturn dX4_readPiece_105 (Nat.le_refl _) (Nat.le_refl _) ⟨rfl, h2, _, rfl, hF⟩
def F_X4_readPiece_104 (G_X4_readNot : Int32 → Int32 → ovSt → (Int32 → ovSt → Prop) → Prop) (G_X4_readInner : Int32 → Int32 → ovSt → (Int32 → ovSt → Prop) → Prop) (k : Int32 → ovSt → Prop) (σ : ovSt) : Prop := (F_X4_readPiece_105 G_X4_readNot G_X4_readInner k 0 σ)
set_option maxRecDepth 100000 in
set_option maxHeartbeats 4000000 in
theorem V_X4_readPiece_104 {k : Int32 → ovSt → Prop} {d : Nat} {G_X4_readNot : Int32 → Int32 → ovSt → (Int32 → ovSt → Prop) → Prop} {G_X4_readInner : Int32 → Int32 → ovSt → (Int32 → ovSt → Prop) → Prop} (hG_X4_readNot : ∀ (y1 y2 : Int32) (σ : ovSt) (k : Int32 → ovSt → Prop), G_X4_readNot y1 y2 σ k → ov_Ct (d + 10) yX4_readNot cX4_readNot 4 (some .boolean) ov_S0 [.ref 45, .int y1, .int y2] σ (ovKi k)) (hG_X4_readInner : ∀ (y1 y2 : Int32) (σ : ovSt) (k : Int32 → ovSt → Prop), G_X4_readInner y1 y2 σ k → ov_Ct (d + 10) yX4_readInner cX4_readInner 3 (some .boolean) ov_S0 [.ref 45, .int y1, .int y2] σ (ovKi k)) (σ : ovSt) (hF : F_X4_readPiece_104 G_X4_readNot G_X4_readInner k σ) : vv_X4_readPiece d k 104 [] [] σ := by
  unfold F_X4_readPiece_104 at hF
  refine ov_iconst 0 (by decide) dX4_readPiece_104 ?_
  exact V_X4_readPiece_105 hG_X4_readNot hG_X4_readInner 0 σ hF
def F_X4_readPiece_128 (G_X4_readNot : Int32 → Int32 → ovSt → (Int32 → ovSt → Prop) → Prop) (G_X4_readInner : Int32 → Int32 → ovSt → (Int32 → ovSt → Prop) → Prop) (k : Int32 → ovSt → Prop) (t0 : Int32) (σ : ovSt) : Prop := (ov_bl t0 ∧ (k t0 σ))
set_option maxRecDepth 100000 in
set_option maxHeartbeats 4000000 in
theorem V_X4_readPiece_128 {k : Int32 → ovSt → Prop} {d : Nat} {G_X4_readNot : Int32 → Int32 → ovSt → (Int32 → ovSt → Prop) → Prop} {G_X4_readInner : Int32 → Int32 → ovSt → (Int32 → ovSt → Prop) → Prop} (hG_X4_readNot : ∀ (y1 y2 : Int32) (σ : ovSt) (k : Int32 → ovSt → Prop), G_X4_readNot y1 y2 σ k → ov_Ct (d + 10) yX4_readNot cX4_readNot 4 (some .boolean) ov_S0 [.ref 45, .int y1, .int y2] σ (ovKi k)) (hG_X4_readInner : ∀ (y1 y2 : Int32) (σ : ovSt) (k : Int32 → ovSt → Prop), G_X4_readInner y1 y2 σ k → ov_Ct (d + 10) yX4_readInner cX4_readInner 3 (some .boolean) ov_S0 [.ref 45, .int y1, .int y2] σ (ovKi k)) (t0 : Int32) (σ : ovSt) (hF : F_X4_readPiece_128 G_X4_readNot G_X4_readInner k t0 σ) : vv_X4_readPiece d k 128 [] [.int t0] σ := by
  unfold F_X4_readPiece_128 at hF
  have h3 := hF.1
  have hF := hF.2
  exact ov_ireturn dX4_readPiece_128 (Nat.le_refl _) (Nat.le_refl _) ⟨rfl, h3, _, rfl, hF⟩
def F_X4_readPiece_127 (G_X4_readNot : Int32 → Int32 → ovSt → (Int32 → ovSt → Prop) → Prop) (G_X4_readInner : Int32 → Int32 → ovSt → (Int32 → ovSt → Prop) → Prop) (k : Int32 → ovSt → Prop) (σ : ovSt) : Prop := (F_X4_readPiece_128 G_X4_readNot G_X4_readInner k 0 σ)
set_option maxRecDepth 100000 in
set_option maxHeartbeats 4000000 in
theorem V_X4_readPiece_127 {k : Int32 → ovSt → Prop} {d : Nat} {G_X4_readNot : Int32 → Int32 → ovSt → (Int32 → ovSt → Prop) → Prop} {G_X4_readInner : Int32 → Int32 → ovSt → (Int32 → ovSt → Prop) → Prop} (hG_X4_readNot : ∀ (y1 y2 : Int32) (σ : ovSt) (k : Int32 → ovSt → Prop), G_X4_readNot y1 y2 σ k → ov_Ct (d + 10) yX4_readNot cX4_readNot 4 (some .boolean) ov_S0 [.ref 45, .int y1, .int y2] σ (ovKi k)) (hG_X4_readInner : ∀ (y1 y2 : Int32) (σ : ovSt) (k : Int32 → ovSt → Prop), G_X4_readInner y1 y2 σ k → ov_Ct (d + 10) yX4_readInner cX4_readInner 3 (some .boolean) ov_S0 [.ref 45, .int y1, .int y2] σ (ovKi k)) (σ : ovSt) (hF : F_X4_readPiece_127 G_X4_readNot G_X4_readInner k σ) : vv_X4_readPiece d k 127 [] [] σ := by
  unfold F_X4_readPiece_127 at hF
  refine ov_iconst 0 (by decide) dX4_readPiece_127 ?_
  exact V_X4_readPiece_128 hG_X4_readNot hG_X4_readInner 0 σ hF
def F_X4_readPiece (G_X4_readNot : Int32 → Int32 → ovSt → (Int32 → ovSt → Prop) → Prop) (G_X4_readInner : Int32 → Int32 → ovSt → (Int32 → ovSt → Prop) → Prop) (x1 : Int32) (x2 : Int32) (σ : ovSt) (k : Int32 → ovSt → Prop) : Prop := (if (σ 45 3) = (-3) then (F_X4_numberAhead σ (fun v18 σ19 => (F_X4_readLeaf v18 σ19 (fun v20 σ21 => (ov_bl v20 ∧ (k v20 σ21)))))) else (if (σ 45 3) = (-2) then (F_X4_nameAhead σ (fun v12 σ13 => (if v12 < 0 then (F_X4_readPiece_81 G_X4_readNot G_X4_readInner k σ13) else (F_X4_nameAhead σ13 (fun v14 σ15 => (F_X4_readLeaf ((-1) - v14) σ15 (fun v16 σ17 => (if v16 = 0 then (F_X4_readPiece_81 G_X4_readNot G_X4_readInner k σ17) else (F_X4_readPiece_82 G_X4_readNot G_X4_readInner k 1 σ17))))))))) else (if (σ 45 3) = 33 then (if (8 : Int32) ≤ x2 then (F_X4_readPiece_104 G_X4_readNot G_X4_readInner k σ) else (G_X4_readNot x1 (x2 + 1) σ (fun v10 σ11 => (if v10 = 0 then (F_X4_readPiece_104 G_X4_readNot G_X4_readInner k σ11) else (F_X4_readPiece_105 G_X4_readNot G_X4_readInner k 1 σ11))))) else (if (σ 45 3) = 40 then (if (8 : Int32) ≤ x1 then (F_X4_readPiece_127 G_X4_readNot G_X4_readInner k σ) else (G_X4_readInner (x1 + 1) x2 σ (fun v8 σ9 => (if v8 = 0 then (F_X4_readPiece_127 G_X4_readNot G_X4_readInner k σ9) else (F_X4_readPiece_128 G_X4_readNot G_X4_readInner k 1 σ9))))) else (k 0 σ)))))
set_option maxRecDepth 100000 in
set_option maxHeartbeats 4000000 in
theorem c_X4_readPiece {d : Nat} {G_X4_readNot : Int32 → Int32 → ovSt → (Int32 → ovSt → Prop) → Prop} {G_X4_readInner : Int32 → Int32 → ovSt → (Int32 → ovSt → Prop) → Prop} {x1 : Int32} {x2 : Int32} (hG_X4_readNot : ∀ (y1 y2 : Int32) (σ : ovSt) (k : Int32 → ovSt → Prop), G_X4_readNot y1 y2 σ k → ov_Ct (d + 10) yX4_readNot cX4_readNot 4 (some .boolean) ov_S0 [.ref 45, .int y1, .int y2] σ (ovKi k)) (hG_X4_readInner : ∀ (y1 y2 : Int32) (σ : ovSt) (k : Int32 → ovSt → Prop), G_X4_readInner y1 y2 σ k → ov_Ct (d + 10) yX4_readInner cX4_readInner 3 (some .boolean) ov_S0 [.ref 45, .int y1, .int y2] σ (ovKi k)) {σ : ovSt} {k : Int32 → ovSt → Prop} (hF : F_X4_readPiece G_X4_readNot G_X4_readInner x1 x2 σ k) : ov_Ct (d + 11) yX4_readPiece cX4_readPiece 3 (some .boolean) ov_S0 [.ref 45, .int x1, .int x2] σ (ovKi k) := by
  refine ov_Ct.of (by decide) (Nat.le_of_ble_eq_true rfl) ?_
  unfold F_X4_readPiece at hF
  show vv_X4_readPiece d k 0 [(0, .ref 45), (1, .int x1), (2, .int x2)] [] σ
  refine ov_aload_n dX4_readPiece_0 0 rfl ?_
  refine ov_geti (T := TX4) (kf := 3) dX4_readPiece_1 qf_X4_23 sh_45 rfl (Nat.le_of_ble_eq_true rfl) rfl ?_
  refine ov_br hF (fun z4 hF => ?_) (fun z4 hF => ?_)
  · refine ov_lsw 44 48 dX4_readPiece_4 (by decide) (by rw [z4]; decide) (by decide) ?_
    refine ov_aload_n dX4_readPiece_48 0 rfl ?_
    refine ov_aload_n dX4_readPiece_49 0 rfl ?_
    refine ov_callV [] dX4_readPiece_50 (c_X4_numberAhead hF) (show 0 + 1 ≤ d + 11 by omega) (Nat.le_of_ble_eq_true rfl) lk_X4_107 sh_45 rfl (Nat.le_of_ble_eq_true rfl) (Nat.le_refl _) (Nat.le_refl _) (fun rr σ19 hF => ?_)
    obtain ⟨v18, rfl, hF⟩ := hF
    show vv_X4_readPiece d k 53 [(0, .ref 45), (1, .int x1), (2, .int x2)] [.int v18, .ref 45] σ19
    refine ov_callV [.int v18] dX4_readPiece_53 (c_X4_readLeaf hF) (show 2 + 1 ≤ d + 11 by omega) (Nat.le_of_ble_eq_true rfl) lk_X4_110 sh_45 rfl (Nat.le_of_ble_eq_true rfl) (Nat.le_refl _) (Nat.le_refl _) (fun rr σ21 hF => ?_)
    obtain ⟨v20, rfl, hF⟩ := hF
    show vv_X4_readPiece d k 56 [(0, .ref 45), (1, .int x1), (2, .int x2)] [.int v20] σ21
    have h22 := hF.1
    have hF := hF.2
    exact ov_ireturn dX4_readPiece_56 (Nat.le_refl _) (Nat.le_refl _) ⟨rfl, h22, _, rfl, hF⟩
  · refine ov_br hF (fun z5 hF => ?_) (fun z5 hF => ?_)
    · refine ov_lsw 53 57 dX4_readPiece_4 (by decide) (by rw [z5]; decide) (by decide) ?_
      refine ov_aload_n dX4_readPiece_57 0 rfl ?_
      refine ov_callV [] dX4_readPiece_58 (c_X4_nameAhead hF) (show 4 + 1 ≤ d + 11 by omega) (Nat.le_of_ble_eq_true rfl) lk_X4_113 sh_45 rfl (Nat.le_of_ble_eq_true rfl) (Nat.le_refl _) (Nat.le_refl _) (fun rr σ13 hF => ?_)
      obtain ⟨v12, rfl, hF⟩ := hF
      show vv_X4_readPiece d k 61 [(0, .ref 45), (1, .int x1), (2, .int x2)] [.int v12] σ13
      refine ov_if_lt 81 dX4_readPiece_61 (by decide) hF (fun hF => ?_) (fun hF => ?_)
      · refine ov_pick [] [] rfl ?_
        exact V_X4_readPiece_81 hG_X4_readNot hG_X4_readInner σ13 hF
      · refine ov_aload_n dX4_readPiece_64 0 rfl ?_
        refine ov_iconst (-1) (by decide) dX4_readPiece_65 ?_
        refine ov_aload_n dX4_readPiece_66 0 rfl ?_
        refine ov_callV [] dX4_readPiece_67 (c_X4_nameAhead hF) (show 4 + 1 ≤ d + 11 by omega) (Nat.le_of_ble_eq_true rfl) lk_X4_113 sh_45 rfl (Nat.le_of_ble_eq_true rfl) (Nat.le_refl _) (Nat.le_refl _) (fun rr σ15 hF => ?_)
        obtain ⟨v14, rfl, hF⟩ := hF
        show vv_X4_readPiece d k 70 [(0, .ref 45), (1, .int x1), (2, .int x2)] [.int v14, .int (-1), .ref 45] σ15
        refine ov_isub dX4_readPiece_70 ?_
        refine ov_callV [.int ((-1) - v14)] dX4_readPiece_71 (c_X4_readLeaf hF) (show 2 + 1 ≤ d + 11 by omega) (Nat.le_of_ble_eq_true rfl) lk_X4_110 sh_45 rfl (Nat.le_of_ble_eq_true rfl) (Nat.le_refl _) (Nat.le_refl _) (fun rr σ17 hF => ?_)
        obtain ⟨v16, rfl, hF⟩ := hF
        show vv_X4_readPiece d k 74 [(0, .ref 45), (1, .int x1), (2, .int x2)] [.int v16] σ17
        refine ov_if_eq 81 dX4_readPiece_74 (by decide) hF (fun hF => ?_) (fun hF => ?_)
        · refine ov_pick [] [] rfl ?_
          exact V_X4_readPiece_81 hG_X4_readNot hG_X4_readInner σ17 hF
        · refine ov_iconst 1 (by decide) dX4_readPiece_77 ?_
          refine ov_goto 82 dX4_readPiece_78 (by decide) ?_
          refine ov_pick [] [] rfl ?_
          exact V_X4_readPiece_82 hG_X4_readNot hG_X4_readInner 1 σ17 hF
    · refine ov_br hF (fun z6 hF => ?_) (fun z6 hF => ?_)
      · refine ov_lsw 79 83 dX4_readPiece_4 (by decide) (by rw [z6]; decide) (by decide) ?_
        refine ov_iload_n dX4_readPiece_83 2 rfl ?_
        refine ov_bipush 8 (by decide) dX4_readPiece_84 ?_
        refine ov_icmp_ge 104 dX4_readPiece_86 (by decide) hF (fun hF => ?_) (fun hF => ?_)
        · refine ov_pick [] [] rfl ?_
          exact V_X4_readPiece_104 hG_X4_readNot hG_X4_readInner σ hF
        · refine ov_aload_n dX4_readPiece_89 0 rfl ?_
          refine ov_iload_n dX4_readPiece_90 1 rfl ?_
          refine ov_iload_n dX4_readPiece_91 2 rfl ?_
          refine ov_iconst 1 (by decide) dX4_readPiece_92 ?_
          refine ov_iadd dX4_readPiece_93 ?_
          refine ov_callV [.int x1, .int (x2 + 1)] dX4_readPiece_94 (hG_X4_readNot _ _ _ _ hF) (Nat.le_refl _) (Nat.le_of_ble_eq_true rfl) lk_X4_118 sh_45 rfl (Nat.le_of_ble_eq_true rfl) (Nat.le_refl _) (Nat.le_refl _) (fun rr σ11 hF => ?_)
          obtain ⟨v10, rfl, hF⟩ := hF
          show vv_X4_readPiece d k 97 [(0, .ref 45), (1, .int x1), (2, .int x2)] [.int v10] σ11
          refine ov_if_eq 104 dX4_readPiece_97 (by decide) hF (fun hF => ?_) (fun hF => ?_)
          · refine ov_pick [] [] rfl ?_
            exact V_X4_readPiece_104 hG_X4_readNot hG_X4_readInner σ11 hF
          · refine ov_iconst 1 (by decide) dX4_readPiece_100 ?_
            refine ov_goto 105 dX4_readPiece_101 (by decide) ?_
            refine ov_pick [] [] rfl ?_
            exact V_X4_readPiece_105 hG_X4_readNot hG_X4_readInner 1 σ11 hF
      · refine ov_br hF (fun z7 hF => ?_) (fun z7 hF => ?_)
        · refine ov_lsw 102 106 dX4_readPiece_4 (by decide) (by rw [z7]; decide) (by decide) ?_
          refine ov_iload_n dX4_readPiece_106 1 rfl ?_
          refine ov_bipush 8 (by decide) dX4_readPiece_107 ?_
          refine ov_icmp_ge 127 dX4_readPiece_109 (by decide) hF (fun hF => ?_) (fun hF => ?_)
          · refine ov_pick [] [] rfl ?_
            exact V_X4_readPiece_127 hG_X4_readNot hG_X4_readInner σ hF
          · refine ov_aload_n dX4_readPiece_112 0 rfl ?_
            refine ov_iload_n dX4_readPiece_113 1 rfl ?_
            refine ov_iconst 1 (by decide) dX4_readPiece_114 ?_
            refine ov_iadd dX4_readPiece_115 ?_
            refine ov_iload_n dX4_readPiece_116 2 rfl ?_
            refine ov_callV [.int (x1 + 1), .int x2] dX4_readPiece_117 (hG_X4_readInner _ _ _ _ hF) (Nat.le_refl _) (Nat.le_of_ble_eq_true rfl) lk_X4_121 sh_45 rfl (Nat.le_of_ble_eq_true rfl) (Nat.le_refl _) (Nat.le_refl _) (fun rr σ9 hF => ?_)
            obtain ⟨v8, rfl, hF⟩ := hF
            show vv_X4_readPiece d k 120 [(0, .ref 45), (1, .int x1), (2, .int x2)] [.int v8] σ9
            refine ov_if_eq 127 dX4_readPiece_120 (by decide) hF (fun hF => ?_) (fun hF => ?_)
            · refine ov_pick [] [] rfl ?_
              exact V_X4_readPiece_127 hG_X4_readNot hG_X4_readInner σ9 hF
            · refine ov_iconst 1 (by decide) dX4_readPiece_123 ?_
              refine ov_goto 128 dX4_readPiece_124 (by decide) ?_
              refine ov_pick [] [] rfl ?_
              exact V_X4_readPiece_128 hG_X4_readNot hG_X4_readInner 1 σ9 hF
        · refine ov_lsw 125 129 dX4_readPiece_4 (by decide) ((lv_osw (k := (-3)) z4 rfl).trans ((lv_osw (k := (-2)) z5 rfl).trans ((lv_osw (k := 33) z6 rfl).trans ((lv_osw (k := 40) z7 rfl).trans (rfl))))) (by decide) ?_
          refine ov_iconst 0 (by decide) dX4_readPiece_129 ?_
          exact ov_ireturn dX4_readPiece_130 (Nat.le_refl _) (Nat.le_refl _) ⟨rfl, ov_bl0, _, rfl, hF⟩
/-! X4_readNot -/
abbrev vv_X4_readNot (d : Nat) (k : Int32 → ovSt → Prop) (pc : Nat) (L : List (Nat × Value)) (st : List Value) (σ : ovSt) : Prop := ov_V (ovZs (d + 11) yX4_readNot cX4_readNot 4) (ovKs (some .boolean) ov_S0 (ovKi k)) (0, 0) ov_S0 pc L st σ
def F_X4_readNot (G_X4_readPiece : Int32 → Int32 → ovSt → (Int32 → ovSt → Prop) → Prop) (x1 : Int32) (x2 : Int32) (σ : ovSt) (k : Int32 → ovSt → Prop) : Prop := (F_X4_next σ (fun σ2 => (G_X4_readPiece x1 x2 σ2 (fun v3 σ4 => (F_X4_emit (-33) σ4 (fun σ6 => (ov_bl v3 ∧ (k v3 σ6))))))))
set_option maxRecDepth 100000 in
set_option maxHeartbeats 4000000 in
theorem c_X4_readNot {d : Nat} {G_X4_readPiece : Int32 → Int32 → ovSt → (Int32 → ovSt → Prop) → Prop} {x1 : Int32} {x2 : Int32} (hG_X4_readPiece : ∀ (y1 y2 : Int32) (σ : ovSt) (k : Int32 → ovSt → Prop), G_X4_readPiece y1 y2 σ k → ov_Ct (d + 10) yX4_readPiece cX4_readPiece 3 (some .boolean) ov_S0 [.ref 45, .int y1, .int y2] σ (ovKi k)) {σ : ovSt} {k : Int32 → ovSt → Prop} (hF : F_X4_readNot G_X4_readPiece x1 x2 σ k) : ov_Ct (d + 11) yX4_readNot cX4_readNot 4 (some .boolean) ov_S0 [.ref 45, .int x1, .int x2] σ (ovKi k) := by
  refine ov_Ct.of (by decide) (Nat.le_of_ble_eq_true rfl) ?_
  unfold F_X4_readNot at hF
  show vv_X4_readNot d k 0 [(0, .ref 45), (1, .int x1), (2, .int x2)] [] σ
  refine ov_aload_n dX4_readNot_0 0 rfl ?_
  refine ov_callV [] dX4_readNot_1 (c_X4_next hF) (show 1 + 1 ≤ d + 11 by omega) (Nat.le_of_ble_eq_true rfl) lk_X4_41 sh_45 rfl (Nat.le_of_ble_eq_true rfl) (Nat.le_refl _) (Nat.le_refl _) (fun rr σ2 hF => ?_)
  obtain ⟨rfl, hF⟩ := hF
  show vv_X4_readNot d k 4 [(0, .ref 45), (1, .int x1), (2, .int x2)] [] σ2
  refine ov_aload_n dX4_readNot_4 0 rfl ?_
  refine ov_iload_n dX4_readNot_5 1 rfl ?_
  refine ov_iload_n dX4_readNot_6 2 rfl ?_
  refine ov_callV [.int x1, .int x2] dX4_readNot_7 (hG_X4_readPiece _ _ _ _ hF) (Nat.le_refl _) (Nat.le_of_ble_eq_true rfl) lk_X4_104 sh_45 rfl (Nat.le_of_ble_eq_true rfl) (Nat.le_refl _) (Nat.le_refl _) (fun rr σ4 hF => ?_)
  obtain ⟨v3, rfl, hF⟩ := hF
  show vv_X4_readNot d k 10 [(0, .ref 45), (1, .int x1), (2, .int x2)] [.int v3] σ4
  refine ov_istore_n dX4_readNot_10 (Nat.le_of_ble_eq_true rfl) [(3, .int v3), (0, .ref 45), (1, .int x1), (2, .int x2)] rfl ?_
  refine ov_aload_n dX4_readNot_11 1 rfl ?_
  refine ov_bipush (-33) (by decide) dX4_readNot_12 ?_
  refine ov_callV [.int (-33)] dX4_readNot_14 (c_X4_emit hF) (show 0 + 1 ≤ d + 11 by omega) (Nat.le_of_ble_eq_true rfl) lk_X4_91 sh_45 rfl (Nat.le_of_ble_eq_true rfl) (Nat.le_refl _) (Nat.le_refl _) (fun rr σ6 hF => ?_)
  obtain ⟨rfl, hF⟩ := hF
  show vv_X4_readNot d k 17 [(3, .int v3), (0, .ref 45), (1, .int x1), (2, .int x2)] [] σ6
  refine ov_iload_n dX4_readNot_17 0 rfl ?_
  have h7 := hF.1
  have hF := hF.2
  exact ov_ireturn dX4_readNot_18 (Nat.le_refl _) (Nat.le_refl _) ⟨rfl, h7, _, rfl, hF⟩
/-! X4_readInner -/
abbrev vv_X4_readInner (d : Nat) (k : Int32 → ovSt → Prop) (pc : Nat) (L : List (Nat × Value)) (st : List Value) (σ : ovSt) : Prop := ov_V (ovZs (d + 11) yX4_readInner cX4_readInner 3) (ovKs (some .boolean) ov_S0 (ovKi k)) (0, 0) ov_S0 pc L st σ
def F_X4_readInner_22 (G_X4_readOr : Int32 → Int32 → ovSt → (Int32 → ovSt → Prop) → Prop) (k : Int32 → ovSt → Prop) (σ : ovSt) : Prop := (k 0 σ)
set_option maxRecDepth 100000 in
set_option maxHeartbeats 4000000 in
theorem V_X4_readInner_22 {k : Int32 → ovSt → Prop} {d : Nat} {G_X4_readOr : Int32 → Int32 → ovSt → (Int32 → ovSt → Prop) → Prop} (hG_X4_readOr : ∀ (y1 y2 : Int32) (σ : ovSt) (k : Int32 → ovSt → Prop), G_X4_readOr y1 y2 σ k → ov_Ct (d + 10) yX4_readOr cX4_readOr 5 (some .boolean) ov_S0 [.ref 45, .int y1, .int y2] σ (ovKi k)) (σ : ovSt) (hF : F_X4_readInner_22 G_X4_readOr k σ) : vv_X4_readInner d k 22 [] [] σ := by
  unfold F_X4_readInner_22 at hF
  refine ov_iconst 0 (by decide) dX4_readInner_22 ?_
  exact ov_ireturn dX4_readInner_23 (Nat.le_refl _) (Nat.le_refl _) ⟨rfl, ov_bl0, _, rfl, hF⟩
def F_X4_readInner (G_X4_readOr : Int32 → Int32 → ovSt → (Int32 → ovSt → Prop) → Prop) (x1 : Int32) (x2 : Int32) (σ : ovSt) (k : Int32 → ovSt → Prop) : Prop := (F_X4_next σ (fun σ2 => (G_X4_readOr x1 x2 σ2 (fun v3 σ4 => (if v3 = 0 then (F_X4_readInner_22 G_X4_readOr k σ4) else (if (σ4 45 3) = (41 : Int32) then (F_X4_next σ4 (fun σ6 => (k 1 σ6))) else (F_X4_readInner_22 G_X4_readOr k σ4)))))))
set_option maxRecDepth 100000 in
set_option maxHeartbeats 4000000 in
theorem c_X4_readInner {d : Nat} {G_X4_readOr : Int32 → Int32 → ovSt → (Int32 → ovSt → Prop) → Prop} {x1 : Int32} {x2 : Int32} (hG_X4_readOr : ∀ (y1 y2 : Int32) (σ : ovSt) (k : Int32 → ovSt → Prop), G_X4_readOr y1 y2 σ k → ov_Ct (d + 10) yX4_readOr cX4_readOr 5 (some .boolean) ov_S0 [.ref 45, .int y1, .int y2] σ (ovKi k)) {σ : ovSt} {k : Int32 → ovSt → Prop} (hF : F_X4_readInner G_X4_readOr x1 x2 σ k) : ov_Ct (d + 11) yX4_readInner cX4_readInner 3 (some .boolean) ov_S0 [.ref 45, .int x1, .int x2] σ (ovKi k) := by
  refine ov_Ct.of (by decide) (Nat.le_of_ble_eq_true rfl) ?_
  unfold F_X4_readInner at hF
  show vv_X4_readInner d k 0 [(0, .ref 45), (1, .int x1), (2, .int x2)] [] σ
  refine ov_aload_n dX4_readInner_0 0 rfl ?_
  refine ov_callV [] dX4_readInner_1 (c_X4_next hF) (show 1 + 1 ≤ d + 11 by omega) (Nat.le_of_ble_eq_true rfl) lk_X4_41 sh_45 rfl (Nat.le_of_ble_eq_true rfl) (Nat.le_refl _) (Nat.le_refl _) (fun rr σ2 hF => ?_)
  obtain ⟨rfl, hF⟩ := hF
  show vv_X4_readInner d k 4 [(0, .ref 45), (1, .int x1), (2, .int x2)] [] σ2
  refine ov_aload_n dX4_readInner_4 0 rfl ?_
  refine ov_iload_n dX4_readInner_5 1 rfl ?_
  refine ov_iload_n dX4_readInner_6 2 rfl ?_
  refine ov_callV [.int x1, .int x2] dX4_readInner_7 (hG_X4_readOr _ _ _ _ hF) (Nat.le_refl _) (Nat.le_of_ble_eq_true rfl) lk_X4_48 sh_45 rfl (Nat.le_of_ble_eq_true rfl) (Nat.le_refl _) (Nat.le_refl _) (fun rr σ4 hF => ?_)
  obtain ⟨v3, rfl, hF⟩ := hF
  show vv_X4_readInner d k 10 [(0, .ref 45), (1, .int x1), (2, .int x2)] [.int v3] σ4
  refine ov_if_eq 22 dX4_readInner_10 (by decide) hF (fun hF => ?_) (fun hF => ?_)
  · refine ov_pick [] [] rfl ?_
    exact V_X4_readInner_22 hG_X4_readOr σ4 hF
  · refine ov_aload_n dX4_readInner_13 0 rfl ?_
    refine ov_geti (T := TX4) (kf := 3) dX4_readInner_14 qf_X4_23 sh_45 rfl (Nat.le_of_ble_eq_true rfl) rfl ?_
    refine ov_bipush 41 (by decide) dX4_readInner_17 ?_
    refine ov_icmp_eq 24 dX4_readInner_19 (by decide) hF (fun hF => ?_) (fun hF => ?_)
    · refine ov_aload_n dX4_readInner_24 0 rfl ?_
      refine ov_callV [] dX4_readInner_25 (c_X4_next hF) (show 1 + 1 ≤ d + 11 by omega) (Nat.le_of_ble_eq_true rfl) lk_X4_41 sh_45 rfl (Nat.le_of_ble_eq_true rfl) (Nat.le_refl _) (Nat.le_refl _) (fun rr σ6 hF => ?_)
      obtain ⟨rfl, hF⟩ := hF
      show vv_X4_readInner d k 28 [(0, .ref 45), (1, .int x1), (2, .int x2)] [] σ6
      refine ov_iconst 1 (by decide) dX4_readInner_28 ?_
      exact ov_ireturn dX4_readInner_29 (Nat.le_refl _) (Nat.le_refl _) ⟨rfl, ov_bl1, _, rfl, hF⟩
    · refine ov_pick [] [] rfl ?_
      exact V_X4_readInner_22 hG_X4_readOr σ4 hF
/-! the group: a depth that falls with each call -/
def FR : Nat → Nat → Int32 → Int32 → ovSt → (Int32 → ovSt → Prop) → Prop
  | 0, _ => fun _ _ _ _ => False
  | n + 1, 0 => fun x y σ k => F_X4_readOr (FR n 1) x y σ k
  | n + 1, 1 => fun x y σ k => F_X4_readAnd (FR n 2) x y σ k
  | n + 1, 2 => fun x y σ k => F_X4_readTest (FR n 3) x y σ k
  | n + 1, 3 => fun x y σ k => F_X4_readSum (FR n 4) x y σ k
  | n + 1, 4 => fun x y σ k => F_X4_readTerm (FR n 5) x y σ k
  | n + 1, 5 => fun x y σ k => F_X4_readPiece (FR n 6) (FR n 7) x y σ k
  | n + 1, 6 => fun x y σ k => F_X4_readNot (FR n 5) x y σ k
  | n + 1, 7 => fun x y σ k => F_X4_readInner (FR n 0) x y σ k
  | _ + 1, _ + 8 => fun _ _ _ _ => False
set_option maxRecDepth 100000 in
set_option maxHeartbeats 4000000 in
theorem c_FR : ∀ (n : Nat), (∀ (x y : Int32) (σ : ovSt) (k : Int32 → ovSt → Prop), FR n 0 x y σ k → ov_Ct (n + 10) yX4_readOr cX4_readOr 5 (some .boolean) ov_S0 [.ref 45, .int x, .int y] σ (ovKi k)) ∧  (∀ (x y : Int32) (σ : ovSt) (k : Int32 → ovSt → Prop), FR n 1 x y σ k → ov_Ct (n + 10) yX4_readAnd cX4_readAnd 5 (some .boolean) ov_S0 [.ref 45, .int x, .int y] σ (ovKi k)) ∧  (∀ (x y : Int32) (σ : ovSt) (k : Int32 → ovSt → Prop), FR n 2 x y σ k → ov_Ct (n + 10) yX4_readTest cX4_readTest 5 (some .boolean) ov_S0 [.ref 45, .int x, .int y] σ (ovKi k)) ∧  (∀ (x y : Int32) (σ : ovSt) (k : Int32 → ovSt → Prop), FR n 3 x y σ k → ov_Ct (n + 10) yX4_readSum cX4_readSum 6 (some .boolean) ov_S0 [.ref 45, .int x, .int y] σ (ovKi k)) ∧  (∀ (x y : Int32) (σ : ovSt) (k : Int32 → ovSt → Prop), FR n 4 x y σ k → ov_Ct (n + 10) yX4_readTerm cX4_readTerm 6 (some .boolean) ov_S0 [.ref 45, .int x, .int y] σ (ovKi k)) ∧  (∀ (x y : Int32) (σ : ovSt) (k : Int32 → ovSt → Prop), FR n 5 x y σ k → ov_Ct (n + 10) yX4_readPiece cX4_readPiece 3 (some .boolean) ov_S0 [.ref 45, .int x, .int y] σ (ovKi k)) ∧  (∀ (x y : Int32) (σ : ovSt) (k : Int32 → ovSt → Prop), FR n 6 x y σ k → ov_Ct (n + 10) yX4_readNot cX4_readNot 4 (some .boolean) ov_S0 [.ref 45, .int x, .int y] σ (ovKi k)) ∧  (∀ (x y : Int32) (σ : ovSt) (k : Int32 → ovSt → Prop), FR n 7 x y σ k → ov_Ct (n + 10) yX4_readInner cX4_readInner 3 (some .boolean) ov_S0 [.ref 45, .int x, .int y] σ (ovKi k)) := by
  intro n
  induction n with
  | zero => exact ⟨fun _ _ _ _ h => h.elim, fun _ _ _ _ h => h.elim, fun _ _ _ _ h => h.elim, fun _ _ _ _ h => h.elim, fun _ _ _ _ h => h.elim, fun _ _ _ _ h => h.elim, fun _ _ _ _ h => h.elim, fun _ _ _ _ h => h.elim⟩
  | succ n ih =>
    obtain ⟨i0, i1, i2, i3, i4, i5, i6, i7⟩ := ih
    refine ⟨fun x y σ k h => c_X4_readOr (d := n) i1 h, fun x y σ k h => c_X4_readAnd (d := n) i2 h, fun x y σ k h => c_X4_readTest (d := n) i3 h, fun x y σ k h => c_X4_readSum (d := n) i4 h, fun x y σ k h => c_X4_readTerm (d := n) i5 h, fun x y σ k h => c_X4_readPiece (d := n) i6 i7 h, fun x y σ k h => c_X4_readNot (d := n) i5 h, fun x y σ k h => c_X4_readInner (d := n) i0 h⟩
abbrev F_X4_readOr0 : Int32 → Int32 → ovSt → (Int32 → ovSt → Prop) → Prop := FR 100 0
theorem c_X4_readOr0 {x y : Int32} {σ : ovSt} {k : Int32 → ovSt → Prop} (h : F_X4_readOr0 x y σ k) : ov_Ct 110 yX4_readOr cX4_readOr 5 (some .boolean) ov_S0 [.ref 45, .int x, .int y] σ (ovKi k) := (c_FR 100).1 x y σ k h
