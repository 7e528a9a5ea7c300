/-! X6_in -/
abbrev vv_X6_in (k : Int32 → ovSt → Prop) (pc : Nat) (L : List (Nat × Value)) (st : List Value) (σ : ovSt) : Prop := ov_V (ovZs 0 yX6_in cX6_in 3) (ovKs (some .boolean) ov_S0 (ovKi k)) (0, 0) ov_S0 pc L st σ
def F_X6_in_15 (k : Int32 → ovSt → Prop) (t0 : Int32) (σ : ovSt) : Prop := (ov_bl t0 ∧ (k t0 σ))
set_option maxRecDepth 100000 in
set_option maxHeartbeats 4000000 in
theorem V_X6_in_15 {k : Int32 → ovSt → Prop} (t0 : Int32) (σ : ovSt) (hF : F_X6_in_15 k t0 σ) : vv_X6_in k 15 [] [.int t0] σ := by
  unfold F_X6_in_15 at hF
  have h1 := hF.1
  have hF := hF.2
  exact ov_ireturn dX6_in_15 (Nat.le_refl _) (Nat.le_refl _) ⟨rfl, h1, _, rfl, hF⟩
def F_X6_in_14 (k : Int32 → ovSt → Prop) (σ : ovSt) : Prop := (F_X6_in_15 k 0 σ)
set_option maxRecDepth 100000 in
set_option maxHeartbeats 4000000 in
theorem V_X6_in_14 {k : Int32 → ovSt → Prop} (σ : ovSt) (hF : F_X6_in_14 k σ) : vv_X6_in k 14 [] [] σ := by
  unfold F_X6_in_14 at hF
  refine ov_iconst 0 (by decide) dX6_in_14 ?_
  exact V_X6_in_15 0 σ hF
def F_X6_in (x0 : Int32) (x1 : Int32) (x2 : Int32) (σ : ovSt) (k : Int32 → ovSt → Prop) : Prop := (if x0 < x1 then (F_X6_in_14 k σ) else (if x2 < x0 then (F_X6_in_14 k σ) else (F_X6_in_15 k 1 σ)))
set_option maxRecDepth 100000 in
set_option maxHeartbeats 4000000 in
theorem c_X6_in {x0 : Int32} {x1 : Int32} {x2 : Int32} {σ : ovSt} {k : Int32 → ovSt → Prop} (hF : F_X6_in x0 x1 x2 σ k) : ov_Ct 0 yX6_in cX6_in 3 (some .boolean) ov_S0 [.int x0, .int x1, .int x2] σ (ovKi k) := by
  refine ov_Ct.of (by decide) (Nat.le_of_ble_eq_true rfl) ?_
  unfold F_X6_in at hF
  show vv_X6_in k 0 [(0, .int x0), (1, .int x1), (2, .int x2)] [] σ
  refine ov_iload_n dX6_in_0 0 rfl ?_
  refine ov_iload_n dX6_in_1 1 rfl ?_
  refine ov_icmp_lt 14 dX6_in_2 (by decide) hF (fun hF => ?_) (fun hF => ?_)
  · refine ov_pick [] [] rfl ?_
    exact V_X6_in_14 σ hF
  · refine ov_iload_n dX6_in_5 0 rfl ?_
    refine ov_iload_n dX6_in_6 2 rfl ?_
    refine ov_icmp_gt 14 dX6_in_7 (by decide) hF (fun hF => ?_) (fun hF => ?_)
    · refine ov_pick [] [] rfl ?_
      exact V_X6_in_14 σ hF
    · refine ov_iconst 1 (by decide) dX6_in_10 ?_
      refine ov_goto 15 dX6_in_11 (by decide) ?_
      refine ov_pick [] [] rfl ?_
      exact V_X6_in_15 1 σ hF
/-! X6_within -/
abbrev vv_X6_within (k : Int32 → ovSt → Prop) (pc : Nat) (L : List (Nat × Value)) (st : List Value) (σ : ovSt) : Prop := ov_V (ovZs 0 yX6_within cX6_within 3) (ovKs (some .int) ov_S0 (ovKi k)) (0, 0) ov_S0 pc L st σ
def F_X6_within_19 (k : Int32 → ovSt → Prop) (t0 : Int32) (σ : ovSt) : Prop := (k t0 σ)
set_option maxRecDepth 100000 in
set_option maxHeartbeats 4000000 in
theorem V_X6_within_19 {k : Int32 → ovSt → Prop} (t0 : Int32) (σ : ovSt) (hF : F_X6_within_19 k t0 σ) : vv_X6_within k 19 [] [.int t0] σ := by
  unfold F_X6_within_19 at hF
  exact ov_ireturn dX6_within_19 (Nat.le_refl _) (Nat.le_refl _) ⟨rfl, trivial, _, rfl, hF⟩
def F_X6_within (x0 : Int32) (x1 : Int32) (x2 : Int32) (σ : ovSt) (k : Int32 → ovSt → Prop) : Prop := (if x1 ≤ x0 then (if x0 ≤ x2 then (F_X6_within_19 k x0 σ) else (F_X6_within_19 k x2 σ)) else (F_X6_within_19 k x1 σ))
set_option maxRecDepth 100000 in
set_option maxHeartbeats 4000000 in
theorem c_X6_within {x0 : Int32} {x1 : Int32} {x2 : Int32} {σ : ovSt} {k : Int32 → ovSt → Prop} (hF : F_X6_within x0 x1 x2 σ k) : ov_Ct 0 yX6_within cX6_within 3 (some .int) ov_S0 [.int x0, .int x1, .int x2] σ (ovKi k) := by
  refine ov_Ct.of (by decide) (Nat.le_of_ble_eq_true rfl) ?_
  unfold F_X6_within at hF
  show vv_X6_within k 0 [(0, .int x0), (1, .int x1), (2, .int x2)] [] σ
  refine ov_iload_n dX6_within_0 0 rfl ?_
  refine ov_iload_n dX6_within_1 1 rfl ?_
  refine ov_icmp_ge 9 dX6_within_2 (by decide) hF (fun hF => ?_) (fun hF => ?_)
  · refine ov_iload_n dX6_within_9 0 rfl ?_
    refine ov_iload_n dX6_within_10 2 rfl ?_
    refine ov_icmp_le 18 dX6_within_11 (by decide) hF (fun hF => ?_) (fun hF => ?_)
    · refine ov_iload_n dX6_within_18 0 rfl ?_
      refine ov_pick [] [] rfl ?_
      exact V_X6_within_19 x0 σ hF
    · refine ov_iload_n dX6_within_14 2 rfl ?_
      refine ov_goto 19 dX6_within_15 (by decide) ?_
      refine ov_pick [] [] rfl ?_
      exact V_X6_within_19 x2 σ hF
  · refine ov_iload_n dX6_within_5 1 rfl ?_
    refine ov_goto 19 dX6_within_6 (by decide) ?_
    refine ov_pick [] [] rfl ?_
    exact V_X6_within_19 x1 σ hF
/-! X6_copyAll -/
abbrev vv_X6_copyAll (k : ovSt → Prop) (pc : Nat) (L : List (Nat × Value)) (st : List Value) (σ : ovSt) : Prop := ov_V (ovZs 0 yX6_copyAll cX6_copyAll 3) (ovKs none ov_S0 (ovKv k)) (0, 0) ov_S0 pc L st σ
def F_X6_copyAll_2 (a0 : Nat) (a1 : Nat) (k : ovSt → Prop) : Nat → Int32 → ovSt → Prop
  | 0 => fun _ _ => False
  | n + 1 => fun x2 σ => (if (1412 : Int32) ≤ x2 then (k σ) else (vp_in x2 1412 ∧ (∀ σ2 : ovSt, σ2 = ov_up σ a1 (Int32.toNatClampNeg x2) (σ a0 (Int32.toNatClampNeg x2)) → F_X6_copyAll_2 a0 a1 k n (x2 + 1) σ2)))
set_option maxRecDepth 100000 in
set_option maxHeartbeats 4000000 in
theorem V_X6_copyAll_2 {k : ovSt → Prop} {a0 : Nat} {a1 : Nat} (ha0 : ov_S0[a0]? = some (9, 1412, [])) (ha1 : ov_S0[a1]? = some (9, 1412, [])) : ∀ (n : Nat) (x2 : Int32) (σ : ovSt), F_X6_copyAll_2 a0 a1 k n x2 σ → vv_X6_copyAll k 2 [(0, .ref a0), (1, .ref a1), (2, .int x2)] [] σ := by
  intro n
  induction n with
  | zero => intro x2 σ hF; exact hF.elim
  | succ n ih =>
    intro x2 σ hF
    unfold F_X6_copyAll_2 at hF
    refine ov_iload_n dX6_copyAll_2 2 rfl ?_
    refine ov_sipush 1412 (by decide) dX6_copyAll_3 ?_
    refine ov_icmp_ge 21 dX6_copyAll_6 (by decide) hF (fun hF => ?_) (fun hF => ?_)
    · exact ov_return dX6_copyAll_21 (Nat.le_refl _) (Nat.le_refl _) ⟨rfl, trivial, rfl, hF⟩
    · refine ov_aload_n dX6_copyAll_9 1 rfl ?_
      refine ov_iload_n dX6_copyAll_10 2 rfl ?_
      refine ov_aload_n dX6_copyAll_11 0 rfl ?_
      refine ov_iload_n dX6_copyAll_12 2 rfl ?_
      have h1 := hF.1
      have hF := hF.2
      refine ov_iaload dX6_copyAll_13 ha0 h1 ?_
      refine ov_iastore dX6_copyAll_14 ha1 h1 ?_
      refine ov_nmS (fun σ2 es2 => ?_)
      have hF := hF σ2 es2
      refine ov_iinc dX6_copyAll_15 2 rfl (x2 + 1) rfl (Nat.le_of_ble_eq_true rfl) [(2, .int (x2 + 1)), (0, .ref a0), (1, .ref a1)] rfl ?_
      refine ov_goto 2 dX6_copyAll_18 (by decide) ?_
      refine ov_pick [1, 2, 0] [(0, .ref a0), (1, .ref a1), (2, .int (x2 + 1))] rfl ?_
      exact ih (x2 + 1) σ2 hF
def F_X6_copyAll (a0 : Nat) (a1 : Nat) (σ : ovSt) (k : ovSt → Prop) : Prop := (ov_S0[a0]? = some (9, 1412, []) ∧ (ov_S0[a1]? = some (9, 1412, []) ∧ (∃ n3, F_X6_copyAll_2 a0 a1 k n3 0 σ)))
set_option maxRecDepth 100000 in
set_option maxHeartbeats 4000000 in
theorem c_X6_copyAll {a0 : Nat} {a1 : Nat} {σ : ovSt} {k : ovSt → Prop} (hF : F_X6_copyAll a0 a1 σ k) : ov_Ct 0 yX6_copyAll cX6_copyAll 3 none ov_S0 [.ref a0, .ref a1] σ (ovKv k) := by
  refine ov_Ct.of (by decide) (Nat.le_of_ble_eq_true rfl) ?_
  unfold F_X6_copyAll at hF
  have ha0 := hF.1
  have hF := hF.2
  have ha1 := hF.1
  have hF := hF.2
  show vv_X6_copyAll k 0 [(0, .ref a0), (1, .ref a1)] [] σ
  refine ov_iconst 0 (by decide) dX6_copyAll_0 ?_
  refine ov_istore_n dX6_copyAll_1 (Nat.le_of_ble_eq_true rfl) [(2, .int 0), (0, .ref a0), (1, .ref a1)] rfl ?_
  refine ov_pick [1, 2, 0] [(0, .ref a0), (1, .ref a1), (2, .int 0)] rfl ?_
  obtain ⟨n3, hF⟩ := hF
  exact V_X6_copyAll_2 ha0 ha1 n3 0 σ hF
/-! X6_off -/
abbrev vv_X6_off (k : Int32 → ovSt → Prop) (pc : Nat) (L : List (Nat × Value)) (st : List Value) (σ : ovSt) : Prop := ov_V (ovZs 0 yX6_off cX6_off 2) (ovKs (some .int) ov_S0 (ovKi k)) (0, 0) ov_S0 pc L st σ
def F_X6_off_14 (k : Int32 → ovSt → Prop) (t0 : Int32) (σ : ovSt) : Prop := (k t0 σ)
set_option maxRecDepth 100000 in
set_option maxHeartbeats 4000000 in
theorem V_X6_off_14 {k : Int32 → ovSt → Prop} (t0 : Int32) (σ : ovSt) (hF : F_X6_off_14 k t0 σ) : vv_X6_off k 14 [] [.int t0] σ := by
  unfold F_X6_off_14 at hF
  exact ov_ireturn dX6_off_14 (Nat.le_refl _) (Nat.le_refl _) ⟨rfl, trivial, _, rfl, hF⟩
def F_X6_off (x0 : Int32) (x1 : Int32) (σ : ovSt) (k : Int32 → ovSt → Prop) : Prop := (if x1 ≤ x0 then (F_X6_off_14 k (x0 - x1) σ) else (F_X6_off_14 k (x1 - x0) σ))
set_option maxRecDepth 100000 in
set_option maxHeartbeats 4000000 in
theorem c_X6_off {x0 : Int32} {x1 : Int32} {σ : ovSt} {k : Int32 → ovSt → Prop} (hF : F_X6_off x0 x1 σ k) : ov_Ct 0 yX6_off cX6_off 2 (some .int) ov_S0 [.int x0, .int x1] σ (ovKi k) := by
  refine ov_Ct.of (by decide) (Nat.le_of_ble_eq_true rfl) ?_
  unfold F_X6_off at hF
  show vv_X6_off k 0 [(0, .int x0), (1, .int x1)] [] σ
  refine ov_iload_n dX6_off_0 0 rfl ?_
  refine ov_iload_n dX6_off_1 1 rfl ?_
  refine ov_icmp_ge 11 dX6_off_2 (by decide) hF (fun hF => ?_) (fun hF => ?_)
  · refine ov_iload_n dX6_off_11 0 rfl ?_
    refine ov_iload_n dX6_off_12 1 rfl ?_
    refine ov_isub dX6_off_13 ?_
    refine ov_pick [] [] rfl ?_
    exact V_X6_off_14 (x0 - x1) σ hF
  · refine ov_iload_n dX6_off_5 1 rfl ?_
    refine ov_iload_n dX6_off_6 0 rfl ?_
    refine ov_isub dX6_off_7 ?_
    refine ov_goto 14 dX6_off_8 (by decide) ?_
    refine ov_pick [] [] rfl ?_
    exact V_X6_off_14 (x1 - x0) σ hF
/-! X6_isThing -/
abbrev vv_X6_isThing (k : Int32 → ovSt → Prop) (pc : Nat) (L : List (Nat × Value)) (st : List Value) (σ : ovSt) : Prop := ov_V (ovZs 1 yX6_isThing cX6_isThing 2) (ovKs (some .boolean) ov_S0 (ovKi k)) (0, 0) ov_S0 pc L st σ
def F_X6_isThing (x1 : Int32) (σ : ovSt) (k : Int32 → ovSt → Prop) : Prop := (vp_in 1 1412 ∧ (F_X6_in x1 0 ((σ 75 (Int32.toNatClampNeg 1)) - 1) σ (fun v2 σ3 => (ov_bl v2 ∧ (k v2 σ3)))))
set_option maxRecDepth 100000 in
set_option maxHeartbeats 4000000 in
theorem c_X6_isThing {x1 : Int32} {σ : ovSt} {k : Int32 → ovSt → Prop} (hF : F_X6_isThing x1 σ k) : ov_Ct 1 yX6_isThing cX6_isThing 2 (some .boolean) ov_S0 [.ref 74, .int x1] σ (ovKi k) := by
  refine ov_Ct.of (by decide) (Nat.le_of_ble_eq_true rfl) ?_
  unfold F_X6_isThing at hF
  show vv_X6_isThing k 0 [(0, .ref 74), (1, .int x1)] [] σ
  refine ov_iload_n dX6_isThing_0 1 rfl ?_
  refine ov_iconst 0 (by decide) dX6_isThing_1 ?_
  refine ov_aload_n dX6_isThing_2 0 rfl ?_
  refine ov_getr (T := TX6) (kf := 0) dX6_isThing_3 qf_X6_9 sh_74 rfl (Nat.le_of_ble_eq_true rfl) rfl (by decide) ?_
  refine ov_iconst 1 (by decide) dX6_isThing_6 ?_
  have h1 := hF.1
  have hF := hF.2
  refine ov_iaload dX6_isThing_7 sh_75 h1 ?_
  refine ov_iconst 1 (by decide) dX6_isThing_8 ?_
  refine ov_isub dX6_isThing_9 ?_
  refine ov_callS [.int x1, .int 0, .int ((σ 75 (Int32.toNatClampNeg 1)) - 1)] dX6_isThing_10 (c_X6_in hF) (Nat.le_of_ble_eq_true rfl) (Nat.le_of_ble_eq_true rfl) lk_X6_82 (Nat.le_of_ble_eq_true rfl) (Nat.le_refl _) (Nat.le_refl _) (fun rr σ3 hF => ?_)
  obtain ⟨v2, rfl, hF⟩ := hF
  show vv_X6_isThing k 13 [(0, .ref 74), (1, .int x1)] [.int v2] σ3
  have h4 := hF.1
  have hF := hF.2
  exact ov_ireturn dX6_isThing_13 (Nat.le_refl _) (Nat.le_refl _) ⟨rfl, h4, _, rfl, hF⟩
/-! X6_of -/
abbrev vv_X6_of (k : Int32 → ovSt → Prop) (pc : Nat) (L : List (Nat × Value)) (st : List Value) (σ : ovSt) : Prop := ov_V (ovZs 0 yX6_of cX6_of 3) (ovKs (some .int) ov_S0 (ovKi k)) (0, 0) ov_S0 pc L st σ
def F_X6_of (x1 : Int32) (x2 : Int32) (σ : ovSt) (k : Int32 → ovSt → Prop) : Prop := (vp_in ((8 + (4 * x1)) + x2) 1412 ∧ (k (σ 75 (Int32.toNatClampNeg ((8 + (4 * x1)) + x2))) σ))
set_option maxRecDepth 100000 in
set_option maxHeartbeats 4000000 in
theorem c_X6_of {x1 : Int32} {x2 : Int32} {σ : ovSt} {k : Int32 → ovSt → Prop} (hF : F_X6_of x1 x2 σ k) : ov_Ct 0 yX6_of cX6_of 3 (some .int) ov_S0 [.ref 74, .int x1, .int x2] σ (ovKi k) := by
  refine ov_Ct.of (by decide) (Nat.le_of_ble_eq_true rfl) ?_
  unfold F_X6_of at hF
  show vv_X6_of k 0 [(0, .ref 74), (1, .int x1), (2, .int x2)] [] σ
  refine ov_aload_n dX6_of_0 0 rfl ?_
  refine ov_getr (T := TX6) (kf := 0) dX6_of_1 qf_X6_9 sh_74 rfl (Nat.le_of_ble_eq_true rfl) rfl (by decide) ?_
  refine ov_bipush 8 (by decide) dX6_of_4 ?_
  refine ov_iconst 4 (by decide) dX6_of_6 ?_
  refine ov_iload_n dX6_of_7 1 rfl ?_
  refine ov_imul dX6_of_8 ?_
  refine ov_iadd dX6_of_9 ?_
  refine ov_iload_n dX6_of_10 2 rfl ?_
  refine ov_iadd dX6_of_11 ?_
  have h1 := hF.1
  have hF := hF.2
  refine ov_iaload dX6_of_12 sh_75 h1 ?_
  exact ov_ireturn dX6_of_13 (Nat.le_refl _) (Nat.le_refl _) ⟨rfl, trivial, _, rfl, hF⟩
/-! X6_put -/
abbrev vv_X6_put (k : ovSt → Prop) (pc : Nat) (L : List (Nat × Value)) (st : List Value) (σ : ovSt) : Prop := ov_V (ovZs 0 yX6_put cX6_put 4) (ovKs none ov_S0 (ovKv k)) (0, 0) ov_S0 pc L st σ
def F_X6_put (x1 : Int32) (x2 : Int32) (x3 : Int32) (σ : ovSt) (k : ovSt → Prop) : Prop := (vp_in ((8 + (4 * x1)) + x2) 1412 ∧ (∀ σ2 : ovSt, σ2 = ov_up σ 75 (Int32.toNatClampNeg ((8 + (4 * x1)) + x2)) x3 → (k σ2)))
set_option maxRecDepth 100000 in
set_option maxHeartbeats 4000000 in
theorem c_X6_put {x1 : Int32} {x2 : Int32} {x3 : Int32} {σ : ovSt} {k : ovSt → Prop} (hF : F_X6_put x1 x2 x3 σ k) : ov_Ct 0 yX6_put cX6_put 4 none ov_S0 [.ref 74, .int x1, .int x2, .int x3] σ (ovKv k) := by
  refine ov_Ct.of (by decide) (Nat.le_of_ble_eq_true rfl) ?_
  unfold F_X6_put at hF
  show vv_X6_put k 0 [(0, .ref 74), (1, .int x1), (2, .int x2), (3, .int x3)] [] σ
  refine ov_aload_n dX6_put_0 0 rfl ?_
  refine ov_getr (T := TX6) (kf := 0) dX6_put_1 qf_X6_9 sh_74 rfl (Nat.le_of_ble_eq_true rfl) rfl (by decide) ?_
  refine ov_bipush 8 (by decide) dX6_put_4 ?_
  refine ov_iconst 4 (by decide) dX6_put_6 ?_
  refine ov_iload_n dX6_put_7 1 rfl ?_
  refine ov_imul dX6_put_8 ?_
  refine ov_iadd dX6_put_9 ?_
  refine ov_iload_n dX6_put_10 2 rfl ?_
  refine ov_iadd dX6_put_11 ?_
  refine ov_iload_n dX6_put_12 3 rfl ?_
  have h1 := hF.1
  have hF := hF.2
  refine ov_iastore dX6_put_13 sh_75 h1 ?_
  refine ov_nmS (fun σ2 es2 => ?_)
  have hF := hF σ2 es2
  exact ov_return dX6_put_14 (Nat.le_refl _) (Nat.le_refl _) ⟨rfl, trivial, rfl, hF⟩
/-! X6_becomes -/
abbrev vv_X6_becomes (k : Int32 → ovSt → Prop) (pc : Nat) (L : List (Nat × Value)) (st : List Value) (σ : ovSt) : Prop := ov_V (ovZs 0 yX6_becomes cX6_becomes 4) (ovKs (some .int) ov_S0 (ovKi k)) (0, 0) ov_S0 pc L st σ
def F_X6_becomes (x1 : Int32) (x2 : Int32) (σ : ovSt) (k : Int32 → ovSt → Prop) : Prop := (vp_in x1 1412 ∧ (∀ v2 : Int32, v2 = (σ 75 (Int32.toNatClampNeg x1)) → (∀ σ3 : ovSt, σ3 = ov_up σ 75 (Int32.toNatClampNeg x1) x2 → (k v2 σ3))))
set_option maxRecDepth 100000 in
set_option maxHeartbeats 4000000 in
theorem c_X6_becomes {x1 : Int32} {x2 : Int32} {σ : ovSt} {k : Int32 → ovSt → Prop} (hF : F_X6_becomes x1 x2 σ k) : ov_Ct 0 yX6_becomes cX6_becomes 4 (some .int) ov_S0 [.ref 74, .int x1, .int x2] σ (ovKi k) := by
  refine ov_Ct.of (by decide) (Nat.le_of_ble_eq_true rfl) ?_
  unfold F_X6_becomes at hF
  show vv_X6_becomes k 0 [(0, .ref 74), (1, .int x1), (2, .int x2)] [] σ
  refine ov_aload_n dX6_becomes_0 0 rfl ?_
  refine ov_getr (T := TX6) (kf := 0) dX6_becomes_1 qf_X6_9 sh_74 rfl (Nat.le_of_ble_eq_true rfl) rfl (by decide) ?_
  refine ov_iload_n dX6_becomes_4 1 rfl ?_
  have h1 := hF.1
  have hF := hF.2
  refine ov_iaload dX6_becomes_5 sh_75 h1 ?_
  refine ov_nmI (fun v2 ev2 => ?_)
  have hF := hF v2 ev2
  refine ov_istore_n dX6_becomes_6 (Nat.le_of_ble_eq_true rfl) [(3, .int v2), (0, .ref 74), (1, .int x1), (2, .int x2)] rfl ?_
  refine ov_aload_n dX6_becomes_7 1 rfl ?_
  refine ov_getr (T := TX6) (kf := 0) dX6_becomes_8 qf_X6_9 sh_74 rfl (Nat.le_of_ble_eq_true rfl) rfl (by decide) ?_
  refine ov_iload_n dX6_becomes_11 2 rfl ?_
  refine ov_iload_n dX6_becomes_12 3 rfl ?_
  refine ov_iastore dX6_becomes_13 sh_75 h1 ?_
  refine ov_nmS (fun σ3 es3 => ?_)
  have hF := hF σ3 es3
  refine ov_iload_n dX6_becomes_14 0 rfl ?_
  exact ov_ireturn dX6_becomes_15 (Nat.le_refl _) (Nat.le_refl _) ⟨rfl, trivial, _, rfl, hF⟩
/-! X6_comes -/
abbrev vv_X6_comes (k : Int32 → ovSt → Prop) (pc : Nat) (L : List (Nat × Value)) (st : List Value) (σ : ovSt) : Prop := ov_V (ovZs 1 yX6_comes cX6_comes 5) (ovKs (some .int) ov_S0 (ovKi k)) (0, 0) ov_S0 pc L st σ
def F_X6_comes (x1 : Int32) (x2 : Int32) (x3 : Int32) (σ : ovSt) (k : Int32 → ovSt → Prop) : Prop := (vp_in 1 1412 ∧ (∀ v2 : Int32, v2 = (σ 75 (Int32.toNatClampNeg 1)) → (F_X6_put v2 0 x1 σ (fun σ4 => (F_X6_put v2 1 x2 σ4 (fun σ6 => (F_X6_put v2 2 x3 σ6 (fun σ8 => (F_X6_put v2 3 0 σ8 (fun σ10 => (∀ σ11 : ovSt, σ11 = ov_up σ10 75 (Int32.toNatClampNeg 1) ((σ10 75 (Int32.toNatClampNeg 1)) + 1) → (k v2 σ11))))))))))))
set_option maxRecDepth 100000 in
set_option maxHeartbeats 4000000 in
theorem c_X6_comes {x1 : Int32} {x2 : Int32} {x3 : Int32} {σ : ovSt} {k : Int32 → ovSt → Prop} (hF : F_X6_comes x1 x2 x3 σ k) : ov_Ct 1 yX6_comes cX6_comes 5 (some .int) ov_S0 [.ref 74, .int x1, .int x2, .int x3] σ (ovKi k) := by
  refine ov_Ct.of (by decide) (Nat.le_of_ble_eq_true rfl) ?_
  unfold F_X6_comes at hF
  show vv_X6_comes k 0 [(0, .ref 74), (1, .int x1), (2, .int x2), (3, .int x3)] [] σ
  refine ov_aload_n dX6_comes_0 0 rfl ?_
  refine ov_getr (T := TX6) (kf := 0) dX6_comes_1 qf_X6_9 sh_74 rfl (Nat.le_of_ble_eq_true rfl) rfl (by decide) ?_
  refine ov_iconst 1 (by decide) dX6_comes_4 ?_
  have h1 := hF.1
  have hF := hF.2
  refine ov_iaload dX6_comes_5 sh_75 h1 ?_
  refine ov_nmI (fun v2 ev2 => ?_)
  have hF := hF v2 ev2
  refine ov_istore dX6_comes_6 (Nat.le_of_ble_eq_true rfl) [(4, .int v2), (0, .ref 74), (1, .int x1), (2, .int x2), (3, .int x3)] rfl ?_
  refine ov_aload_n dX6_comes_8 1 rfl ?_
  refine ov_iload dX6_comes_9 0 rfl ?_
  refine ov_iconst 0 (by decide) dX6_comes_11 ?_
  refine ov_iload_n dX6_comes_12 2 rfl ?_
  refine ov_callV [.int v2, .int 0, .int x1] dX6_comes_13 (c_X6_put hF) (Nat.le_of_ble_eq_true rfl) (Nat.le_of_ble_eq_true rfl) lk_X6_86 sh_74 rfl (Nat.le_of_ble_eq_true rfl) (Nat.le_refl _) (Nat.le_refl _) (fun rr σ4 hF => ?_)
  obtain ⟨rfl, hF⟩ := hF
  show vv_X6_comes k 16 [(4, .int v2), (0, .ref 74), (1, .int x1), (2, .int x2), (3, .int x3)] [] σ4
  refine ov_aload_n dX6_comes_16 1 rfl ?_
  refine ov_iload dX6_comes_17 0 rfl ?_
  refine ov_iconst 1 (by decide) dX6_comes_19 ?_
  refine ov_iload_n dX6_comes_20 3 rfl ?_
  refine ov_callV [.int v2, .int 1, .int x2] dX6_comes_21 (c_X6_put hF) (Nat.le_of_ble_eq_true rfl) (Nat.le_of_ble_eq_true rfl) lk_X6_86 sh_74 rfl (Nat.le_of_ble_eq_true rfl) (Nat.le_refl _) (Nat.le_refl _) (fun rr σ6 hF => ?_)
  obtain ⟨rfl, hF⟩ := hF
  show vv_X6_comes k 24 [(4, .int v2), (0, .ref 74), (1, .int x1), (2, .int x2), (3, .int x3)] [] σ6
  refine ov_aload_n dX6_comes_24 1 rfl ?_
  refine ov_iload dX6_comes_25 0 rfl ?_
  refine ov_iconst 2 (by decide) dX6_comes_27 ?_
  refine ov_iload_n dX6_comes_28 4 rfl ?_
  refine ov_callV [.int v2, .int 2, .int x3] dX6_comes_29 (c_X6_put hF) (Nat.le_of_ble_eq_true rfl) (Nat.le_of_ble_eq_true rfl) lk_X6_86 sh_74 rfl (Nat.le_of_ble_eq_true rfl) (Nat.le_refl _) (Nat.le_refl _) (fun rr σ8 hF => ?_)
  obtain ⟨rfl, hF⟩ := hF
  show vv_X6_comes k 32 [(4, .int v2), (0, .ref 74), (1, .int x1), (2, .int x2), (3, .int x3)] [] σ8
  refine ov_aload_n dX6_comes_32 1 rfl ?_
  refine ov_iload dX6_comes_33 0 rfl ?_
  refine ov_iconst 3 (by decide) dX6_comes_35 ?_
  refine ov_iconst 0 (by decide) dX6_comes_36 ?_
  refine ov_callV [.int v2, .int 3, .int 0] dX6_comes_37 (c_X6_put hF) (Nat.le_of_ble_eq_true rfl) (Nat.le_of_ble_eq_true rfl) lk_X6_86 sh_74 rfl (Nat.le_of_ble_eq_true rfl) (Nat.le_refl _) (Nat.le_refl _) (fun rr σ10 hF => ?_)
  obtain ⟨rfl, hF⟩ := hF
  show vv_X6_comes k 40 [(4, .int v2), (0, .ref 74), (1, .int x1), (2, .int x2), (3, .int x3)] [] σ10
  refine ov_aload_n dX6_comes_40 1 rfl ?_
  refine ov_getr (T := TX6) (kf := 0) dX6_comes_41 qf_X6_9 sh_74 rfl (Nat.le_of_ble_eq_true rfl) rfl (by decide) ?_
  refine ov_iconst 1 (by decide) dX6_comes_44 ?_
  refine ov_dup2 rfl rfl dX6_comes_45 ?_
  refine ov_iaload dX6_comes_46 sh_75 h1 ?_
  refine ov_iconst 1 (by decide) dX6_comes_47 ?_
  refine ov_iadd dX6_comes_48 ?_
  refine ov_iastore dX6_comes_49 sh_75 h1 ?_
  refine ov_nmS (fun σ11 es11 => ?_)
  have hF := hF σ11 es11
  refine ov_iload dX6_comes_50 0 rfl ?_
  exact ov_ireturn dX6_comes_52 (Nat.le_refl _) (Nat.le_refl _) ⟨rfl, trivial, _, rfl, hF⟩
/-! X6_thing -/
abbrev vv_X6_thing (k : Int32 → ovSt → Prop) (pc : Nat) (L : List (Nat × Value)) (st : List Value) (σ : ovSt) : Prop := ov_V (ovZs 2 yX6_thing cX6_thing 3) (ovKs (some .int) ov_S0 (ovKi k)) (0, 0) ov_S0 pc L st σ
def F_X6_thing_19 (k : Int32 → ovSt → Prop) (σ : ovSt) : Prop := (k (-1000000001) σ)
set_option maxRecDepth 100000 in
set_option maxHeartbeats 4000000 in
theorem V_X6_thing_19 {k : Int32 → ovSt → Prop} (σ : ovSt) (hF : F_X6_thing_19 k σ) : vv_X6_thing k 19 [] [] σ := by
  unfold F_X6_thing_19 at hF
  refine ov_ldc dX6_thing_19 qc_X6_90 ?_
  exact ov_ireturn dX6_thing_21 (Nat.le_refl _) (Nat.le_refl _) ⟨rfl, trivial, _, rfl, hF⟩
def F_X6_thing_45 (k : Int32 → ovSt → Prop) (t0 : Int32) (σ : ovSt) : Prop := (k t0 σ)
set_option maxRecDepth 100000 in
set_option maxHeartbeats 4000000 in
theorem V_X6_thing_45 {k : Int32 → ovSt → Prop} (t0 : Int32) (σ : ovSt) (hF : F_X6_thing_45 k t0 σ) : vv_X6_thing k 45 [] [.int t0] σ := by
  unfold F_X6_thing_45 at hF
  exact ov_ireturn dX6_thing_45 (Nat.le_refl _) (Nat.le_refl _) ⟨rfl, trivial, _, rfl, hF⟩
def F_X6_thing (x1 : Int32) (x2 : Int32) (σ : ovSt) (k : Int32 → ovSt → Prop) : Prop := (F_X6_in x1 0 5 σ (fun v1 σ2 => (if v1 = 0 then (F_X6_thing_19 k σ2) else (F_X6_in x2 1 9 σ2 (fun v3 σ4 => (if v3 = 0 then (F_X6_thing_19 k σ4) else (vp_in 1 1412 ∧ (if (σ4 75 (Int32.toNatClampNeg 1)) = (8 : Int32) then (F_X6_thing_45 k (-1000000003) σ4) else (F_X6_comes x1 x2 0 σ4 (fun v6 σ7 => (F_X6_thing_45 k v6 σ7)))))))))))
set_option maxRecDepth 100000 in
set_option maxHeartbeats 4000000 in
theorem c_X6_thing {x1 : Int32} {x2 : Int32} {σ : ovSt} {k : Int32 → ovSt → Prop} (hF : F_X6_thing x1 x2 σ k) : ov_Ct 2 yX6_thing cX6_thing 3 (some .int) ov_S0 [.ref 74, .int x1, .int x2] σ (ovKi k) := by
  refine ov_Ct.of (by decide) (Nat.le_of_ble_eq_true rfl) ?_
  unfold F_X6_thing at hF
  show vv_X6_thing k 0 [(0, .ref 74), (1, .int x1), (2, .int x2)] [] σ
  refine ov_iload_n dX6_thing_0 1 rfl ?_
  refine ov_iconst 0 (by decide) dX6_thing_1 ?_
  refine ov_iconst 5 (by decide) dX6_thing_2 ?_
  refine ov_callS [.int x1, .int 0, .int 5] dX6_thing_3 (c_X6_in hF) (Nat.le_of_ble_eq_true rfl) (Nat.le_of_ble_eq_true rfl) lk_X6_82 (Nat.le_of_ble_eq_true rfl) (Nat.le_refl _) (Nat.le_refl _) (fun rr σ2 hF => ?_)
  obtain ⟨v1, rfl, hF⟩ := hF
  show vv_X6_thing k 6 [(0, .ref 74), (1, .int x1), (2, .int x2)] [.int v1] σ2
  refine ov_if_eq 19 dX6_thing_6 (by decide) hF (fun hF => ?_) (fun hF => ?_)
  · refine ov_pick [] [] rfl ?_
    exact V_X6_thing_19 σ2 hF
  · refine ov_iload_n dX6_thing_9 2 rfl ?_
    refine ov_iconst 1 (by decide) dX6_thing_10 ?_
    refine ov_bipush 9 (by decide) dX6_thing_11 ?_
    refine ov_callS [.int x2, .int 1, .int 9] dX6_thing_13 (c_X6_in hF) (Nat.le_of_ble_eq_true rfl) (Nat.le_of_ble_eq_true rfl) lk_X6_82 (Nat.le_of_ble_eq_true rfl) (Nat.le_refl _) (Nat.le_refl _) (fun rr σ4 hF => ?_)
    obtain ⟨v3, rfl, hF⟩ := hF
    show vv_X6_thing k 16 [(0, .ref 74), (1, .int x1), (2, .int x2)] [.int v3] σ4
    refine ov_if_ne 22 dX6_thing_16 (by decide) hF (fun hF => ?_) (fun hF => ?_)
    · refine ov_aload_n dX6_thing_22 0 rfl ?_
      refine ov_getr (T := TX6) (kf := 0) dX6_thing_23 qf_X6_9 sh_74 rfl (Nat.le_of_ble_eq_true rfl) rfl (by decide) ?_
      refine ov_iconst 1 (by decide) dX6_thing_26 ?_
      have h5 := hF.1
      have hF := hF.2
      refine ov_iaload dX6_thing_27 sh_75 h5 ?_
      refine ov_bipush 8 (by decide) dX6_thing_28 ?_
      refine ov_icmp_ne 38 dX6_thing_30 (by decide) hF (fun hF => ?_) (fun hF => ?_)
      · refine ov_aload_n dX6_thing_38 0 rfl ?_
        refine ov_iload_n dX6_thing_39 1 rfl ?_
        refine ov_iload_n dX6_thing_40 2 rfl ?_
        refine ov_iconst 0 (by decide) dX6_thing_41 ?_
        refine ov_callV [.int x1, .int x2, .int 0] dX6_thing_42 (c_X6_comes hF) (Nat.le_of_ble_eq_true rfl) (Nat.le_of_ble_eq_true rfl) lk_X6_92 sh_74 rfl (Nat.le_of_ble_eq_true rfl) (Nat.le_refl _) (Nat.le_refl _) (fun rr σ7 hF => ?_)
        obtain ⟨v6, rfl, hF⟩ := hF
        show vv_X6_thing k 45 [(0, .ref 74), (1, .int x1), (2, .int x2)] [.int v6] σ7
        refine ov_pick [] [] rfl ?_
        exact V_X6_thing_45 v6 σ7 hF
      · refine ov_ldc dX6_thing_33 qc_X6_91 ?_
        refine ov_goto 45 dX6_thing_35 (by decide) ?_
        refine ov_pick [] [] rfl ?_
        exact V_X6_thing_45 (-1000000003) σ4 hF
    · refine ov_pick [] [] rfl ?_
      exact V_X6_thing_19 σ4 hF
/-! X6_tosses -/
abbrev vv_X6_tosses (k : ovSt → Prop) (pc : Nat) (L : List (Nat × Value)) (st : List Value) (σ : ovSt) : Prop := ov_V (ovZs 1 yX6_tosses cX6_tosses 3) (ovKs none ov_S0 (ovKv k)) (0, 0) ov_S0 pc L st σ
def F_X6_tosses (x1 : Int32) (x2 : Int32) (σ : ovSt) (k : ovSt → Prop) : Prop := (F_X6_of x1 2 σ (fun v1 σ2 => (F_X6_within (v1 + x2) 0 99999 σ2 (fun v3 σ4 => (F_X6_put x1 2 v3 σ4 (fun σ6 => (k σ6)))))))
set_option maxRecDepth 100000 in
set_option maxHeartbeats 4000000 in
theorem c_X6_tosses {x1 : Int32} {x2 : Int32} {σ : ovSt} {k : ovSt → Prop} (hF : F_X6_tosses x1 x2 σ k) : ov_Ct 1 yX6_tosses cX6_tosses 3 none ov_S0 [.ref 74, .int x1, .int x2] σ (ovKv k) := by
  refine ov_Ct.of (by decide) (Nat.le_of_ble_eq_true rfl) ?_
  unfold F_X6_tosses at hF
  show vv_X6_tosses k 0 [(0, .ref 74), (1, .int x1), (2, .int x2)] [] σ
  refine ov_aload_n dX6_tosses_0 0 rfl ?_
  refine ov_iload_n dX6_tosses_1 1 rfl ?_
  refine ov_iconst 2 (by decide) dX6_tosses_2 ?_
  refine ov_aload_n dX6_tosses_3 0 rfl ?_
  refine ov_iload_n dX6_tosses_4 1 rfl ?_
  refine ov_iconst 2 (by decide) dX6_tosses_5 ?_
  refine ov_callV [.int x1, .int 2] dX6_tosses_6 (c_X6_of hF) (Nat.le_of_ble_eq_true rfl) (Nat.le_of_ble_eq_true rfl) lk_X6_96 sh_74 rfl (Nat.le_of_ble_eq_true rfl) (Nat.le_refl _) (Nat.le_refl _) (fun rr σ2 hF => ?_)
  obtain ⟨v1, rfl, hF⟩ := hF
  show vv_X6_tosses k 9 [(0, .ref 74), (1, .int x1), (2, .int x2)] [.int v1, .int 2, .int x1, .ref 74] σ2
  refine ov_iload_n dX6_tosses_9 2 rfl ?_
  refine ov_iadd dX6_tosses_10 ?_
  refine ov_iconst 0 (by decide) dX6_tosses_11 ?_
  refine ov_ldc dX6_tosses_12 qc_X6_100 ?_
  refine ov_callS [.int (v1 + x2), .int 0, .int 99999] dX6_tosses_14 (c_X6_within hF) (Nat.le_of_ble_eq_true rfl) (Nat.le_of_ble_eq_true rfl) lk_X6_101 (Nat.le_of_ble_eq_true rfl) (Nat.le_refl _) (Nat.le_refl _) (fun rr σ4 hF => ?_)
  obtain ⟨v3, rfl, hF⟩ := hF
  show vv_X6_tosses k 17 [(0, .ref 74), (1, .int x1), (2, .int x2)] [.int v3, .int 2, .int x1, .ref 74] σ4
  refine ov_callV [.int x1, .int 2, .int v3] dX6_tosses_17 (c_X6_put hF) (Nat.le_of_ble_eq_true rfl) (Nat.le_of_ble_eq_true rfl) lk_X6_86 sh_74 rfl (Nat.le_of_ble_eq_true rfl) (Nat.le_refl _) (Nat.le_refl _) (fun rr σ6 hF => ?_)
  obtain ⟨rfl, hF⟩ := hF
  show vv_X6_tosses k 20 [(0, .ref 74), (1, .int x1), (2, .int x2)] [] σ6
  exact ov_return dX6_tosses_20 (Nat.le_refl _) (Nat.le_refl _) ⟨rfl, trivial, rfl, hF⟩
/-! X6_toss -/
abbrev vv_X6_toss (k : Int32 → ovSt → Prop) (pc : Nat) (L : List (Nat × Value)) (st : List Value) (σ : ovSt) : Prop := ov_V (ovZs 2 yX6_toss cX6_toss 3) (ovKs (some .int) ov_S0 (ovKi k)) (0, 0) ov_S0 pc L st σ
def F_X6_toss_19 (k : Int32 → ovSt → Prop) (σ : ovSt) : Prop := (k (-1000000001) σ)
set_option maxRecDepth 100000 in
set_option maxHeartbeats 4000000 in
theorem V_X6_toss_19 {k : Int32 → ovSt → Prop} (σ : ovSt) (hF : F_X6_toss_19 k σ) : vv_X6_toss k 19 [] [] σ := by
  unfold F_X6_toss_19 at hF
  refine ov_ldc dX6_toss_19 qc_X6_90 ?_
  exact ov_ireturn dX6_toss_21 (Nat.le_refl _) (Nat.le_refl _) ⟨rfl, trivial, _, rfl, hF⟩
def F_X6_toss (x1 : Int32) (x2 : Int32) (σ : ovSt) (k : Int32 → ovSt → Prop) : Prop := (F_X6_isThing x1 σ (fun v1 σ2 => (if v1 = 0 then (F_X6_toss_19 k σ2) else (F_X6_in x2 1 9999 σ2 (fun v3 σ4 => (if v3 = 0 then (F_X6_toss_19 k σ4) else (F_X6_tosses x1 x2 σ4 (fun σ6 => (F_X6_of x1 2 σ6 (fun v7 σ8 => (k v7 σ8)))))))))))
set_option maxRecDepth 100000 in
set_option maxHeartbeats 4000000 in
theorem c_X6_toss {x1 : Int32} {x2 : Int32} {σ : ovSt} {k : Int32 → ovSt → Prop} (hF : F_X6_toss x1 x2 σ k) : ov_Ct 2 yX6_toss cX6_toss 3 (some .int) ov_S0 [.ref 74, .int x1, .int x2] σ (ovKi k) := by
  refine ov_Ct.of (by decide) (Nat.le_of_ble_eq_true rfl) ?_
  unfold F_X6_toss at hF
  show vv_X6_toss k 0 [(0, .ref 74), (1, .int x1), (2, .int x2)] [] σ
  refine ov_aload_n dX6_toss_0 0 rfl ?_
  refine ov_iload_n dX6_toss_1 1 rfl ?_
  refine ov_callV [.int x1] dX6_toss_2 (c_X6_isThing hF) (Nat.le_of_ble_eq_true rfl) (Nat.le_of_ble_eq_true rfl) lk_X6_104 sh_74 rfl (Nat.le_of_ble_eq_true rfl) (Nat.le_refl _) (Nat.le_refl _) (fun rr σ2 hF => ?_)
  obtain ⟨v1, rfl, hF⟩ := hF
  show vv_X6_toss k 5 [(0, .ref 74), (1, .int x1), (2, .int x2)] [.int v1] σ2
  refine ov_if_eq 19 dX6_toss_5 (by decide) hF (fun hF => ?_) (fun hF => ?_)
  · refine ov_pick [] [] rfl ?_
    exact V_X6_toss_19 σ2 hF
  · refine ov_iload_n dX6_toss_8 2 rfl ?_
    refine ov_iconst 1 (by decide) dX6_toss_9 ?_
    refine ov_sipush 9999 (by decide) dX6_toss_10 ?_
    refine ov_callS [.int x2, .int 1, .int 9999] dX6_toss_13 (c_X6_in hF) (Nat.le_of_ble_eq_true rfl) (Nat.le_of_ble_eq_true rfl) lk_X6_82 (Nat.le_of_ble_eq_true rfl) (Nat.le_refl _) (Nat.le_refl _) (fun rr σ4 hF => ?_)
    obtain ⟨v3, rfl, hF⟩ := hF
    show vv_X6_toss k 16 [(0, .ref 74), (1, .int x1), (2, .int x2)] [.int v3] σ4
    refine ov_if_ne 22 dX6_toss_16 (by decide) hF (fun hF => ?_) (fun hF => ?_)
    · refine ov_aload_n dX6_toss_22 0 rfl ?_
      refine ov_iload_n dX6_toss_23 1 rfl ?_
      refine ov_iload_n dX6_toss_24 2 rfl ?_
      refine ov_callV [.int x1, .int x2] dX6_toss_25 (c_X6_tosses hF) (Nat.le_of_ble_eq_true rfl) (Nat.le_of_ble_eq_true rfl) lk_X6_108 sh_74 rfl (Nat.le_of_ble_eq_true rfl) (Nat.le_refl _) (Nat.le_refl _) (fun rr σ6 hF => ?_)
      obtain ⟨rfl, hF⟩ := hF
      show vv_X6_toss k 28 [(0, .ref 74), (1, .int x1), (2, .int x2)] [] σ6
      refine ov_aload_n dX6_toss_28 0 rfl ?_
      refine ov_iload_n dX6_toss_29 1 rfl ?_
      refine ov_iconst 2 (by decide) dX6_toss_30 ?_
      refine ov_callV [.int x1, .int 2] dX6_toss_31 (c_X6_of hF) (Nat.le_of_ble_eq_true rfl) (Nat.le_of_ble_eq_true rfl) lk_X6_96 sh_74 rfl (Nat.le_of_ble_eq_true rfl) (Nat.le_refl _) (Nat.le_refl _) (fun rr σ8 hF => ?_)
      obtain ⟨v7, rfl, hF⟩ := hF
      show vv_X6_toss k 34 [(0, .ref 74), (1, .int x1), (2, .int x2)] [.int v7] σ8
      exact ov_ireturn dX6_toss_34 (Nat.le_refl _) (Nat.le_refl _) ⟨rfl, trivial, _, rfl, hF⟩
    · refine ov_pick [] [] rfl ?_
      exact V_X6_toss_19 σ4 hF
/-! X6_counts -/
abbrev vv_X6_counts (k : Int32 → ovSt → Prop) (pc : Nat) (L : List (Nat × Value)) (st : List Value) (σ : ovSt) : Prop := ov_V (ovZs 0 yX6_counts cX6_counts 3) (ovKs (some .int) ov_S0 (ovKi k)) (0, 0) ov_S0 pc L st σ
def F_X6_counts_10 (k : Int32 → ovSt → Prop) : Nat → Int32 → Int32 → ovSt → Prop
  | 0 => fun _ _ _ => False
  | n + 1 => fun x1 x2 σ => (if x2 < 0 then (k (-1) σ) else (vp_in (40 + (2 * x2)) 1412 ∧ (if ((σ 75 (Int32.toNatClampNeg (40 + (2 * x2)))) / 1000) = x1 then (k x2 σ) else F_X6_counts_10 k n x1 (x2 + (-1)) σ)))
set_option maxRecDepth 100000 in
set_option maxHeartbeats 4000000 in
theorem V_X6_counts_10 {k : Int32 → ovSt → Prop} : ∀ (n : Nat) (x1 : Int32) (x2 : Int32) (σ : ovSt), F_X6_counts_10 k n x1 x2 σ → vv_X6_counts k 10 [(0, .ref 74), (1, .int x1), (2, .int x2)] [] σ := by
  intro n
  induction n with
  | zero => intro x1 x2 σ hF; exact hF.elim
  | succ n ih =>
    intro x1 x2 σ hF
    unfold F_X6_counts_10 at hF
    refine ov_iload_n dX6_counts_10 2 rfl ?_
    refine ov_if_lt 41 dX6_counts_11 (by decide) hF (fun hF => ?_) (fun hF => ?_)
    · refine ov_iconst (-1) (by decide) dX6_counts_41 ?_
      exact ov_ireturn dX6_counts_42 (Nat.le_refl _) (Nat.le_refl _) ⟨rfl, trivial, _, rfl, hF⟩
    · refine ov_aload_n dX6_counts_14 0 rfl ?_
      refine ov_getr (T := TX6) (kf := 0) dX6_counts_15 qf_X6_9 sh_74 rfl (Nat.le_of_ble_eq_true rfl) rfl (by decide) ?_
      refine ov_bipush 40 (by decide) dX6_counts_18 ?_
      refine ov_iconst 2 (by decide) dX6_counts_20 ?_
      refine ov_iload_n dX6_counts_21 2 rfl ?_
      refine ov_imul dX6_counts_22 ?_
      refine ov_iadd dX6_counts_23 ?_
      have h1 := hF.1
      have hF := hF.2
      refine ov_iaload dX6_counts_24 sh_75 h1 ?_
      refine ov_sipush 1000 (by decide) dX6_counts_25 ?_
      refine ov_idiv (by decide) dX6_counts_28 ?_
      refine ov_iload_n dX6_counts_29 1 rfl ?_
      refine ov_icmp_ne 35 dX6_counts_30 (by decide) hF (fun hF => ?_) (fun hF => ?_)
      · refine ov_iinc dX6_counts_35 2 rfl (x2 + (-1)) rfl (Nat.le_of_ble_eq_true rfl) [(2, .int (x2 + (-1))), (0, .ref 74), (1, .int x1)] rfl ?_
        refine ov_goto 10 dX6_counts_38 (by decide) ?_
        refine ov_pick [1, 2, 0] [(0, .ref 74), (1, .int x1), (2, .int (x2 + (-1)))] rfl ?_
        exact ih x1 (x2 + (-1)) σ hF
      · refine ov_iload_n dX6_counts_33 2 rfl ?_
        exact ov_ireturn dX6_counts_34 (Nat.le_refl _) (Nat.le_refl _) ⟨rfl, trivial, _, rfl, hF⟩
def F_X6_counts (x1 : Int32) (σ : ovSt) (k : Int32 → ovSt → Prop) : Prop := (vp_in 7 1412 ∧ (∀ v3 : Int32, v3 = ((σ 75 (Int32.toNatClampNeg 7)) - 1) → (∃ n4, F_X6_counts_10 k n4 x1 v3 σ)))
set_option maxRecDepth 100000 in
set_option maxHeartbeats 4000000 in
theorem c_X6_counts {x1 : Int32} {σ : ovSt} {k : Int32 → ovSt → Prop} (hF : F_X6_counts x1 σ k) : ov_Ct 0 yX6_counts cX6_counts 3 (some .int) ov_S0 [.ref 74, .int x1] σ (ovKi k) := by
  refine ov_Ct.of (by decide) (Nat.le_of_ble_eq_true rfl) ?_
  unfold F_X6_counts at hF
  show vv_X6_counts k 0 [(0, .ref 74), (1, .int x1)] [] σ
  refine ov_aload_n dX6_counts_0 0 rfl ?_
  refine ov_getr (T := TX6) (kf := 0) dX6_counts_1 qf_X6_9 sh_74 rfl (Nat.le_of_ble_eq_true rfl) rfl (by decide) ?_
  refine ov_bipush 7 (by decide) dX6_counts_4 ?_
  have h2 := hF.1
  have hF := hF.2
  refine ov_iaload dX6_counts_6 sh_75 h2 ?_
  refine ov_iconst 1 (by decide) dX6_counts_7 ?_
  refine ov_isub dX6_counts_8 ?_
  refine ov_nmI (fun v3 ev3 => ?_)
  have hF := hF v3 ev3
  refine ov_istore_n dX6_counts_9 (Nat.le_of_ble_eq_true rfl) [(2, .int v3), (0, .ref 74), (1, .int x1)] rfl ?_
  refine ov_pick [1, 2, 0] [(0, .ref 74), (1, .int x1), (2, .int v3)] rfl ?_
  obtain ⟨n4, hF⟩ := hF
  exact V_X6_counts_10 n4 x1 v3 σ hF
/-! X6_two -/
abbrev vv_X6_two (k : Int32 → ovSt → Prop) (pc : Nat) (L : List (Nat × Value)) (st : List Value) (σ : ovSt) : Prop := ov_V (ovZs 0 yX6_two cX6_two 3) (ovKs (some .int) ov_S0 (ovKi k)) (0, 0) ov_S0 pc L st σ
def F_X6_two_108 (k : Int32 → ovSt → Prop) (t0 : Int32) (σ : ovSt) : Prop := (k t0 σ)
set_option maxRecDepth 100000 in
set_option maxHeartbeats 4000000 in
theorem V_X6_two_108 {k : Int32 → ovSt → Prop} (t0 : Int32) (σ : ovSt) (hF : F_X6_two_108 k t0 σ) : vv_X6_two k 108 [] [.int t0] σ := by
  unfold F_X6_two_108 at hF
  exact ov_ireturn dX6_two_108 (Nat.le_refl _) (Nat.le_refl _) ⟨rfl, trivial, _, rfl, hF⟩
def F_X6_two_97 (k : Int32 → ovSt → Prop) (t0 : Int32) (σ : ovSt) : Prop := (k t0 σ)
set_option maxRecDepth 100000 in
set_option maxHeartbeats 4000000 in
theorem V_X6_two_97 {k : Int32 → ovSt → Prop} (t0 : Int32) (σ : ovSt) (hF : F_X6_two_97 k t0 σ) : vv_X6_two k 97 [] [.int t0] σ := by
  unfold F_X6_two_97 at hF
  exact ov_ireturn dX6_two_97 (Nat.le_refl _) (Nat.le_refl _) ⟨rfl, trivial, _, rfl, hF⟩
def F_X6_two_86 (k : Int32 → ovSt → Prop) (t0 : Int32) (σ : ovSt) : Prop := (k t0 σ)
set_option maxRecDepth 100000 in
set_option maxHeartbeats 4000000 in
theorem V_X6_two_86 {k : Int32 → ovSt → Prop} (t0 : Int32) (σ : ovSt) (hF : F_X6_two_86 k t0 σ) : vv_X6_two k 86 [] [.int t0] σ := by
  unfold F_X6_two_86 at hF
  exact ov_ireturn dX6_two_86 (Nat.le_refl _) (Nat.le_refl _) ⟨rfl, trivial, _, rfl, hF⟩
def F_X6_two_75 (k : Int32 → ovSt → Prop) (t0 : Int32) (σ : ovSt) : Prop := (k t0 σ)
set_option maxRecDepth 100000 in
set_option maxHeartbeats 4000000 in
theorem V_X6_two_75 {k : Int32 → ovSt → Prop} (t0 : Int32) (σ : ovSt) (hF : F_X6_two_75 k t0 σ) : vv_X6_two k 75 [] [.int t0] σ := by
  unfold F_X6_two_75 at hF
  exact ov_ireturn dX6_two_75 (Nat.le_refl _) (Nat.le_refl _) ⟨rfl, trivial, _, rfl, hF⟩
def F_X6_two_74 (k : Int32 → ovSt → Prop) (σ : ovSt) : Prop := (F_X6_two_75 k 0 σ)
set_option maxRecDepth 100000 in
set_option maxHeartbeats 4000000 in
theorem V_X6_two_74 {k : Int32 → ovSt → Prop} (σ : ovSt) (hF : F_X6_two_74 k σ) : vv_X6_two k 74 [] [] σ := by
  unfold F_X6_two_74 at hF
  refine ov_iconst 0 (by decide) dX6_two_74 ?_
  exact V_X6_two_75 0 σ hF
def F_X6_two_61 (k : Int32 → ovSt → Prop) (t0 : Int32) (σ : ovSt) : Prop := (k t0 σ)
set_option maxRecDepth 100000 in
set_option maxHeartbeats 4000000 in
theorem V_X6_two_61 {k : Int32 → ovSt → Prop} (t0 : Int32) (σ : ovSt) (hF : F_X6_two_61 k t0 σ) : vv_X6_two k 61 [] [.int t0] σ := by
  unfold F_X6_two_61 at hF
  exact ov_ireturn dX6_two_61 (Nat.le_refl _) (Nat.le_refl _) ⟨rfl, trivial, _, rfl, hF⟩
def F_X6_two_56 (k : Int32 → ovSt → Prop) (σ : ovSt) : Prop := (F_X6_two_61 k 1 σ)
set_option maxRecDepth 100000 in
set_option maxHeartbeats 4000000 in
theorem V_X6_two_56 {k : Int32 → ovSt → Prop} (σ : ovSt) (hF : F_X6_two_56 k σ) : vv_X6_two k 56 [] [] σ := by
  unfold F_X6_two_56 at hF
  refine ov_iconst 1 (by decide) dX6_two_56 ?_
  refine ov_goto 61 dX6_two_57 (by decide) ?_
  exact V_X6_two_61 1 σ hF
def F_X6_two_132 (k : Int32 → ovSt → Prop) (t0 : Int32) (σ : ovSt) : Prop := (k t0 σ)
set_option maxRecDepth 100000 in
set_option maxHeartbeats 4000000 in
theorem V_X6_two_132 {k : Int32 → ovSt → Prop} (t0 : Int32) (σ : ovSt) (hF : F_X6_two_132 k t0 σ) : vv_X6_two k 132 [] [.int t0] σ := by
  unfold F_X6_two_132 at hF
  exact ov_ireturn dX6_two_132 (Nat.le_refl _) (Nat.le_refl _) ⟨rfl, trivial, _, rfl, hF⟩
def F_X6_two (x0 : Int32) (x1 : Int32) (x2 : Int32) (σ : ovSt) (k : Int32 → ovSt → Prop) : Prop := (if x0 = (-8) then (k (x1 * x2) σ) else (if x0 = (-7) then (k (x1 - x2) σ) else (if x0 = (-6) then (k (x1 + x2) σ) else (if x0 = (-5) then (if x1 ≤ x2 then (F_X6_two_108 k 0 σ) else (F_X6_two_108 k 1 σ)) else (if x0 = (-4) then (if x1 = x2 then (F_X6_two_97 k 1 σ) else (F_X6_two_97 k 0 σ)) else (if x0 = (-3) then (if x2 ≤ x1 then (F_X6_two_86 k 0 σ) else (F_X6_two_86 k 1 σ)) else (if x0 = (-2) then (if x1 = 0 then (F_X6_two_74 k σ) else (if x2 = 0 then (F_X6_two_74 k σ) else (F_X6_two_75 k 1 σ))) else (if x0 = (-1) then (if x1 = 0 then (if x2 = 0 then (F_X6_two_61 k 0 σ) else (F_X6_two_56 k σ)) else (F_X6_two_56 k σ)) else (if x2 = 0 then (F_X6_two_132 k 0 σ) else (¬ x2 = 0 ∧ (F_X6_two_132 k (x1 / x2) σ)))))))))))
set_option maxRecDepth 100000 in
set_option maxHeartbeats 4000000 in
theorem c_X6_two {x0 : Int32} {x1 : Int32} {x2 : Int32} {σ : ovSt} {k : Int32 → ovSt → Prop} (hF : F_X6_two x0 x1 x2 σ k) : ov_Ct 0 yX6_two cX6_two 3 (some .int) ov_S0 [.int x0, .int x1, .int x2] σ (ovKi k) := by
  refine ov_Ct.of (by decide) (Nat.le_of_ble_eq_true rfl) ?_
  unfold F_X6_two at hF
  show vv_X6_two k 0 [(0, .int x0), (1, .int x1), (2, .int x2)] [] σ
  refine ov_iload_n dX6_two_0 0 rfl ?_
  refine ov_br hF (fun z2 hF => ?_) (fun z2 hF => ?_)
  · refine ov_tin (-8) 116 117 dX6_two_1 z2 (by decide) (by decide) rfl (by decide) ?_
    refine ov_iload_n dX6_two_117 1 rfl ?_
    refine ov_iload_n dX6_two_118 2 rfl ?_
    refine ov_imul dX6_two_119 ?_
    exact ov_ireturn dX6_two_120 (Nat.le_refl _) (Nat.le_refl _) ⟨rfl, trivial, _, rfl, hF⟩
  · refine ov_br hF (fun z3 hF => ?_) (fun z3 hF => ?_)
    · refine ov_tin (-7) 112 113 dX6_two_1 z3 (by decide) (by decide) rfl (by decide) ?_
      refine ov_iload_n dX6_two_113 1 rfl ?_
      refine ov_iload_n dX6_two_114 2 rfl ?_
      refine ov_isub dX6_two_115 ?_
      exact ov_ireturn dX6_two_116 (Nat.le_refl _) (Nat.le_refl _) ⟨rfl, trivial, _, rfl, hF⟩
    · refine ov_br hF (fun z4 hF => ?_) (fun z4 hF => ?_)
      · refine ov_tin (-6) 108 109 dX6_two_1 z4 (by decide) (by decide) rfl (by decide) ?_
        refine ov_iload_n dX6_two_109 1 rfl ?_
        refine ov_iload_n dX6_two_110 2 rfl ?_
        refine ov_iadd dX6_two_111 ?_
        exact ov_ireturn dX6_two_112 (Nat.le_refl _) (Nat.le_refl _) ⟨rfl, trivial, _, rfl, hF⟩
      · refine ov_br hF (fun z5 hF => ?_) (fun z5 hF => ?_)
        · refine ov_tin (-5) 97 98 dX6_two_1 z5 (by decide) (by decide) rfl (by decide) ?_
          refine ov_iload_n dX6_two_98 1 rfl ?_
          refine ov_iload_n dX6_two_99 2 rfl ?_
          refine ov_icmp_le 107 dX6_two_100 (by decide) hF (fun hF => ?_) (fun hF => ?_)
          · refine ov_iconst 0 (by decide) dX6_two_107 ?_
            refine ov_pick [] [] rfl ?_
            exact V_X6_two_108 0 σ hF
          · refine ov_iconst 1 (by decide) dX6_two_103 ?_
            refine ov_goto 108 dX6_two_104 (by decide) ?_
            refine ov_pick [] [] rfl ?_
            exact V_X6_two_108 1 σ hF
        · refine ov_br hF (fun z6 hF => ?_) (fun z6 hF => ?_)
          · refine ov_tin (-4) 86 87 dX6_two_1 z6 (by decide) (by decide) rfl (by decide) ?_
            refine ov_iload_n dX6_two_87 1 rfl ?_
            refine ov_iload_n dX6_two_88 2 rfl ?_
            refine ov_icmp_ne 96 dX6_two_89 (by decide) hF (fun hF => ?_) (fun hF => ?_)
            · refine ov_iconst 0 (by decide) dX6_two_96 ?_
              refine ov_pick [] [] rfl ?_
              exact V_X6_two_97 0 σ hF
            · refine ov_iconst 1 (by decide) dX6_two_92 ?_
              refine ov_goto 97 dX6_two_93 (by decide) ?_
              refine ov_pick [] [] rfl ?_
              exact V_X6_two_97 1 σ hF
          · refine ov_br hF (fun z7 hF => ?_) (fun z7 hF => ?_)
            · refine ov_tin (-3) 75 76 dX6_two_1 z7 (by decide) (by decide) rfl (by decide) ?_
              refine ov_iload_n dX6_two_76 1 rfl ?_
              refine ov_iload_n dX6_two_77 2 rfl ?_
              refine ov_icmp_ge 85 dX6_two_78 (by decide) hF (fun hF => ?_) (fun hF => ?_)
              · refine ov_iconst 0 (by decide) dX6_two_85 ?_
                refine ov_pick [] [] rfl ?_
                exact V_X6_two_86 0 σ hF
              · refine ov_iconst 1 (by decide) dX6_two_81 ?_
                refine ov_goto 86 dX6_two_82 (by decide) ?_
                refine ov_pick [] [] rfl ?_
                exact V_X6_two_86 1 σ hF
            · refine ov_br hF (fun z8 hF => ?_) (fun z8 hF => ?_)
              · refine ov_tin (-2) 61 62 dX6_two_1 z8 (by decide) (by decide) rfl (by decide) ?_
                refine ov_iload_n dX6_two_62 1 rfl ?_
                refine ov_if_eq 74 dX6_two_63 (by decide) hF (fun hF => ?_) (fun hF => ?_)
                · refine ov_pick [] [] rfl ?_
                  exact V_X6_two_74 σ hF
                · refine ov_iload_n dX6_two_66 2 rfl ?_
                  refine ov_if_eq 74 dX6_two_67 (by decide) hF (fun hF => ?_) (fun hF => ?_)
                  · refine ov_pick [] [] rfl ?_
                    exact V_X6_two_74 σ hF
                  · refine ov_iconst 1 (by decide) dX6_two_70 ?_
                    refine ov_goto 75 dX6_two_71 (by decide) ?_
                    refine ov_pick [] [] rfl ?_
                    exact V_X6_two_75 1 σ hF
              · refine ov_br hF (fun z9 hF => ?_) (fun z9 hF => ?_)
                · refine ov_tin (-1) 47 48 dX6_two_1 z9 (by decide) (by decide) rfl (by decide) ?_
                  refine ov_iload_n dX6_two_48 1 rfl ?_
                  refine ov_if_ne 56 dX6_two_49 (by decide) hF (fun hF => ?_) (fun hF => ?_)
                  · refine ov_pick [] [] rfl ?_
                    exact V_X6_two_56 σ hF
                  · refine ov_iload_n dX6_two_52 2 rfl ?_
                    refine ov_if_eq 60 dX6_two_53 (by decide) hF (fun hF => ?_) (fun hF => ?_)
                    · refine ov_iconst 0 (by decide) dX6_two_60 ?_
                      refine ov_pick [] [] rfl ?_
                      exact V_X6_two_61 0 σ hF
                    · refine ov_pick [] [] rfl ?_
                      exact V_X6_two_56 σ hF
                · refine ov_tout 121 dX6_two_1 (by have q0 := lv_neT (k := (-8)) (a := (-8)) z2 rfl; have q1 := lv_neT (k := (-7)) (a := (-7)) z3 rfl; have q2 := lv_neT (k := (-6)) (a := (-6)) z4 rfl; have q3 := lv_neT (k := (-5)) (a := (-5)) z5 rfl; have q4 := lv_neT (k := (-4)) (a := (-4)) z6 rfl; have q5 := lv_neT (k := (-3)) (a := (-3)) z7 rfl; have q6 := lv_neT (k := (-2)) (a := (-2)) z8 rfl; have q7 := lv_neT (k := (-1)) (a := (-1)) z9 rfl; omega) (by decide) ?_
                  refine ov_iload_n dX6_two_121 2 rfl ?_
                  refine ov_if_ne 129 dX6_two_122 (by decide) hF (fun hF => ?_) (fun hF => ?_)
                  · refine ov_iload_n dX6_two_129 1 rfl ?_
                    refine ov_iload_n dX6_two_130 2 rfl ?_
                    have h1 := hF.1
                    have hF := hF.2
                    refine ov_idiv h1 dX6_two_131 ?_
                    refine ov_pick [] [] rfl ?_
                    exact V_X6_two_132 (x1 / x2) σ hF
                  · refine ov_iconst 0 (by decide) dX6_two_125 ?_
                    refine ov_goto 132 dX6_two_126 (by decide) ?_
                    refine ov_pick [] [] rfl ?_
                    exact V_X6_two_132 0 σ hF
/-! X6_worksOut -/
abbrev vv_X6_worksOut (k : Int32 → ovSt → Prop) (pc : Nat) (L : List (Nat × Value)) (st : List Value) (σ : ovSt) : Prop := ov_V (ovZs 1 yX6_worksOut cX6_worksOut 6) (ovKs (some .int) ov_S0 (ovKi k)) (0, 0) ov_S0 pc L st σ
def F_X6_worksOut_149 (R21 : Int32 → Int32 → Int32 → Int32 → ovSt → Prop) (k : Int32 → ovSt → Prop) (x1 : Int32) (x2 : Int32) (x3 : Int32) (x4 : Int32) (σ : ovSt) : Prop := R21 x1 x2 x3 (x4 + 1) σ
set_option maxRecDepth 100000 in
set_option maxHeartbeats 4000000 in
theorem V_X6_worksOut_149 {k : Int32 → ovSt → Prop} {R21 : Int32 → Int32 → Int32 → Int32 → ovSt → Prop} (hR21 : ∀ (x1 : Int32) (x2 : Int32) (x3 : Int32) (x4 : Int32) (σ : ovSt), R21 x1 x2 x3 x4 σ → vv_X6_worksOut k 21 [(0, .ref 74), (1, .int x1), (2, .int x2), (3, .int x3), (4, .int x4)] [] σ) (x1 : Int32) (x2 : Int32) (x3 : Int32) (x4 : Int32) (σ : ovSt) (hF : F_X6_worksOut_149 R21 k x1 x2 x3 x4 σ) : vv_X6_worksOut k 149 [(0, .ref 74), (1, .int x1), (2, .int x2), (3, .int x3), (4, .int x4)] [] σ := by
  unfold F_X6_worksOut_149 at hF
  refine ov_iinc dX6_worksOut_149 4 rfl (x4 + 1) rfl (Nat.le_of_ble_eq_true rfl) [(4, .int (x4 + 1)), (0, .ref 74), (1, .int x1), (2, .int x2), (3, .int x3)] rfl ?_
  refine ov_goto 21 dX6_worksOut_152 (by decide) ?_
  refine ov_pick [1, 2, 3, 4, 0] [(0, .ref 74), (1, .int x1), (2, .int x2), (3, .int x3), (4, .int (x4 + 1))] rfl ?_
  exact hR21 x1 x2 x3 (x4 + 1) σ hF
def F_X6_worksOut_78 (R21 : Int32 → Int32 → Int32 → Int32 → ovSt → Prop) (k : Int32 → ovSt → Prop) (x1 : Int32) (x2 : Int32) (x3 : Int32) (x4 : Int32) (t0 : Int32) (t1 : Int32) (σ : ovSt) : Prop := (vp_in t1 96 ∧ (∀ σ2 : ovSt, σ2 = ov_up σ 87 (Int32.toNatClampNeg t1) t0 → (F_X6_worksOut_149 R21 k x1 (x2 + 1) x3 x4 σ2)))
set_option maxRecDepth 100000 in
set_option maxHeartbeats 4000000 in
theorem V_X6_worksOut_78 {k : Int32 → ovSt → Prop} {R21 : Int32 → Int32 → Int32 → Int32 → ovSt → Prop} (hR21 : ∀ (x1 : Int32) (x2 : Int32) (x3 : Int32) (x4 : Int32) (σ : ovSt), R21 x1 x2 x3 x4 σ → vv_X6_worksOut k 21 [(0, .ref 74), (1, .int x1), (2, .int x2), (3, .int x3), (4, .int x4)] [] σ) (x1 : Int32) (x2 : Int32) (x3 : Int32) (x4 : Int32) (t0 : Int32) (t1 : Int32) (σ : ovSt) (hF : F_X6_worksOut_78 R21 k x1 x2 x3 x4 t0 t1 σ) : vv_X6_worksOut k 78 [(0, .ref 74), (1, .int x1), (2, .int x2), (3, .int x3), (4, .int x4)] [.int t0, .int t1, .ref 87] σ := by
  unfold F_X6_worksOut_78 at hF
  have h1 := hF.1
  have hF := hF.2
  refine ov_iastore dX6_worksOut_78 sh_87 h1 ?_
  refine ov_nmS (fun σ2 es2 => ?_)
  have hF := hF σ2 es2
  refine ov_iinc dX6_worksOut_79 2 rfl (x2 + 1) rfl (Nat.le_of_ble_eq_true rfl) [(2, .int (x2 + 1)), (0, .ref 74), (1, .int x1), (3, .int x3), (4, .int x4)] rfl ?_
  refine ov_goto 149 dX6_worksOut_82 (by decide) ?_
  refine ov_pick [1, 2, 0, 3, 4] [(0, .ref 74), (1, .int x1), (2, .int (x2 + 1)), (3, .int x3), (4, .int x4)] rfl ?_
  exact V_X6_worksOut_149 hR21 x1 (x2 + 1) x3 x4 σ2 hF
def F_X6_worksOut_115 (R21 : Int32 → Int32 → Int32 → Int32 → ovSt → Prop) (k : Int32 → ovSt → Prop) (x1 : Int32) (x2 : Int32) (x3 : Int32) (x4 : Int32) (t0 : Int32) (t1 : Int32) (σ : ovSt) : Prop := (vp_in t1 96 ∧ (∀ σ4 : ovSt, σ4 = ov_up σ 87 (Int32.toNatClampNeg t1) t0 → (F_X6_worksOut_149 R21 k x1 x2 x3 x4 σ4)))
set_option maxRecDepth 100000 in
set_option maxHeartbeats 4000000 in
theorem V_X6_worksOut_115 {k : Int32 → ovSt → Prop} {R21 : Int32 → Int32 → Int32 → Int32 → ovSt → Prop} (hR21 : ∀ (x1 : Int32) (x2 : Int32) (x3 : Int32) (x4 : Int32) (σ : ovSt), R21 x1 x2 x3 x4 σ → vv_X6_worksOut k 21 [(0, .ref 74), (1, .int x1), (2, .int x2), (3, .int x3), (4, .int x4)] [] σ) (x1 : Int32) (x2 : Int32) (x3 : Int32) (x4 : Int32) (t0 : Int32) (t1 : Int32) (σ : ovSt) (hF : F_X6_worksOut_115 R21 k x1 x2 x3 x4 t0 t1 σ) : vv_X6_worksOut k 115 [(0, .ref 74), (1, .int x1), (2, .int x2), (3, .int x3), (4, .int x4)] [.int t0, .int t1, .ref 87] σ := by
  unfold F_X6_worksOut_115 at hF
  have h3 := hF.1
  have hF := hF.2
  refine ov_iastore dX6_worksOut_115 sh_87 h3 ?_
  refine ov_nmS (fun σ4 es4 => ?_)
  have hF := hF σ4 es4
  refine ov_goto 149 dX6_worksOut_116 (by decide) ?_
  exact V_X6_worksOut_149 hR21 x1 x2 x3 x4 σ4 hF
def F_X6_worksOut_21 (k : Int32 → ovSt → Prop) : Nat → Int32 → Int32 → Int32 → Int32 → ovSt → Prop
  | 0 => fun _ _ _ _ _ => False
  | n + 1 => fun x1 x2 x3 x4 σ => (if x3 ≤ x4 then (vp_in 0 96 ∧ (k (σ 87 (Int32.toNatClampNeg 0)) σ)) else (vp_in ((68 + (96 * x1)) + x4) 1412 ∧ (∀ v7 : Int32, v7 = (σ 75 (Int32.toNatClampNeg ((68 + (96 * x1)) + x4))) → (if v7 < 0 then (if v7 = ((-10) : Int32) then (vp_in (x2 - 1) 96 ∧ (if (σ 87 (Int32.toNatClampNeg (x2 - 1))) = 0 then (F_X6_worksOut_115 (F_X6_worksOut_21 k n) k x1 x2 x3 x4 1 (x2 - 1) σ) else (F_X6_worksOut_115 (F_X6_worksOut_21 k n) k x1 x2 x3 x4 0 (x2 - 1) σ))) else (vp_in ((x2 + (-1)) - 1) 96 ∧ (vp_in (x2 + (-1)) 96 ∧ (F_X6_two v7 (σ 87 (Int32.toNatClampNeg ((x2 + (-1)) - 1))) (σ 87 (Int32.toNatClampNeg (x2 + (-1)))) σ (fun v10 σ11 => (∀ σ12 : ovSt, σ12 = ov_up σ11 87 (Int32.toNatClampNeg ((x2 + (-1)) - 1)) v10 → (F_X6_worksOut_149 (F_X6_worksOut_21 k n) k x1 (x2 + (-1)) x3 x4 σ12))))))) else (if (10000 : Int32) ≤ v7 then (vp_in (v7 - 10000) 4 ∧ (F_X6_worksOut_78 (F_X6_worksOut_21 k n) k x1 x2 x3 x4 (σ 88 (Int32.toNatClampNeg (v7 - 10000))) x2 σ)) else (F_X6_worksOut_78 (F_X6_worksOut_21 k n) k x1 x2 x3 x4 v7 x2 σ))))))
set_option maxRecDepth 100000 in
set_option maxHeartbeats 4000000 in
theorem V_X6_worksOut_21 {k : Int32 → ovSt → Prop} : ∀ (n : Nat) (x1 : Int32) (x2 : Int32) (x3 : Int32) (x4 : Int32) (σ : ovSt), F_X6_worksOut_21 k n x1 x2 x3 x4 σ → vv_X6_worksOut k 21 [(0, .ref 74), (1, .int x1), (2, .int x2), (3, .int x3), (4, .int x4)] [] σ := by
  intro n
  induction n with
  | zero => intro x1 x2 x3 x4 σ hF; exact hF.elim
  | succ n ih =>
    intro x1 x2 x3 x4 σ hF
    unfold F_X6_worksOut_21 at hF
    refine ov_iload dX6_worksOut_21 4 rfl ?_
    refine ov_iload_n dX6_worksOut_23 3 rfl ?_
    refine ov_icmp_ge 155 dX6_worksOut_24 (by decide) hF (fun hF => ?_) (fun hF => ?_)
    · refine ov_aload_n dX6_worksOut_155 0 rfl ?_
      refine ov_getr (T := TX6) (kf := 23) dX6_worksOut_156 qf_X6_48 sh_74 rfl (Nat.le_of_ble_eq_true rfl) rfl (by decide) ?_
      refine ov_iconst 0 (by decide) dX6_worksOut_159 ?_
      have h5 := hF.1
      have hF := hF.2
      refine ov_iaload dX6_worksOut_160 sh_87 h5 ?_
      exact ov_ireturn dX6_worksOut_161 (Nat.le_refl _) (Nat.le_refl _) ⟨rfl, trivial, _, rfl, hF⟩
    · refine ov_aload_n dX6_worksOut_27 0 rfl ?_
      refine ov_getr (T := TX6) (kf := 0) dX6_worksOut_28 qf_X6_9 sh_74 rfl (Nat.le_of_ble_eq_true rfl) rfl (by decide) ?_
      refine ov_bipush 68 (by decide) dX6_worksOut_31 ?_
      refine ov_bipush 96 (by decide) dX6_worksOut_33 ?_
      refine ov_iload_n dX6_worksOut_35 1 rfl ?_
      refine ov_imul dX6_worksOut_36 ?_
      refine ov_iadd dX6_worksOut_37 ?_
      refine ov_iload dX6_worksOut_38 4 rfl ?_
      refine ov_iadd dX6_worksOut_40 ?_
      have h6 := hF.1
      have hF := hF.2
      refine ov_iaload dX6_worksOut_41 sh_75 h6 ?_
      refine ov_nmI (fun v7 ev7 => ?_)
      have hF := hF v7 ev7
      refine ov_istore dX6_worksOut_42 (Nat.le_of_ble_eq_true rfl) [(5, .int v7), (0, .ref 74), (1, .int x1), (2, .int x2), (3, .int x3), (4, .int x4)] rfl ?_
      refine ov_iload dX6_worksOut_44 0 rfl ?_
      refine ov_if_lt 85 dX6_worksOut_46 (by decide) hF (fun hF => ?_) (fun hF => ?_)
      · refine ov_iload dX6_worksOut_85 0 rfl ?_
        refine ov_bipush (-10) (by decide) dX6_worksOut_87 ?_
        refine ov_icmp_ne 119 dX6_worksOut_89 (by decide) hF (fun hF => ?_) (fun hF => ?_)
        · refine ov_iinc dX6_worksOut_119 3 rfl (x2 + (-1)) rfl (Nat.le_of_ble_eq_true rfl) [(2, .int (x2 + (-1))), (5, .int v7), (0, .ref 74), (1, .int x1), (3, .int x3), (4, .int x4)] rfl ?_
          refine ov_aload_n dX6_worksOut_122 2 rfl ?_
          refine ov_getr (T := TX6) (kf := 23) dX6_worksOut_123 qf_X6_48 sh_74 rfl (Nat.le_of_ble_eq_true rfl) rfl (by decide) ?_
          refine ov_iload_n dX6_worksOut_126 0 rfl ?_
          refine ov_iconst 1 (by decide) dX6_worksOut_127 ?_
          refine ov_isub dX6_worksOut_128 ?_
          refine ov_iload dX6_worksOut_129 1 rfl ?_
          refine ov_aload_n dX6_worksOut_131 2 rfl ?_
          refine ov_getr (T := TX6) (kf := 23) dX6_worksOut_132 qf_X6_48 sh_74 rfl (Nat.le_of_ble_eq_true rfl) rfl (by decide) ?_
          refine ov_iload_n dX6_worksOut_135 0 rfl ?_
          refine ov_iconst 1 (by decide) dX6_worksOut_136 ?_
          refine ov_isub dX6_worksOut_137 ?_
          have h8 := hF.1
          have hF := hF.2
          refine ov_iaload dX6_worksOut_138 sh_87 h8 ?_
          refine ov_aload_n dX6_worksOut_139 2 rfl ?_
          refine ov_getr (T := TX6) (kf := 23) dX6_worksOut_140 qf_X6_48 sh_74 rfl (Nat.le_of_ble_eq_true rfl) rfl (by decide) ?_
          refine ov_iload_n dX6_worksOut_143 0 rfl ?_
          have h9 := hF.1
          have hF := hF.2
          refine ov_iaload dX6_worksOut_144 sh_87 h9 ?_
          refine ov_callS [.int v7, .int (σ 87 (Int32.toNatClampNeg ((x2 + (-1)) - 1))), .int (σ 87 (Int32.toNatClampNeg (x2 + (-1))))] dX6_worksOut_145 (c_X6_two hF) (Nat.le_of_ble_eq_true rfl) (Nat.le_of_ble_eq_true rfl) lk_X6_259 (Nat.le_of_ble_eq_true rfl) (Nat.le_refl _) (Nat.le_refl _) (fun rr σ11 hF => ?_)
          obtain ⟨v10, rfl, hF⟩ := hF
          show vv_X6_worksOut k 148 [(2, .int (x2 + (-1))), (5, .int v7), (0, .ref 74), (1, .int x1), (3, .int x3), (4, .int x4)] [.int v10, .int ((x2 + (-1)) - 1), .ref 87] σ11
          refine ov_iastore dX6_worksOut_148 sh_87 h8 ?_
          refine ov_nmS (fun σ12 es12 => ?_)
          have hF := hF σ12 es12
          refine ov_pick [2, 3, 0, 4, 5] [(0, .ref 74), (1, .int x1), (2, .int (x2 + (-1))), (3, .int x3), (4, .int x4)] rfl ?_
          exact V_X6_worksOut_149 ih x1 (x2 + (-1)) x3 x4 σ12 hF
        · refine ov_aload_n dX6_worksOut_92 1 rfl ?_
          refine ov_getr (T := TX6) (kf := 23) dX6_worksOut_93 qf_X6_48 sh_74 rfl (Nat.le_of_ble_eq_true rfl) rfl (by decide) ?_
          refine ov_iload_n dX6_worksOut_96 3 rfl ?_
          refine ov_iconst 1 (by decide) dX6_worksOut_97 ?_
          refine ov_isub dX6_worksOut_98 ?_
          refine ov_aload_n dX6_worksOut_99 1 rfl ?_
          refine ov_getr (T := TX6) (kf := 23) dX6_worksOut_100 qf_X6_48 sh_74 rfl (Nat.le_of_ble_eq_true rfl) rfl (by decide) ?_
          refine ov_iload_n dX6_worksOut_103 3 rfl ?_
          refine ov_iconst 1 (by decide) dX6_worksOut_104 ?_
          refine ov_isub dX6_worksOut_105 ?_
          have h13 := hF.1
          have hF := hF.2
          refine ov_iaload dX6_worksOut_106 sh_87 h13 ?_
          refine ov_if_ne 114 dX6_worksOut_107 (by decide) hF (fun hF => ?_) (fun hF => ?_)
          · refine ov_iconst 0 (by decide) dX6_worksOut_114 ?_
            refine ov_pick [1, 2, 3, 4, 5] [(0, .ref 74), (1, .int x1), (2, .int x2), (3, .int x3), (4, .int x4)] rfl ?_
            exact V_X6_worksOut_115 ih x1 x2 x3 x4 0 (x2 - 1) σ hF
          · refine ov_iconst 1 (by decide) dX6_worksOut_110 ?_
            refine ov_goto 115 dX6_worksOut_111 (by decide) ?_
            refine ov_pick [1, 2, 3, 4, 5] [(0, .ref 74), (1, .int x1), (2, .int x2), (3, .int x3), (4, .int x4)] rfl ?_
            exact V_X6_worksOut_115 ih x1 x2 x3 x4 1 (x2 - 1) σ hF
      · refine ov_aload_n dX6_worksOut_49 1 rfl ?_
        refine ov_getr (T := TX6) (kf := 23) dX6_worksOut_50 qf_X6_48 sh_74 rfl (Nat.le_of_ble_eq_true rfl) rfl (by decide) ?_
        refine ov_iload_n dX6_worksOut_53 3 rfl ?_
        refine ov_iload dX6_worksOut_54 0 rfl ?_
        refine ov_sipush 10000 (by decide) dX6_worksOut_56 ?_
        refine ov_icmp_ge 67 dX6_worksOut_59 (by decide) hF (fun hF => ?_) (fun hF => ?_)
        · refine ov_aload_n dX6_worksOut_67 1 rfl ?_
          refine ov_getr (T := TX6) (kf := 24) dX6_worksOut_68 qf_X6_51 sh_74 rfl (Nat.le_of_ble_eq_true rfl) rfl (by decide) ?_
          refine ov_iload dX6_worksOut_71 0 rfl ?_
          refine ov_sipush 10000 (by decide) dX6_worksOut_73 ?_
          refine ov_isub dX6_worksOut_76 ?_
          have h14 := hF.1
          have hF := hF.2
          refine ov_iaload dX6_worksOut_77 sh_88 h14 ?_
          refine ov_pick [1, 2, 3, 4, 5] [(0, .ref 74), (1, .int x1), (2, .int x2), (3, .int x3), (4, .int x4)] rfl ?_
          exact V_X6_worksOut_78 ih x1 x2 x3 x4 (σ 88 (Int32.toNatClampNeg (v7 - 10000))) x2 σ hF
        · refine ov_iload dX6_worksOut_62 0 rfl ?_
          refine ov_goto 78 dX6_worksOut_64 (by decide) ?_
          refine ov_pick [1, 2, 3, 4, 5] [(0, .ref 74), (1, .int x1), (2, .int x2), (3, .int x3), (4, .int x4)] rfl ?_
          exact V_X6_worksOut_78 ih x1 x2 x3 x4 v7 x2 σ hF
def F_X6_worksOut (x1 : Int32) (σ : ovSt) (k : Int32 → ovSt → Prop) : Prop := (vp_in (40 + (2 * x1)) 1412 ∧ (∀ v16 : Int32, v16 = ((σ 75 (Int32.toNatClampNeg (40 + (2 * x1)))) - (σ 75 (Int32.toNatClampNeg (40 + (2 * x1)))) / 1000 * 1000) → (∃ n17, F_X6_worksOut_21 k n17 x1 0 v16 0 σ)))
set_option maxRecDepth 100000 in
set_option maxHeartbeats 4000000 in
theorem c_X6_worksOut {x1 : Int32} {σ : ovSt} {k : Int32 → ovSt → Prop} (hF : F_X6_worksOut x1 σ k) : ov_Ct 1 yX6_worksOut cX6_worksOut 6 (some .int) ov_S0 [.ref 74, .int x1] σ (ovKi k) := by
  refine ov_Ct.of (by decide) (Nat.le_of_ble_eq_true rfl) ?_
  unfold F_X6_worksOut at hF
  show vv_X6_worksOut k 0 [(0, .ref 74), (1, .int x1)] [] σ
  refine ov_iconst 0 (by decide) dX6_worksOut_0 ?_
  refine ov_istore_n dX6_worksOut_1 (Nat.le_of_ble_eq_true rfl) [(2, .int 0), (0, .ref 74), (1, .int x1)] rfl ?_
  refine ov_aload_n dX6_worksOut_2 1 rfl ?_
  refine ov_getr (T := TX6) (kf := 0) dX6_worksOut_3 qf_X6_9 sh_74 rfl (Nat.le_of_ble_eq_true rfl) rfl (by decide) ?_
  refine ov_bipush 40 (by decide) dX6_worksOut_6 ?_
  refine ov_iconst 2 (by decide) dX6_worksOut_8 ?_
  refine ov_iload_n dX6_worksOut_9 2 rfl ?_
  refine ov_imul dX6_worksOut_10 ?_
  refine ov_iadd dX6_worksOut_11 ?_
  have h15 := hF.1
  have hF := hF.2
  refine ov_iaload dX6_worksOut_12 sh_75 h15 ?_
  refine ov_sipush 1000 (by decide) dX6_worksOut_13 ?_
  refine ov_irem (by decide) dX6_worksOut_16 ?_
  refine ov_nmI (fun v16 ev16 => ?_)
  have hF := hF v16 ev16
  refine ov_istore_n dX6_worksOut_17 (Nat.le_of_ble_eq_true rfl) [(3, .int v16), (2, .int 0), (0, .ref 74), (1, .int x1)] rfl ?_
  refine ov_iconst 0 (by decide) dX6_worksOut_18 ?_
  refine ov_istore dX6_worksOut_19 (Nat.le_of_ble_eq_true rfl) [(4, .int 0), (3, .int v16), (2, .int 0), (0, .ref 74), (1, .int x1)] rfl ?_
  refine ov_pick [3, 4, 2, 1, 0] [(0, .ref 74), (1, .int x1), (2, .int 0), (3, .int v16), (4, .int 0)] rfl ?_
  obtain ⟨n17, hF⟩ := hF
  exact V_X6_worksOut_21 n17 x1 0 v16 0 σ hF
/-! X6_fadesBy -/
abbrev vv_X6_fadesBy (k : Int32 → ovSt → Prop) (pc : Nat) (L : List (Nat × Value)) (st : List Value) (σ : ovSt) : Prop := ov_V (ovZs 2 yX6_fadesBy cX6_fadesBy 4) (ovKs (some .int) ov_S0 (ovKi k)) (0, 0) ov_S0 pc L st σ
def F_X6_fadesBy_57 (k : Int32 → ovSt → Prop) (x2 : Int32) (t0 : Int32) (σ : ovSt) : Prop := (F_X6_within t0 0 x2 σ (fun v1 σ2 => (k v1 σ2)))
set_option maxRecDepth 100000 in
set_option maxHeartbeats 4000000 in
theorem V_X6_fadesBy_57 {k : Int32 → ovSt → Prop} (x2 : Int32) (t0 : Int32) (σ : ovSt) (hF : F_X6_fadesBy_57 k x2 t0 σ) : vv_X6_fadesBy k 57 [(2, .int x2)] [.int t0] σ := by
  unfold F_X6_fadesBy_57 at hF
  refine ov_iconst 0 (by decide) dX6_fadesBy_57 ?_
  refine ov_iload_n dX6_fadesBy_58 0 rfl ?_
  refine ov_callS [.int t0, .int 0, .int x2] dX6_fadesBy_59 (c_X6_within hF) (Nat.le_of_ble_eq_true rfl) (Nat.le_of_ble_eq_true rfl) lk_X6_101 (Nat.le_of_ble_eq_true rfl) (Nat.le_refl _) (Nat.le_refl _) (fun rr σ2 hF => ?_)
  obtain ⟨v1, rfl, hF⟩ := hF
  show vv_X6_fadesBy k 62 [(2, .int x2)] [.int v1] σ2
  exact ov_ireturn dX6_fadesBy_62 (Nat.le_refl _) (Nat.le_refl _) ⟨rfl, trivial, _, rfl, hF⟩
def F_X6_fadesBy (x1 : Int32) (x2 : Int32) (σ : ovSt) (k : Int32 → ovSt → Prop) : Prop := (F_X6_counts 0 σ (fun v3 σ4 => (F_X6_of x1 2 σ4 (fun v5 σ6 => (vp_in 0 4 ∧ (∀ σ8 : ovSt, σ8 = ov_up σ6 88 (Int32.toNatClampNeg 0) v5 → (F_X6_of x1 3 σ8 (fun v9 σ10 => (vp_in 1 4 ∧ (∀ σ12 : ovSt, σ12 = ov_up σ10 88 (Int32.toNatClampNeg 1) v9 → (vp_in 2 4 ∧ (∀ σ14 : ovSt, σ14 = ov_up σ12 88 (Int32.toNatClampNeg 2) x2 → (if 0 ≤ v3 then (F_X6_worksOut v3 σ14 (fun v15 σ16 => (F_X6_fadesBy_57 k x2 v15 σ16))) else (F_X6_of x1 3 σ14 (fun v17 σ18 => (F_X6_fadesBy_57 k x2 (2 * v17) σ18))))))))))))))))
set_option maxRecDepth 100000 in
set_option maxHeartbeats 4000000 in
theorem c_X6_fadesBy {x1 : Int32} {x2 : Int32} {σ : ovSt} {k : Int32 → ovSt → Prop} (hF : F_X6_fadesBy x1 x2 σ k) : ov_Ct 2 yX6_fadesBy cX6_fadesBy 4 (some .int) ov_S0 [.ref 74, .int x1, .int x2] σ (ovKi k) := by
  refine ov_Ct.of (by decide) (Nat.le_of_ble_eq_true rfl) ?_
  unfold F_X6_fadesBy at hF
  show vv_X6_fadesBy k 0 [(0, .ref 74), (1, .int x1), (2, .int x2)] [] σ
  refine ov_aload_n dX6_fadesBy_0 0 rfl ?_
  refine ov_iconst 0 (by decide) dX6_fadesBy_1 ?_
  refine ov_callV [.int 0] dX6_fadesBy_2 (c_X6_counts hF) (Nat.le_of_ble_eq_true rfl) (Nat.le_of_ble_eq_true rfl) lk_X6_112 sh_74 rfl (Nat.le_of_ble_eq_true rfl) (Nat.le_refl _) (Nat.le_refl _) (fun rr σ4 hF => ?_)
  obtain ⟨v3, rfl, hF⟩ := hF
  show vv_X6_fadesBy k 5 [(0, .ref 74), (1, .int x1), (2, .int x2)] [.int v3] σ4
  refine ov_istore_n dX6_fadesBy_5 (Nat.le_of_ble_eq_true rfl) [(3, .int v3), (0, .ref 74), (1, .int x1), (2, .int x2)] rfl ?_
  refine ov_aload_n dX6_fadesBy_6 1 rfl ?_
  refine ov_getr (T := TX6) (kf := 24) dX6_fadesBy_7 qf_X6_51 sh_74 rfl (Nat.le_of_ble_eq_true rfl) rfl (by decide) ?_
  refine ov_iconst 0 (by decide) dX6_fadesBy_10 ?_
  refine ov_aload_n dX6_fadesBy_11 1 rfl ?_
  refine ov_iload_n dX6_fadesBy_12 2 rfl ?_
  refine ov_iconst 2 (by decide) dX6_fadesBy_13 ?_
  refine ov_callV [.int x1, .int 2] dX6_fadesBy_14 (c_X6_of hF) (Nat.le_of_ble_eq_true rfl) (Nat.le_of_ble_eq_true rfl) lk_X6_96 sh_74 rfl (Nat.le_of_ble_eq_true rfl) (Nat.le_refl _) (Nat.le_refl _) (fun rr σ6 hF => ?_)
  obtain ⟨v5, rfl, hF⟩ := hF
  show vv_X6_fadesBy k 17 [(3, .int v3), (0, .ref 74), (1, .int x1), (2, .int x2)] [.int v5, .int 0, .ref 88] σ6
  have h7 := hF.1
  have hF := hF.2
  refine ov_iastore dX6_fadesBy_17 sh_88 h7 ?_
  refine ov_nmS (fun σ8 es8 => ?_)
  have hF := hF σ8 es8
  refine ov_aload_n dX6_fadesBy_18 1 rfl ?_
  refine ov_getr (T := TX6) (kf := 24) dX6_fadesBy_19 qf_X6_51 sh_74 rfl (Nat.le_of_ble_eq_true rfl) rfl (by decide) ?_
  refine ov_iconst 1 (by decide) dX6_fadesBy_22 ?_
  refine ov_aload_n dX6_fadesBy_23 1 rfl ?_
  refine ov_iload_n dX6_fadesBy_24 2 rfl ?_
  refine ov_iconst 3 (by decide) dX6_fadesBy_25 ?_
  refine ov_callV [.int x1, .int 3] dX6_fadesBy_26 (c_X6_of hF) (Nat.le_of_ble_eq_true rfl) (Nat.le_of_ble_eq_true rfl) lk_X6_96 sh_74 rfl (Nat.le_of_ble_eq_true rfl) (Nat.le_refl _) (Nat.le_refl _) (fun rr σ10 hF => ?_)
  obtain ⟨v9, rfl, hF⟩ := hF
  show vv_X6_fadesBy k 29 [(3, .int v3), (0, .ref 74), (1, .int x1), (2, .int x2)] [.int v9, .int 1, .ref 88] σ10
  have h11 := hF.1
  have hF := hF.2
  refine ov_iastore dX6_fadesBy_29 sh_88 h11 ?_
  refine ov_nmS (fun σ12 es12 => ?_)
  have hF := hF σ12 es12
  refine ov_aload_n dX6_fadesBy_30 1 rfl ?_
  refine ov_getr (T := TX6) (kf := 24) dX6_fadesBy_31 qf_X6_51 sh_74 rfl (Nat.le_of_ble_eq_true rfl) rfl (by decide) ?_
  refine ov_iconst 2 (by decide) dX6_fadesBy_34 ?_
  refine ov_iload_n dX6_fadesBy_35 3 rfl ?_
  have h13 := hF.1
  have hF := hF.2
  refine ov_iastore dX6_fadesBy_36 sh_88 h13 ?_
  refine ov_nmS (fun σ14 es14 => ?_)
  have hF := hF σ14 es14
  refine ov_iload_n dX6_fadesBy_37 0 rfl ?_
  refine ov_if_ge 52 dX6_fadesBy_38 (by decide) hF (fun hF => ?_) (fun hF => ?_)
  · refine ov_aload_n dX6_fadesBy_52 1 rfl ?_
    refine ov_iload_n dX6_fadesBy_53 0 rfl ?_
    refine ov_callV [.int v3] dX6_fadesBy_54 (c_X6_worksOut hF) (Nat.le_of_ble_eq_true rfl) (Nat.le_of_ble_eq_true rfl) lk_X6_116 sh_74 rfl (Nat.le_of_ble_eq_true rfl) (Nat.le_refl _) (Nat.le_refl _) (fun rr σ16 hF => ?_)
    obtain ⟨v15, rfl, hF⟩ := hF
    show vv_X6_fadesBy k 57 [(3, .int v3), (0, .ref 74), (1, .int x1), (2, .int x2)] [.int v15] σ16
    refine ov_pick [3] [(2, .int x2)] rfl ?_
    exact V_X6_fadesBy_57 x2 v15 σ16 hF
  · refine ov_iconst 2 (by decide) dX6_fadesBy_41 ?_
    refine ov_aload_n dX6_fadesBy_42 1 rfl ?_
    refine ov_iload_n dX6_fadesBy_43 2 rfl ?_
    refine ov_iconst 3 (by decide) dX6_fadesBy_44 ?_
    refine ov_callV [.int x1, .int 3] dX6_fadesBy_45 (c_X6_of hF) (Nat.le_of_ble_eq_true rfl) (Nat.le_of_ble_eq_true rfl) lk_X6_96 sh_74 rfl (Nat.le_of_ble_eq_true rfl) (Nat.le_refl _) (Nat.le_refl _) (fun rr σ18 hF => ?_)
    obtain ⟨v17, rfl, hF⟩ := hF
    show vv_X6_fadesBy k 48 [(3, .int v3), (0, .ref 74), (1, .int x1), (2, .int x2)] [.int v17, .int 2] σ18
    refine ov_imul dX6_fadesBy_48 ?_
    refine ov_goto 57 dX6_fadesBy_49 (by decide) ?_
    refine ov_pick [3] [(2, .int x2)] rfl ?_
    exact V_X6_fadesBy_57 x2 (2 * v17) σ18 hF
/-! X6_tasteOf -/
abbrev vv_X6_tasteOf (k : Int32 → ovSt → Prop) (pc : Nat) (L : List (Nat × Value)) (st : List Value) (σ : ovSt) : Prop := ov_V (ovZs 3 yX6_tasteOf cX6_tasteOf 4) (ovKs (some .int) ov_S0 (ovKi k)) (0, 0) ov_S0 pc L st σ
def F_X6_tasteOf_42 (k : Int32 → ovSt → Prop) (x1 : Int32) (x2 : Int32) (t0 : Int32) (σ : ovSt) : Prop := (F_X6_of x1 0 σ (fun v1 σ2 => (if v1 = 1 then (k (x2 + t0) σ2) else (if v1 = 2 then (F_X6_fadesBy x1 x2 σ2 (fun v10 σ11 => (k (x2 - v10) σ11))) else (if v1 = 3 then (k (2 * (x2 + t0)) σ2) else (if v1 = 4 then (F_X6_fadesBy x1 x2 σ2 (fun v8 σ9 => (k ((x2 - v8) / 2) σ9))) else (if v1 = 5 then (k (2 * x2) σ2) else (k x2 σ2))))))))
set_option maxRecDepth 100000 in
set_option maxHeartbeats 4000000 in
theorem V_X6_tasteOf_42 {k : Int32 → ovSt → Prop} (x1 : Int32) (x2 : Int32) (t0 : Int32) (σ : ovSt) (hF : F_X6_tasteOf_42 k x1 x2 t0 σ) : vv_X6_tasteOf k 42 [(0, .ref 74), (1, .int x1), (2, .int x2)] [.int t0] σ := by
  unfold F_X6_tasteOf_42 at hF
  refine ov_istore_n dX6_tasteOf_42 (Nat.le_of_ble_eq_true rfl) [(3, .int t0), (0, .ref 74), (1, .int x1), (2, .int x2)] rfl ?_
  refine ov_aload_n dX6_tasteOf_43 1 rfl ?_
  refine ov_iload_n dX6_tasteOf_44 2 rfl ?_
  refine ov_iconst 0 (by decide) dX6_tasteOf_45 ?_
  refine ov_callV [.int x1, .int 0] dX6_tasteOf_46 (c_X6_of hF) (Nat.le_of_ble_eq_true rfl) (Nat.le_of_ble_eq_true rfl) lk_X6_96 sh_74 rfl (Nat.le_of_ble_eq_true rfl) (Nat.le_refl _) (Nat.le_refl _) (fun rr σ2 hF => ?_)
  obtain ⟨v1, rfl, hF⟩ := hF
  show vv_X6_tasteOf k 49 [(3, .int t0), (0, .ref 74), (1, .int x1), (2, .int x2)] [.int v1] σ2
  refine ov_br hF (fun z3 hF => ?_) (fun z3 hF => ?_)
  · refine ov_tin 1 35 84 dX6_tasteOf_49 z3 (by decide) (by decide) rfl (by decide) ?_
    refine ov_iload_n dX6_tasteOf_84 3 rfl ?_
    refine ov_iload_n dX6_tasteOf_85 0 rfl ?_
    refine ov_iadd dX6_tasteOf_86 ?_
    exact ov_ireturn dX6_tasteOf_87 (Nat.le_refl _) (Nat.le_refl _) ⟨rfl, trivial, _, rfl, hF⟩
  · refine ov_br hF (fun z4 hF => ?_) (fun z4 hF => ?_)
    · refine ov_tin 2 39 88 dX6_tasteOf_49 z4 (by decide) (by decide) rfl (by decide) ?_
      refine ov_iload_n dX6_tasteOf_88 3 rfl ?_
      refine ov_aload_n dX6_tasteOf_89 1 rfl ?_
      refine ov_iload_n dX6_tasteOf_90 2 rfl ?_
      refine ov_iload_n dX6_tasteOf_91 3 rfl ?_
      refine ov_callV [.int x1, .int x2] dX6_tasteOf_92 (c_X6_fadesBy hF) (Nat.le_of_ble_eq_true rfl) (Nat.le_of_ble_eq_true rfl) lk_X6_119 sh_74 rfl (Nat.le_of_ble_eq_true rfl) (Nat.le_refl _) (Nat.le_refl _) (fun rr σ11 hF => ?_)
      obtain ⟨v10, rfl, hF⟩ := hF
      show vv_X6_tasteOf k 95 [(3, .int t0), (0, .ref 74), (1, .int x1), (2, .int x2)] [.int v10, .int x2] σ11
      refine ov_isub dX6_tasteOf_95 ?_
      exact ov_ireturn dX6_tasteOf_96 (Nat.le_refl _) (Nat.le_refl _) ⟨rfl, trivial, _, rfl, hF⟩
    · refine ov_br hF (fun z5 hF => ?_) (fun z5 hF => ?_)
      · refine ov_tin 3 48 97 dX6_tasteOf_49 z5 (by decide) (by decide) rfl (by decide) ?_
        refine ov_iconst 2 (by decide) dX6_tasteOf_97 ?_
        refine ov_iload_n dX6_tasteOf_98 3 rfl ?_
        refine ov_iload_n dX6_tasteOf_99 0 rfl ?_
        refine ov_iadd dX6_tasteOf_100 ?_
        refine ov_imul dX6_tasteOf_101 ?_
        exact ov_ireturn dX6_tasteOf_102 (Nat.le_refl _) (Nat.le_refl _) ⟨rfl, trivial, _, rfl, hF⟩
      · refine ov_br hF (fun z6 hF => ?_) (fun z6 hF => ?_)
        · refine ov_tin 4 54 103 dX6_tasteOf_49 z6 (by decide) (by decide) rfl (by decide) ?_
          refine ov_iload_n dX6_tasteOf_103 3 rfl ?_
          refine ov_aload_n dX6_tasteOf_104 1 rfl ?_
          refine ov_iload_n dX6_tasteOf_105 2 rfl ?_
          refine ov_iload_n dX6_tasteOf_106 3 rfl ?_
          refine ov_callV [.int x1, .int x2] dX6_tasteOf_107 (c_X6_fadesBy hF) (Nat.le_of_ble_eq_true rfl) (Nat.le_of_ble_eq_true rfl) lk_X6_119 sh_74 rfl (Nat.le_of_ble_eq_true rfl) (Nat.le_refl _) (Nat.le_refl _) (fun rr σ9 hF => ?_)
          obtain ⟨v8, rfl, hF⟩ := hF
          show vv_X6_tasteOf k 110 [(3, .int t0), (0, .ref 74), (1, .int x1), (2, .int x2)] [.int v8, .int x2] σ9
          refine ov_isub dX6_tasteOf_110 ?_
          refine ov_iconst 2 (by decide) dX6_tasteOf_111 ?_
          refine ov_idiv (by decide) dX6_tasteOf_112 ?_
          exact ov_ireturn dX6_tasteOf_113 (Nat.le_refl _) (Nat.le_refl _) ⟨rfl, trivial, _, rfl, hF⟩
        · refine ov_br hF (fun z7 hF => ?_) (fun z7 hF => ?_)
          · refine ov_tin 5 65 114 dX6_tasteOf_49 z7 (by decide) (by decide) rfl (by decide) ?_
            refine ov_iconst 2 (by decide) dX6_tasteOf_114 ?_
            refine ov_iload_n dX6_tasteOf_115 3 rfl ?_
            refine ov_imul dX6_tasteOf_116 ?_
            exact ov_ireturn dX6_tasteOf_117 (Nat.le_refl _) (Nat.le_refl _) ⟨rfl, trivial, _, rfl, hF⟩
          · refine ov_tout 118 dX6_tasteOf_49 (by have q0 := lv_neT (k := 1) (a := 1) z3 rfl; have q1 := lv_neT (k := 2) (a := 2) z4 rfl; have q2 := lv_neT (k := 3) (a := 3) z5 rfl; have q3 := lv_neT (k := 4) (a := 4) z6 rfl; have q4 := lv_neT (k := 5) (a := 5) z7 rfl; omega) (by decide) ?_
            refine ov_iload_n dX6_tasteOf_118 3 rfl ?_
            exact ov_ireturn dX6_tasteOf_119 (Nat.le_refl _) (Nat.le_refl _) ⟨rfl, trivial, _, rfl, hF⟩
def F_X6_tasteOf (x1 : Int32) (σ : ovSt) (k : Int32 → ovSt → Prop) : Prop := (F_X6_of x1 2 σ (fun v12 σ13 => (F_X6_of x1 1 σ13 (fun v14 σ15 => (∀ v16 : Int32, v16 = ((v12 * v14) / 100) → (F_X6_of x1 2 σ15 (fun v17 σ18 => (if v17 ≤ 0 then (F_X6_tasteOf_42 k x1 v16 0 σ18) else (F_X6_of x1 3 σ18 (fun v19 σ20 => (F_X6_within v19 0 30 σ20 (fun v21 σ22 => (F_X6_tasteOf_42 k x1 v16 v21 σ22)))))))))))))
set_option maxRecDepth 100000 in
set_option maxHeartbeats 4000000 in
theorem c_X6_tasteOf {x1 : Int32} {σ : ovSt} {k : Int32 → ovSt → Prop} (hF : F_X6_tasteOf x1 σ k) : ov_Ct 3 yX6_tasteOf cX6_tasteOf 4 (some .int) ov_S0 [.ref 74, .int x1] σ (ovKi k) := by
  refine ov_Ct.of (by decide) (Nat.le_of_ble_eq_true rfl) ?_
  unfold F_X6_tasteOf at hF
  show vv_X6_tasteOf k 0 [(0, .ref 74), (1, .int x1)] [] σ
  refine ov_aload_n dX6_tasteOf_0 0 rfl ?_
  refine ov_iload_n dX6_tasteOf_1 1 rfl ?_
  refine ov_iconst 2 (by decide) dX6_tasteOf_2 ?_
  refine ov_callV [.int x1, .int 2] dX6_tasteOf_3 (c_X6_of hF) (Nat.le_of_ble_eq_true rfl) (Nat.le_of_ble_eq_true rfl) lk_X6_96 sh_74 rfl (Nat.le_of_ble_eq_true rfl) (Nat.le_refl _) (Nat.le_refl _) (fun rr σ13 hF => ?_)
  obtain ⟨v12, rfl, hF⟩ := hF
  show vv_X6_tasteOf k 6 [(0, .ref 74), (1, .int x1)] [.int v12] σ13
  refine ov_aload_n dX6_tasteOf_6 0 rfl ?_
  refine ov_iload_n dX6_tasteOf_7 1 rfl ?_
  refine ov_iconst 1 (by decide) dX6_tasteOf_8 ?_
  refine ov_callV [.int x1, .int 1] dX6_tasteOf_9 (c_X6_of hF) (Nat.le_of_ble_eq_true rfl) (Nat.le_of_ble_eq_true rfl) lk_X6_96 sh_74 rfl (Nat.le_of_ble_eq_true rfl) (Nat.le_refl _) (Nat.le_refl _) (fun rr σ15 hF => ?_)
  obtain ⟨v14, rfl, hF⟩ := hF
  show vv_X6_tasteOf k 12 [(0, .ref 74), (1, .int x1)] [.int v14, .int v12] σ15
  refine ov_imul dX6_tasteOf_12 ?_
  refine ov_bipush 100 (by decide) dX6_tasteOf_13 ?_
  refine ov_idiv (by decide) dX6_tasteOf_15 ?_
  refine ov_nmI (fun v16 ev16 => ?_)
  have hF := hF v16 ev16
  refine ov_istore_n dX6_tasteOf_16 (Nat.le_of_ble_eq_true rfl) [(2, .int v16), (0, .ref 74), (1, .int x1)] rfl ?_
  refine ov_aload_n dX6_tasteOf_17 1 rfl ?_
  refine ov_iload_n dX6_tasteOf_18 2 rfl ?_
  refine ov_iconst 2 (by decide) dX6_tasteOf_19 ?_
  refine ov_callV [.int x1, .int 2] dX6_tasteOf_20 (c_X6_of hF) (Nat.le_of_ble_eq_true rfl) (Nat.le_of_ble_eq_true rfl) lk_X6_96 sh_74 rfl (Nat.le_of_ble_eq_true rfl) (Nat.le_refl _) (Nat.le_refl _) (fun rr σ18 hF => ?_)
  obtain ⟨v17, rfl, hF⟩ := hF
  show vv_X6_tasteOf k 23 [(2, .int v16), (0, .ref 74), (1, .int x1)] [.int v17] σ18
  refine ov_if_le 41 dX6_tasteOf_23 (by decide) hF (fun hF => ?_) (fun hF => ?_)
  · refine ov_iconst 0 (by decide) dX6_tasteOf_41 ?_
    refine ov_pick [1, 2, 0] [(0, .ref 74), (1, .int x1), (2, .int v16)] rfl ?_
    exact V_X6_tasteOf_42 x1 v16 0 σ18 hF
  · refine ov_aload_n dX6_tasteOf_26 1 rfl ?_
    refine ov_iload_n dX6_tasteOf_27 2 rfl ?_
    refine ov_iconst 3 (by decide) dX6_tasteOf_28 ?_
    refine ov_callV [.int x1, .int 3] dX6_tasteOf_29 (c_X6_of hF) (Nat.le_of_ble_eq_true rfl) (Nat.le_of_ble_eq_true rfl) lk_X6_96 sh_74 rfl (Nat.le_of_ble_eq_true rfl) (Nat.le_refl _) (Nat.le_refl _) (fun rr σ20 hF => ?_)
    obtain ⟨v19, rfl, hF⟩ := hF
    show vv_X6_tasteOf k 32 [(2, .int v16), (0, .ref 74), (1, .int x1)] [.int v19] σ20
    refine ov_iconst 0 (by decide) dX6_tasteOf_32 ?_
    refine ov_bipush 30 (by decide) dX6_tasteOf_33 ?_
    refine ov_callS [.int v19, .int 0, .int 30] dX6_tasteOf_35 (c_X6_within hF) (Nat.le_of_ble_eq_true rfl) (Nat.le_of_ble_eq_true rfl) lk_X6_101 (Nat.le_of_ble_eq_true rfl) (Nat.le_refl _) (Nat.le_refl _) (fun rr σ22 hF => ?_)
    obtain ⟨v21, rfl, hF⟩ := hF
    show vv_X6_tasteOf k 38 [(2, .int v16), (0, .ref 74), (1, .int x1)] [.int v21] σ22
    refine ov_goto 42 dX6_tasteOf_38 (by decide) ?_
    refine ov_pick [1, 2, 0] [(0, .ref 74), (1, .int x1), (2, .int v16)] rfl ?_
    exact V_X6_tasteOf_42 x1 v16 v21 σ22 hF
/-! X6_wearsOf -/
abbrev vv_X6_wearsOf (k : Int32 → ovSt → Prop) (pc : Nat) (L : List (Nat × Value)) (st : List Value) (σ : ovSt) : Prop := ov_V (ovZs 1 yX6_wearsOf cX6_wearsOf 4) (ovKs (some .int) ov_S0 (ovKi k)) (0, 0) ov_S0 pc L st σ
def F_X6_wearsOf (x1 : Int32) (σ : ovSt) (k : Int32 → ovSt → Prop) : Prop := (F_X6_of x1 2 σ (fun v1 σ2 => (F_X6_within ((v1 / 20) + 1) 0 v1 σ2 (fun v3 σ4 => (F_X6_of x1 0 σ4 (fun v5 σ6 => (if v5 = 1 then (k (v1 / 100) σ6) else (if v5 = 2 then (k v3 σ6) else (if v5 = 3 then (k (v1 / 100) σ6) else (if v5 = 4 then (F_X6_within (2 * v3) 0 v1 σ6 (fun v11 σ12 => (k v11 σ12))) else (k 0 σ6)))))))))))
set_option maxRecDepth 100000 in
set_option maxHeartbeats 4000000 in
theorem c_X6_wearsOf {x1 : Int32} {σ : ovSt} {k : Int32 → ovSt → Prop} (hF : F_X6_wearsOf x1 σ k) : ov_Ct 1 yX6_wearsOf cX6_wearsOf 4 (some .int) ov_S0 [.ref 74, .int x1] σ (ovKi k) := by
  refine ov_Ct.of (by decide) (Nat.le_of_ble_eq_true rfl) ?_
  unfold F_X6_wearsOf at hF
  show vv_X6_wearsOf k 0 [(0, .ref 74), (1, .int x1)] [] σ
  refine ov_aload_n dX6_wearsOf_0 0 rfl ?_
  refine ov_iload_n dX6_wearsOf_1 1 rfl ?_
  refine ov_iconst 2 (by decide) dX6_wearsOf_2 ?_
  refine ov_callV [.int x1, .int 2] dX6_wearsOf_3 (c_X6_of hF) (Nat.le_of_ble_eq_true rfl) (Nat.le_of_ble_eq_true rfl) lk_X6_96 sh_74 rfl (Nat.le_of_ble_eq_true rfl) (Nat.le_refl _) (Nat.le_refl _) (fun rr σ2 hF => ?_)
  obtain ⟨v1, rfl, hF⟩ := hF
  show vv_X6_wearsOf k 6 [(0, .ref 74), (1, .int x1)] [.int v1] σ2
  refine ov_istore_n dX6_wearsOf_6 (Nat.le_of_ble_eq_true rfl) [(2, .int v1), (0, .ref 74), (1, .int x1)] rfl ?_
  refine ov_iload_n dX6_wearsOf_7 0 rfl ?_
  refine ov_bipush 20 (by decide) dX6_wearsOf_8 ?_
  refine ov_idiv (by decide) dX6_wearsOf_10 ?_
  refine ov_iconst 1 (by decide) dX6_wearsOf_11 ?_
  refine ov_iadd dX6_wearsOf_12 ?_
  refine ov_iconst 0 (by decide) dX6_wearsOf_13 ?_
  refine ov_iload_n dX6_wearsOf_14 0 rfl ?_
  refine ov_callS [.int ((v1 / 20) + 1), .int 0, .int v1] dX6_wearsOf_15 (c_X6_within hF) (Nat.le_of_ble_eq_true rfl) (Nat.le_of_ble_eq_true rfl) lk_X6_101 (Nat.le_of_ble_eq_true rfl) (Nat.le_refl _) (Nat.le_refl _) (fun rr σ4 hF => ?_)
  obtain ⟨v3, rfl, hF⟩ := hF
  show vv_X6_wearsOf k 18 [(2, .int v1), (0, .ref 74), (1, .int x1)] [.int v3] σ4
  refine ov_istore_n dX6_wearsOf_18 (Nat.le_of_ble_eq_true rfl) [(3, .int v3), (2, .int v1), (0, .ref 74), (1, .int x1)] rfl ?_
  refine ov_aload_n dX6_wearsOf_19 2 rfl ?_
  refine ov_iload_n dX6_wearsOf_20 3 rfl ?_
  refine ov_iconst 0 (by decide) dX6_wearsOf_21 ?_
  refine ov_callV [.int x1, .int 0] dX6_wearsOf_22 (c_X6_of hF) (Nat.le_of_ble_eq_true rfl) (Nat.le_of_ble_eq_true rfl) lk_X6_96 sh_74 rfl (Nat.le_of_ble_eq_true rfl) (Nat.le_refl _) (Nat.le_refl _) (fun rr σ6 hF => ?_)
  obtain ⟨v5, rfl, hF⟩ := hF
  show vv_X6_wearsOf k 25 [(3, .int v3), (2, .int v1), (0, .ref 74), (1, .int x1)] [.int v5] σ6
  refine ov_br hF (fun z7 hF => ?_) (fun z7 hF => ?_)
  · refine ov_tin 1 31 56 dX6_wearsOf_25 z7 (by decide) (by decide) rfl (by decide) ?_
    refine ov_iload_n dX6_wearsOf_56 1 rfl ?_
    refine ov_bipush 100 (by decide) dX6_wearsOf_57 ?_
    refine ov_idiv (by decide) dX6_wearsOf_59 ?_
    exact ov_ireturn dX6_wearsOf_60 (Nat.le_refl _) (Nat.le_refl _) ⟨rfl, trivial, _, rfl, hF⟩
  · refine ov_br hF (fun z8 hF => ?_) (fun z8 hF => ?_)
    · refine ov_tin 2 36 61 dX6_wearsOf_25 z8 (by decide) (by decide) rfl (by decide) ?_
      refine ov_iload_n dX6_wearsOf_61 0 rfl ?_
      exact ov_ireturn dX6_wearsOf_62 (Nat.le_refl _) (Nat.le_refl _) ⟨rfl, trivial, _, rfl, hF⟩
    · refine ov_br hF (fun z9 hF => ?_) (fun z9 hF => ?_)
      · refine ov_tin 3 31 56 dX6_wearsOf_25 z9 (by decide) (by decide) rfl (by decide) ?_
        refine ov_iload_n dX6_wearsOf_56 1 rfl ?_
        refine ov_bipush 100 (by decide) dX6_wearsOf_57 ?_
        refine ov_idiv (by decide) dX6_wearsOf_59 ?_
        exact ov_ireturn dX6_wearsOf_60 (Nat.le_refl _) (Nat.le_refl _) ⟨rfl, trivial, _, rfl, hF⟩
      · refine ov_br hF (fun z10 hF => ?_) (fun z10 hF => ?_)
        · refine ov_tin 4 38 63 dX6_wearsOf_25 z10 (by decide) (by decide) rfl (by decide) ?_
          refine ov_iconst 2 (by decide) dX6_wearsOf_63 ?_
          refine ov_iload_n dX6_wearsOf_64 0 rfl ?_
          refine ov_imul dX6_wearsOf_65 ?_
          refine ov_iconst 0 (by decide) dX6_wearsOf_66 ?_
          refine ov_iload_n dX6_wearsOf_67 1 rfl ?_
          refine ov_callS [.int (2 * v3), .int 0, .int v1] dX6_wearsOf_68 (c_X6_within hF) (Nat.le_of_ble_eq_true rfl) (Nat.le_of_ble_eq_true rfl) lk_X6_101 (Nat.le_of_ble_eq_true rfl) (Nat.le_refl _) (Nat.le_refl _) (fun rr σ12 hF => ?_)
          obtain ⟨v11, rfl, hF⟩ := hF
          show vv_X6_wearsOf k 71 [(3, .int v3), (2, .int v1), (0, .ref 74), (1, .int x1)] [.int v11] σ12
          exact ov_ireturn dX6_wearsOf_71 (Nat.le_refl _) (Nat.le_refl _) ⟨rfl, trivial, _, rfl, hF⟩
        · refine ov_tout 72 dX6_wearsOf_25 (by have q0 := lv_neT (k := 1) (a := 1) z7 rfl; have q1 := lv_neT (k := 2) (a := 2) z8 rfl; have q2 := lv_neT (k := 3) (a := 3) z9 rfl; have q3 := lv_neT (k := 4) (a := 4) z10 rfl; omega) (by decide) ?_
          refine ov_iconst 0 (by decide) dX6_wearsOf_72 ?_
          exact ov_ireturn dX6_wearsOf_73 (Nat.le_refl _) (Nat.le_refl _) ⟨rfl, trivial, _, rfl, hF⟩
/-! X6_worthOf -/
abbrev vv_X6_worthOf (k : Int32 → ovSt → Prop) (pc : Nat) (L : List (Nat × Value)) (st : List Value) (σ : ovSt) : Prop := ov_V (ovZs 1 yX6_worthOf cX6_worthOf 3) (ovKs (some .int) ov_S0 (ovKi k)) (0, 0) ov_S0 pc L st σ
def F_X6_worthOf (x1 : Int32) (σ : ovSt) (k : Int32 → ovSt → Prop) : Prop := (F_X6_of x1 1 σ (fun v1 σ2 => (F_X6_of x1 0 σ2 (fun v3 σ4 => (if v3 = 1 then (k (v1 + 9) σ4) else (if v3 = 2 then (k (40 - v1) σ4) else (if v3 = 3 then (k (2 * (v1 + 9)) σ4) else (if v3 = 4 then (k (37 - v1) σ4) else (if v3 = 5 then (k 60 σ4) else (k v1 σ4))))))))))
set_option maxRecDepth 100000 in
set_option maxHeartbeats 4000000 in
theorem c_X6_worthOf {x1 : Int32} {σ : ovSt} {k : Int32 → ovSt → Prop} (hF : F_X6_worthOf x1 σ k) : ov_Ct 1 yX6_worthOf cX6_worthOf 3 (some .int) ov_S0 [.ref 74, .int x1] σ (ovKi k) := by
  refine ov_Ct.of (by decide) (Nat.le_of_ble_eq_true rfl) ?_
  unfold F_X6_worthOf at hF
  show vv_X6_worthOf k 0 [(0, .ref 74), (1, .int x1)] [] σ
  refine ov_aload_n dX6_worthOf_0 0 rfl ?_
  refine ov_iload_n dX6_worthOf_1 1 rfl ?_
  refine ov_iconst 1 (by decide) dX6_worthOf_2 ?_
  refine ov_callV [.int x1, .int 1] dX6_worthOf_3 (c_X6_of hF) (Nat.le_of_ble_eq_true rfl) (Nat.le_of_ble_eq_true rfl) lk_X6_96 sh_74 rfl (Nat.le_of_ble_eq_true rfl) (Nat.le_refl _) (Nat.le_refl _) (fun rr σ2 hF => ?_)
  obtain ⟨v1, rfl, hF⟩ := hF
  show vv_X6_worthOf k 6 [(0, .ref 74), (1, .int x1)] [.int v1] σ2
  refine ov_istore_n dX6_worthOf_6 (Nat.le_of_ble_eq_true rfl) [(2, .int v1), (0, .ref 74), (1, .int x1)] rfl ?_
  refine ov_aload_n dX6_worthOf_7 1 rfl ?_
  refine ov_iload_n dX6_worthOf_8 2 rfl ?_
  refine ov_iconst 0 (by decide) dX6_worthOf_9 ?_
  refine ov_callV [.int x1, .int 0] dX6_worthOf_10 (c_X6_of hF) (Nat.le_of_ble_eq_true rfl) (Nat.le_of_ble_eq_true rfl) lk_X6_96 sh_74 rfl (Nat.le_of_ble_eq_true rfl) (Nat.le_refl _) (Nat.le_refl _) (fun rr σ4 hF => ?_)
  obtain ⟨v3, rfl, hF⟩ := hF
  show vv_X6_worthOf k 13 [(2, .int v1), (0, .ref 74), (1, .int x1)] [.int v3] σ4
  refine ov_br hF (fun z5 hF => ?_) (fun z5 hF => ?_)
  · refine ov_tin 1 35 48 dX6_worthOf_13 z5 (by decide) (by decide) rfl (by decide) ?_
    refine ov_iload_n dX6_worthOf_48 0 rfl ?_
    refine ov_bipush 9 (by decide) dX6_worthOf_49 ?_
    refine ov_iadd dX6_worthOf_51 ?_
    exact ov_ireturn dX6_worthOf_52 (Nat.le_refl _) (Nat.le_refl _) ⟨rfl, trivial, _, rfl, hF⟩
  · refine ov_br hF (fun z6 hF => ?_) (fun z6 hF => ?_)
    · refine ov_tin 2 40 53 dX6_worthOf_13 z6 (by decide) (by decide) rfl (by decide) ?_
      refine ov_bipush 40 (by decide) dX6_worthOf_53 ?_
      refine ov_iload_n dX6_worthOf_55 0 rfl ?_
      refine ov_isub dX6_worthOf_56 ?_
      exact ov_ireturn dX6_worthOf_57 (Nat.le_refl _) (Nat.le_refl _) ⟨rfl, trivial, _, rfl, hF⟩
    · refine ov_br hF (fun z7 hF => ?_) (fun z7 hF => ?_)
      · refine ov_tin 3 45 58 dX6_worthOf_13 z7 (by decide) (by decide) rfl (by decide) ?_
        refine ov_iconst 2 (by decide) dX6_worthOf_58 ?_
        refine ov_iload_n dX6_worthOf_59 0 rfl ?_
        refine ov_bipush 9 (by decide) dX6_worthOf_60 ?_
        refine ov_iadd dX6_worthOf_62 ?_
        refine ov_imul dX6_worthOf_63 ?_
        exact ov_ireturn dX6_worthOf_64 (Nat.le_refl _) (Nat.le_refl _) ⟨rfl, trivial, _, rfl, hF⟩
      · refine ov_br hF (fun z8 hF => ?_) (fun z8 hF => ?_)
        · refine ov_tin 4 52 65 dX6_worthOf_13 z8 (by decide) (by decide) rfl (by decide) ?_
          refine ov_bipush 37 (by decide) dX6_worthOf_65 ?_
          refine ov_iload_n dX6_worthOf_67 0 rfl ?_
          refine ov_isub dX6_worthOf_68 ?_
          exact ov_ireturn dX6_worthOf_69 (Nat.le_refl _) (Nat.le_refl _) ⟨rfl, trivial, _, rfl, hF⟩
        · refine ov_br hF (fun z9 hF => ?_) (fun z9 hF => ?_)
          · refine ov_tin 5 57 70 dX6_worthOf_13 z9 (by decide) (by decide) rfl (by decide) ?_
            refine ov_bipush 60 (by decide) dX6_worthOf_70 ?_
            exact ov_ireturn dX6_worthOf_72 (Nat.le_refl _) (Nat.le_refl _) ⟨rfl, trivial, _, rfl, hF⟩
          · refine ov_tout 73 dX6_worthOf_13 (by have q0 := lv_neT (k := 1) (a := 1) z5 rfl; have q1 := lv_neT (k := 2) (a := 2) z6 rfl; have q2 := lv_neT (k := 3) (a := 3) z7 rfl; have q3 := lv_neT (k := 4) (a := 4) z8 rfl; have q4 := lv_neT (k := 5) (a := 5) z9 rfl; omega) (by decide) ?_
            refine ov_iload_n dX6_worthOf_73 0 rfl ?_
            exact ov_ireturn dX6_worthOf_74 (Nat.le_refl _) (Nat.le_refl _) ⟨rfl, trivial, _, rfl, hF⟩
/-! X6_amountAll -/
abbrev vv_X6_amountAll (k : Int32 → ovSt → Prop) (pc : Nat) (L : List (Nat × Value)) (st : List Value) (σ : ovSt) : Prop := ov_V (ovZs 1 yX6_amountAll cX6_amountAll 3) (ovKs (some .int) ov_S0 (ovKi k)) (0, 0) ov_S0 pc L st σ
def F_X6_amountAll_4 (k : Int32 → ovSt → Prop) : Nat → Int32 → Int32 → ovSt → Prop
  | 0 => fun _ _ _ => False
  | n + 1 => fun x1 x2 σ => (vp_in 1 1412 ∧ (if (σ 75 (Int32.toNatClampNeg 1)) ≤ x2 then (k x1 σ) else (F_X6_of x2 2 σ (fun v2 σ3 => (∀ v4 : Int32, v4 = (x1 + v2) → F_X6_amountAll_4 k n v4 (x2 + 1) σ3)))))
set_option maxRecDepth 100000 in
set_option maxHeartbeats 4000000 in
theorem V_X6_amountAll_4 {k : Int32 → ovSt → Prop} : ∀ (n : Nat) (x1 : Int32) (x2 : Int32) (σ : ovSt), F_X6_amountAll_4 k n x1 x2 σ → vv_X6_amountAll k 4 [(0, .ref 74), (1, .int x1), (2, .int x2)] [] σ := by
  intro n
  induction n with
  | zero => intro x1 x2 σ hF; exact hF.elim
  | succ n ih =>
    intro x1 x2 σ hF
    unfold F_X6_amountAll_4 at hF
    refine ov_iload_n dX6_amountAll_4 2 rfl ?_
    refine ov_aload_n dX6_amountAll_5 0 rfl ?_
    refine ov_getr (T := TX6) (kf := 0) dX6_amountAll_6 qf_X6_9 sh_74 rfl (Nat.le_of_ble_eq_true rfl) rfl (by decide) ?_
    refine ov_iconst 1 (by decide) dX6_amountAll_9 ?_
    have h1 := hF.1
    have hF := hF.2
    refine ov_iaload dX6_amountAll_10 sh_75 h1 ?_
    refine ov_icmp_ge 29 dX6_amountAll_11 (by decide) hF (fun hF => ?_) (fun hF => ?_)
    · refine ov_iload_n dX6_amountAll_29 1 rfl ?_
      exact ov_ireturn dX6_amountAll_30 (Nat.le_refl _) (Nat.le_refl _) ⟨rfl, trivial, _, rfl, hF⟩
    · refine ov_iload_n dX6_amountAll_14 1 rfl ?_
      refine ov_aload_n dX6_amountAll_15 0 rfl ?_
      refine ov_iload_n dX6_amountAll_16 2 rfl ?_
      refine ov_iconst 2 (by decide) dX6_amountAll_17 ?_
      refine ov_callV [.int x2, .int 2] dX6_amountAll_18 (c_X6_of hF) (Nat.le_of_ble_eq_true rfl) (Nat.le_of_ble_eq_true rfl) lk_X6_96 sh_74 rfl (Nat.le_of_ble_eq_true rfl) (Nat.le_refl _) (Nat.le_refl _) (fun rr σ3 hF => ?_)
      obtain ⟨v2, rfl, hF⟩ := hF
      show vv_X6_amountAll k 21 [(0, .ref 74), (1, .int x1), (2, .int x2)] [.int v2, .int x1] σ3
      refine ov_iadd dX6_amountAll_21 ?_
      refine ov_nmI (fun v4 ev4 => ?_)
      have hF := hF v4 ev4
      refine ov_istore_n dX6_amountAll_22 (Nat.le_of_ble_eq_true rfl) [(1, .int v4), (0, .ref 74), (2, .int x2)] rfl ?_
      refine ov_iinc dX6_amountAll_23 2 rfl (x2 + 1) rfl (Nat.le_of_ble_eq_true rfl) [(2, .int (x2 + 1)), (1, .int v4), (0, .ref 74)] rfl ?_
      refine ov_goto 4 dX6_amountAll_26 (by decide) ?_
      refine ov_pick [2, 1, 0] [(0, .ref 74), (1, .int v4), (2, .int (x2 + 1))] rfl ?_
      exact ih v4 (x2 + 1) σ3 hF
def F_X6_amountAll (σ : ovSt) (k : Int32 → ovSt → Prop) : Prop := (∃ n5, F_X6_amountAll_4 k n5 0 0 σ)
set_option maxRecDepth 100000 in
set_option maxHeartbeats 4000000 in
theorem c_X6_amountAll {σ : ovSt} {k : Int32 → ovSt → Prop} (hF : F_X6_amountAll σ k) : ov_Ct 1 yX6_amountAll cX6_amountAll 3 (some .int) ov_S0 [.ref 74] σ (ovKi k) := by
  refine ov_Ct.of (by decide) (Nat.le_of_ble_eq_true rfl) ?_
  unfold F_X6_amountAll at hF
  show vv_X6_amountAll k 0 [(0, .ref 74)] [] σ
  refine ov_iconst 0 (by decide) dX6_amountAll_0 ?_
  refine ov_istore_n dX6_amountAll_1 (Nat.le_of_ble_eq_true rfl) [(1, .int 0), (0, .ref 74)] rfl ?_
  refine ov_iconst 0 (by decide) dX6_amountAll_2 ?_
  refine ov_istore_n dX6_amountAll_3 (Nat.le_of_ble_eq_true rfl) [(2, .int 0), (1, .int 0), (0, .ref 74)] rfl ?_
  refine ov_pick [2, 1, 0] [(0, .ref 74), (1, .int 0), (2, .int 0)] rfl ?_
  obtain ⟨n5, hF⟩ := hF
  exact V_X6_amountAll_4 n5 0 0 σ hF
/-! X6_billOf -/
abbrev vv_X6_billOf (k : Int32 → ovSt → Prop) (pc : Nat) (L : List (Nat × Value)) (st : List Value) (σ : ovSt) : Prop := ov_V (ovZs 4 yX6_billOf cX6_billOf 5) (ovKs (some .int) ov_S0 (ovKi k)) (0, 0) ov_S0 pc L st σ
def F_X6_billOf_47 (k : Int32 → ovSt → Prop) (t0 : Int32) (σ : ovSt) : Prop := (k t0 σ)
set_option maxRecDepth 100000 in
set_option maxHeartbeats 4000000 in
theorem V_X6_billOf_47 {k : Int32 → ovSt → Prop} (t0 : Int32) (σ : ovSt) (hF : F_X6_billOf_47 k t0 σ) : vv_X6_billOf k 47 [] [.int t0] σ := by
  unfold F_X6_billOf_47 at hF
  exact ov_ireturn dX6_billOf_47 (Nat.le_refl _) (Nat.le_refl _) ⟨rfl, trivial, _, rfl, hF⟩
def F_X6_billOf (x1 : Int32) (σ : ovSt) (k : Int32 → ovSt → Prop) : Prop := (F_X6_counts 1 σ (fun v1 σ2 => (F_X6_tasteOf x1 σ2 (fun v3 σ4 => (F_X6_worthOf x1 σ4 (fun v5 σ6 => (vp_in 0 4 ∧ (∀ σ8 : ovSt, σ8 = ov_up σ6 88 (Int32.toNatClampNeg 0) v3 → (vp_in 1 4 ∧ (∀ σ10 : ovSt, σ10 = ov_up σ8 88 (Int32.toNatClampNeg 1) v5 → (if 0 ≤ v1 then (F_X6_worksOut v1 σ10 (fun v11 σ12 => (F_X6_billOf_47 k v11 σ12))) else (F_X6_billOf_47 k v3 σ10))))))))))))
set_option maxRecDepth 100000 in
set_option maxHeartbeats 4000000 in
theorem c_X6_billOf {x1 : Int32} {σ : ovSt} {k : Int32 → ovSt → Prop} (hF : F_X6_billOf x1 σ k) : ov_Ct 4 yX6_billOf cX6_billOf 5 (some .int) ov_S0 [.ref 74, .int x1] σ (ovKi k) := by
  refine ov_Ct.of (by decide) (Nat.le_of_ble_eq_true rfl) ?_
  unfold F_X6_billOf at hF
  show vv_X6_billOf k 0 [(0, .ref 74), (1, .int x1)] [] σ
  refine ov_aload_n dX6_billOf_0 0 rfl ?_
  refine ov_iconst 1 (by decide) dX6_billOf_1 ?_
  refine ov_callV [.int 1] dX6_billOf_2 (c_X6_counts hF) (Nat.le_of_ble_eq_true rfl) (Nat.le_of_ble_eq_true rfl) lk_X6_112 sh_74 rfl (Nat.le_of_ble_eq_true rfl) (Nat.le_refl _) (Nat.le_refl _) (fun rr σ2 hF => ?_)
  obtain ⟨v1, rfl, hF⟩ := hF
  show vv_X6_billOf k 5 [(0, .ref 74), (1, .int x1)] [.int v1] σ2
  refine ov_istore_n dX6_billOf_5 (Nat.le_of_ble_eq_true rfl) [(2, .int v1), (0, .ref 74), (1, .int x1)] rfl ?_
  refine ov_aload_n dX6_billOf_6 1 rfl ?_
  refine ov_iload_n dX6_billOf_7 2 rfl ?_
  refine ov_callV [.int x1] dX6_billOf_8 (c_X6_tasteOf hF) (Nat.le_of_ble_eq_true rfl) (Nat.le_of_ble_eq_true rfl) lk_X6_122 sh_74 rfl (Nat.le_of_ble_eq_true rfl) (Nat.le_refl _) (Nat.le_refl _) (fun rr σ4 hF => ?_)
  obtain ⟨v3, rfl, hF⟩ := hF
  show vv_X6_billOf k 11 [(2, .int v1), (0, .ref 74), (1, .int x1)] [.int v3] σ4
  refine ov_istore_n dX6_billOf_11 (Nat.le_of_ble_eq_true rfl) [(3, .int v3), (2, .int v1), (0, .ref 74), (1, .int x1)] rfl ?_
  refine ov_aload_n dX6_billOf_12 2 rfl ?_
  refine ov_iload_n dX6_billOf_13 3 rfl ?_
  refine ov_callV [.int x1] dX6_billOf_14 (c_X6_worthOf hF) (Nat.le_of_ble_eq_true rfl) (Nat.le_of_ble_eq_true rfl) lk_X6_125 sh_74 rfl (Nat.le_of_ble_eq_true rfl) (Nat.le_refl _) (Nat.le_refl _) (fun rr σ6 hF => ?_)
  obtain ⟨v5, rfl, hF⟩ := hF
  show vv_X6_billOf k 17 [(3, .int v3), (2, .int v1), (0, .ref 74), (1, .int x1)] [.int v5] σ6
  refine ov_istore dX6_billOf_17 (Nat.le_of_ble_eq_true rfl) [(4, .int v5), (3, .int v3), (2, .int v1), (0, .ref 74), (1, .int x1)] rfl ?_
  refine ov_aload_n dX6_billOf_19 3 rfl ?_
  refine ov_getr (T := TX6) (kf := 24) dX6_billOf_20 qf_X6_51 sh_74 rfl (Nat.le_of_ble_eq_true rfl) rfl (by decide) ?_
  refine ov_iconst 0 (by decide) dX6_billOf_23 ?_
  refine ov_iload_n dX6_billOf_24 1 rfl ?_
  have h7 := hF.1
  have hF := hF.2
  refine ov_iastore dX6_billOf_25 sh_88 h7 ?_
  refine ov_nmS (fun σ8 es8 => ?_)
  have hF := hF σ8 es8
  refine ov_aload_n dX6_billOf_26 3 rfl ?_
  refine ov_getr (T := TX6) (kf := 24) dX6_billOf_27 qf_X6_51 sh_74 rfl (Nat.le_of_ble_eq_true rfl) rfl (by decide) ?_
  refine ov_iconst 1 (by decide) dX6_billOf_30 ?_
  refine ov_iload dX6_billOf_31 0 rfl ?_
  have h9 := hF.1
  have hF := hF.2
  refine ov_iastore dX6_billOf_33 sh_88 h9 ?_
  refine ov_nmS (fun σ10 es10 => ?_)
  have hF := hF σ10 es10
  refine ov_iload_n dX6_billOf_34 2 rfl ?_
  refine ov_if_ge 42 dX6_billOf_35 (by decide) hF (fun hF => ?_) (fun hF => ?_)
  · refine ov_aload_n dX6_billOf_42 3 rfl ?_
    refine ov_iload_n dX6_billOf_43 2 rfl ?_
    refine ov_callV [.int v1] dX6_billOf_44 (c_X6_worksOut hF) (Nat.le_of_ble_eq_true rfl) (Nat.le_of_ble_eq_true rfl) lk_X6_116 sh_74 rfl (Nat.le_of_ble_eq_true rfl) (Nat.le_refl _) (Nat.le_refl _) (fun rr σ12 hF => ?_)
    obtain ⟨v11, rfl, hF⟩ := hF
    show vv_X6_billOf k 47 [(4, .int v5), (3, .int v3), (2, .int v1), (0, .ref 74), (1, .int x1)] [.int v11] σ12
    refine ov_pick [] [] rfl ?_
    exact V_X6_billOf_47 v11 σ12 hF
  · refine ov_iload_n dX6_billOf_38 1 rfl ?_
    refine ov_goto 47 dX6_billOf_39 (by decide) ?_
    refine ov_pick [] [] rfl ?_
    exact V_X6_billOf_47 v3 σ10 hF
/-! X6_shareOf -/
abbrev vv_X6_shareOf (k : Int32 → ovSt → Prop) (pc : Nat) (L : List (Nat × Value)) (st : List Value) (σ : ovSt) : Prop := ov_V (ovZs 2 yX6_shareOf cX6_shareOf 3) (ovKs (some .int) ov_S0 (ovKi k)) (0, 0) ov_S0 pc L st σ
def F_X6_shareOf_28 (k : Int32 → ovSt → Prop) (t0 : Int32) (σ : ovSt) : Prop := (k t0 σ)
set_option maxRecDepth 100000 in
set_option maxHeartbeats 4000000 in
theorem V_X6_shareOf_28 {k : Int32 → ovSt → Prop} (t0 : Int32) (σ : ovSt) (hF : F_X6_shareOf_28 k t0 σ) : vv_X6_shareOf k 28 [] [.int t0] σ := by
  unfold F_X6_shareOf_28 at hF
  exact ov_ireturn dX6_shareOf_28 (Nat.le_refl _) (Nat.le_refl _) ⟨rfl, trivial, _, rfl, hF⟩
def F_X6_shareOf (x1 : Int32) (σ : ovSt) (k : Int32 → ovSt → Prop) : Prop := (F_X6_amountAll σ (fun v1 σ2 => (if v1 = 0 then (F_X6_shareOf_28 k 0 σ2) else (F_X6_of x1 2 σ2 (fun v3 σ4 => (¬ (Int32.toInt64 v1) = 0 ∧ (F_X6_shareOf_28 k (Int64.toInt32 ((10000 * (Int32.toInt64 v3)) / (Int32.toInt64 v1))) σ4)))))))
set_option maxRecDepth 100000 in
set_option maxHeartbeats 4000000 in
theorem c_X6_shareOf {x1 : Int32} {σ : ovSt} {k : Int32 → ovSt → Prop} (hF : F_X6_shareOf x1 σ k) : ov_Ct 2 yX6_shareOf cX6_shareOf 3 (some .int) ov_S0 [.ref 74, .int x1] σ (ovKi k) := by
  refine ov_Ct.of (by decide) (Nat.le_of_ble_eq_true rfl) ?_
  unfold F_X6_shareOf at hF
  show vv_X6_shareOf k 0 [(0, .ref 74), (1, .int x1)] [] σ
  refine ov_aload_n dX6_shareOf_0 0 rfl ?_
  refine ov_callV [] dX6_shareOf_1 (c_X6_amountAll hF) (Nat.le_of_ble_eq_true rfl) (Nat.le_of_ble_eq_true rfl) lk_X6_128 sh_74 rfl (Nat.le_of_ble_eq_true rfl) (Nat.le_refl _) (Nat.le_refl _) (fun rr σ2 hF => ?_)
  obtain ⟨v1, rfl, hF⟩ := hF
  show vv_X6_shareOf k 4 [(0, .ref 74), (1, .int x1)] [.int v1] σ2
  refine ov_istore_n dX6_shareOf_4 (Nat.le_of_ble_eq_true rfl) [(2, .int v1), (0, .ref 74), (1, .int x1)] rfl ?_
  refine ov_iload_n dX6_shareOf_5 0 rfl ?_
  refine ov_if_ne 13 dX6_shareOf_6 (by decide) hF (fun hF => ?_) (fun hF => ?_)
  · refine ov_ldc2 dX6_shareOf_13 qc_X6_132 ?_
    refine ov_aload_n dX6_shareOf_16 1 rfl ?_
    refine ov_iload_n dX6_shareOf_17 2 rfl ?_
    refine ov_iconst 2 (by decide) dX6_shareOf_18 ?_
    refine ov_callV [.int x1, .int 2] dX6_shareOf_19 (c_X6_of hF) (Nat.le_of_ble_eq_true rfl) (Nat.le_of_ble_eq_true rfl) lk_X6_96 sh_74 rfl (Nat.le_of_ble_eq_true rfl) (Nat.le_refl _) (Nat.le_refl _) (fun rr σ4 hF => ?_)
    obtain ⟨v3, rfl, hF⟩ := hF
    show vv_X6_shareOf k 22 [(2, .int v1), (0, .ref 74), (1, .int x1)] [.int v3, .long 10000] σ4
    refine ov_i2l dX6_shareOf_22 ?_
    refine ov_lmul dX6_shareOf_23 ?_
    refine ov_iload_n dX6_shareOf_24 0 rfl ?_
    refine ov_i2l dX6_shareOf_25 ?_
    have h5 := hF.1
    have hF := hF.2
    refine ov_ldiv h5 dX6_shareOf_26 ?_
    refine ov_l2i dX6_shareOf_27 ?_
    refine ov_pick [] [] rfl ?_
    exact V_X6_shareOf_28 (Int64.toInt32 ((10000 * (Int32.toInt64 v3)) / (Int32.toInt64 v1))) σ4 hF
  · refine ov_iconst 0 (by decide) dX6_shareOf_9 ?_
    refine ov_goto 28 dX6_shareOf_10 (by decide) ?_
    refine ov_pick [] [] rfl ?_
    exact V_X6_shareOf_28 0 σ2 hF
/-! X6_told -/
abbrev vv_X6_told (k : Int32 → ovSt → Prop) (pc : Nat) (L : List (Nat × Value)) (st : List Value) (σ : ovSt) : Prop := ov_V (ovZs 5 yX6_told cX6_told 3) (ovKs (some .int) ov_S0 (ovKi k)) (0, 0) ov_S0 pc L st σ
def F_X6_told (x1 : Int32) (x2 : Int32) (σ : ovSt) (k : Int32 → ovSt → Prop) : Prop := (F_X6_isThing x1 σ (fun v1 σ2 => (if v1 = 0 then (k (-1000000001) σ2) else (if x2 = 0 then (F_X6_of x1 x2 σ2 (fun v28 σ29 => (k v28 σ29))) else (if x2 = 1 then (F_X6_of x1 x2 σ2 (fun v26 σ27 => (k v26 σ27))) else (if x2 = 2 then (F_X6_of x1 x2 σ2 (fun v24 σ25 => (k v24 σ25))) else (if x2 = 3 then (F_X6_of x1 x2 σ2 (fun v22 σ23 => (k v22 σ23))) else (if x2 = 4 then (F_X6_tasteOf x1 σ2 (fun v20 σ21 => (k v20 σ21))) else (if x2 = 5 then (F_X6_wearsOf x1 σ2 (fun v18 σ19 => (k v18 σ19))) else (if x2 = 6 then (F_X6_worthOf x1 σ2 (fun v16 σ17 => (k v16 σ17))) else (if x2 = 7 then (F_X6_shareOf x1 σ2 (fun v14 σ15 => (k v14 σ15))) else (if x2 = 8 then (F_X6_billOf x1 σ2 (fun v12 σ13 => (k v12 σ13))) else (k (-1000000001) σ2)))))))))))))
set_option maxRecDepth 100000 in
set_option maxHeartbeats 4000000 in
theorem c_X6_told {x1 : Int32} {x2 : Int32} {σ : ovSt} {k : Int32 → ovSt → Prop} (hF : F_X6_told x1 x2 σ k) : ov_Ct 5 yX6_told cX6_told 3 (some .int) ov_S0 [.ref 74, .int x1, .int x2] σ (ovKi k) := by
  refine ov_Ct.of (by decide) (Nat.le_of_ble_eq_true rfl) ?_
  unfold F_X6_told at hF
  show vv_X6_told k 0 [(0, .ref 74), (1, .int x1), (2, .int x2)] [] σ
  refine ov_aload_n dX6_told_0 0 rfl ?_
  refine ov_iload_n dX6_told_1 1 rfl ?_
  refine ov_callV [.int x1] dX6_told_2 (c_X6_isThing hF) (Nat.le_of_ble_eq_true rfl) (Nat.le_of_ble_eq_true rfl) lk_X6_104 sh_74 rfl (Nat.le_of_ble_eq_true rfl) (Nat.le_refl _) (Nat.le_refl _) (fun rr σ2 hF => ?_)
  obtain ⟨v1, rfl, hF⟩ := hF
  show vv_X6_told k 5 [(0, .ref 74), (1, .int x1), (2, .int x2)] [.int v1] σ2
  refine ov_if_ne 11 dX6_told_5 (by decide) hF (fun hF => ?_) (fun hF => ?_)
  · refine ov_iload_n dX6_told_11 2 rfl ?_
    refine ov_br hF (fun z3 hF => ?_) (fun z3 hF => ?_)
    · refine ov_tin 0 52 64 dX6_told_12 z3 (by decide) (by decide) rfl (by decide) ?_
      refine ov_aload_n dX6_told_64 0 rfl ?_
      refine ov_iload_n dX6_told_65 1 rfl ?_
      refine ov_iload_n dX6_told_66 2 rfl ?_
      refine ov_callV [.int x1, .int x2] dX6_told_67 (c_X6_of hF) (Nat.le_of_ble_eq_true rfl) (Nat.le_of_ble_eq_true rfl) lk_X6_96 sh_74 rfl (Nat.le_of_ble_eq_true rfl) (Nat.le_refl _) (Nat.le_refl _) (fun rr σ29 hF => ?_)
      obtain ⟨v28, rfl, hF⟩ := hF
      show vv_X6_told k 70 [(0, .ref 74), (1, .int x1), (2, .int x2)] [.int v28] σ29
      exact ov_ireturn dX6_told_70 (Nat.le_refl _) (Nat.le_refl _) ⟨rfl, trivial, _, rfl, hF⟩
    · refine ov_br hF (fun z4 hF => ?_) (fun z4 hF => ?_)
      · refine ov_tin 1 52 64 dX6_told_12 z4 (by decide) (by decide) rfl (by decide) ?_
        refine ov_aload_n dX6_told_64 0 rfl ?_
        refine ov_iload_n dX6_told_65 1 rfl ?_
        refine ov_iload_n dX6_told_66 2 rfl ?_
        refine ov_callV [.int x1, .int x2] dX6_told_67 (c_X6_of hF) (Nat.le_of_ble_eq_true rfl) (Nat.le_of_ble_eq_true rfl) lk_X6_96 sh_74 rfl (Nat.le_of_ble_eq_true rfl) (Nat.le_refl _) (Nat.le_refl _) (fun rr σ27 hF => ?_)
        obtain ⟨v26, rfl, hF⟩ := hF
        show vv_X6_told k 70 [(0, .ref 74), (1, .int x1), (2, .int x2)] [.int v26] σ27
        exact ov_ireturn dX6_told_70 (Nat.le_refl _) (Nat.le_refl _) ⟨rfl, trivial, _, rfl, hF⟩
      · refine ov_br hF (fun z5 hF => ?_) (fun z5 hF => ?_)
        · refine ov_tin 2 52 64 dX6_told_12 z5 (by decide) (by decide) rfl (by decide) ?_
          refine ov_aload_n dX6_told_64 0 rfl ?_
          refine ov_iload_n dX6_told_65 1 rfl ?_
          refine ov_iload_n dX6_told_66 2 rfl ?_
          refine ov_callV [.int x1, .int x2] dX6_told_67 (c_X6_of hF) (Nat.le_of_ble_eq_true rfl) (Nat.le_of_ble_eq_true rfl) lk_X6_96 sh_74 rfl (Nat.le_of_ble_eq_true rfl) (Nat.le_refl _) (Nat.le_refl _) (fun rr σ25 hF => ?_)
          obtain ⟨v24, rfl, hF⟩ := hF
          show vv_X6_told k 70 [(0, .ref 74), (1, .int x1), (2, .int x2)] [.int v24] σ25
          exact ov_ireturn dX6_told_70 (Nat.le_refl _) (Nat.le_refl _) ⟨rfl, trivial, _, rfl, hF⟩
        · refine ov_br hF (fun z6 hF => ?_) (fun z6 hF => ?_)
          · refine ov_tin 3 52 64 dX6_told_12 z6 (by decide) (by decide) rfl (by decide) ?_
            refine ov_aload_n dX6_told_64 0 rfl ?_
            refine ov_iload_n dX6_told_65 1 rfl ?_
            refine ov_iload_n dX6_told_66 2 rfl ?_
            refine ov_callV [.int x1, .int x2] dX6_told_67 (c_X6_of hF) (Nat.le_of_ble_eq_true rfl) (Nat.le_of_ble_eq_true rfl) lk_X6_96 sh_74 rfl (Nat.le_of_ble_eq_true rfl) (Nat.le_refl _) (Nat.le_refl _) (fun rr σ23 hF => ?_)
            obtain ⟨v22, rfl, hF⟩ := hF
            show vv_X6_told k 70 [(0, .ref 74), (1, .int x1), (2, .int x2)] [.int v22] σ23
            exact ov_ireturn dX6_told_70 (Nat.le_refl _) (Nat.le_refl _) ⟨rfl, trivial, _, rfl, hF⟩
          · refine ov_br hF (fun z7 hF => ?_) (fun z7 hF => ?_)
            · refine ov_tin 4 59 71 dX6_told_12 z7 (by decide) (by decide) rfl (by decide) ?_
              refine ov_aload_n dX6_told_71 0 rfl ?_
              refine ov_iload_n dX6_told_72 1 rfl ?_
              refine ov_callV [.int x1] dX6_told_73 (c_X6_tasteOf hF) (Nat.le_of_ble_eq_true rfl) (Nat.le_of_ble_eq_true rfl) lk_X6_122 sh_74 rfl (Nat.le_of_ble_eq_true rfl) (Nat.le_refl _) (Nat.le_refl _) (fun rr σ21 hF => ?_)
              obtain ⟨v20, rfl, hF⟩ := hF
              show vv_X6_told k 76 [(0, .ref 74), (1, .int x1), (2, .int x2)] [.int v20] σ21
              exact ov_ireturn dX6_told_76 (Nat.le_refl _) (Nat.le_refl _) ⟨rfl, trivial, _, rfl, hF⟩
            · refine ov_br hF (fun z8 hF => ?_) (fun z8 hF => ?_)
              · refine ov_tin 5 65 77 dX6_told_12 z8 (by decide) (by decide) rfl (by decide) ?_
                refine ov_aload_n dX6_told_77 0 rfl ?_
                refine ov_iload_n dX6_told_78 1 rfl ?_
                refine ov_callV [.int x1] dX6_told_79 (c_X6_wearsOf hF) (Nat.le_of_ble_eq_true rfl) (Nat.le_of_ble_eq_true rfl) lk_X6_134 sh_74 rfl (Nat.le_of_ble_eq_true rfl) (Nat.le_refl _) (Nat.le_refl _) (fun rr σ19 hF => ?_)
                obtain ⟨v18, rfl, hF⟩ := hF
                show vv_X6_told k 82 [(0, .ref 74), (1, .int x1), (2, .int x2)] [.int v18] σ19
                exact ov_ireturn dX6_told_82 (Nat.le_refl _) (Nat.le_refl _) ⟨rfl, trivial, _, rfl, hF⟩
              · refine ov_br hF (fun z9 hF => ?_) (fun z9 hF => ?_)
                · refine ov_tin 6 71 83 dX6_told_12 z9 (by decide) (by decide) rfl (by decide) ?_
                  refine ov_aload_n dX6_told_83 0 rfl ?_
                  refine ov_iload_n dX6_told_84 1 rfl ?_
                  refine ov_callV [.int x1] dX6_told_85 (c_X6_worthOf hF) (Nat.le_of_ble_eq_true rfl) (Nat.le_of_ble_eq_true rfl) lk_X6_125 sh_74 rfl (Nat.le_of_ble_eq_true rfl) (Nat.le_refl _) (Nat.le_refl _) (fun rr σ17 hF => ?_)
                  obtain ⟨v16, rfl, hF⟩ := hF
                  show vv_X6_told k 88 [(0, .ref 74), (1, .int x1), (2, .int x2)] [.int v16] σ17
                  exact ov_ireturn dX6_told_88 (Nat.le_refl _) (Nat.le_refl _) ⟨rfl, trivial, _, rfl, hF⟩
                · refine ov_br hF (fun z10 hF => ?_) (fun z10 hF => ?_)
                  · refine ov_tin 7 77 89 dX6_told_12 z10 (by decide) (by decide) rfl (by decide) ?_
                    refine ov_aload_n dX6_told_89 0 rfl ?_
                    refine ov_iload_n dX6_told_90 1 rfl ?_
                    refine ov_callV [.int x1] dX6_told_91 (c_X6_shareOf hF) (Nat.le_of_ble_eq_true rfl) (Nat.le_of_ble_eq_true rfl) lk_X6_137 sh_74 rfl (Nat.le_of_ble_eq_true rfl) (Nat.le_refl _) (Nat.le_refl _) (fun rr σ15 hF => ?_)
                    obtain ⟨v14, rfl, hF⟩ := hF
                    show vv_X6_told k 94 [(0, .ref 74), (1, .int x1), (2, .int x2)] [.int v14] σ15
                    exact ov_ireturn dX6_told_94 (Nat.le_refl _) (Nat.le_refl _) ⟨rfl, trivial, _, rfl, hF⟩
                  · refine ov_br hF (fun z11 hF => ?_) (fun z11 hF => ?_)
                    · refine ov_tin 8 83 95 dX6_told_12 z11 (by decide) (by decide) rfl (by decide) ?_
                      refine ov_aload_n dX6_told_95 0 rfl ?_
                      refine ov_iload_n dX6_told_96 1 rfl ?_
                      refine ov_callV [.int x1] dX6_told_97 (c_X6_billOf hF) (Nat.le_of_ble_eq_true rfl) (Nat.le_of_ble_eq_true rfl) lk_X6_140 sh_74 rfl (Nat.le_of_ble_eq_true rfl) (Nat.le_refl _) (Nat.le_refl _) (fun rr σ13 hF => ?_)
                      obtain ⟨v12, rfl, hF⟩ := hF
                      show vv_X6_told k 100 [(0, .ref 74), (1, .int x1), (2, .int x2)] [.int v12] σ13
                      exact ov_ireturn dX6_told_100 (Nat.le_refl _) (Nat.le_refl _) ⟨rfl, trivial, _, rfl, hF⟩
                    · refine ov_tout 101 dX6_told_12 (by have q0 := lv_neT (k := 0) (a := 0) z3 rfl; have q1 := lv_neT (k := 1) (a := 1) z4 rfl; have q2 := lv_neT (k := 2) (a := 2) z5 rfl; have q3 := lv_neT (k := 3) (a := 3) z6 rfl; have q4 := lv_neT (k := 4) (a := 4) z7 rfl; have q5 := lv_neT (k := 5) (a := 5) z8 rfl; have q6 := lv_neT (k := 6) (a := 6) z9 rfl; have q7 := lv_neT (k := 7) (a := 7) z10 rfl; have q8 := lv_neT (k := 8) (a := 8) z11 rfl; omega) (by decide) ?_
                      refine ov_ldc dX6_told_101 qc_X6_90 ?_
                      exact ov_ireturn dX6_told_103 (Nat.le_refl _) (Nat.le_refl _) ⟨rfl, trivial, _, rfl, hF⟩
  · refine ov_ldc dX6_told_8 qc_X6_90 ?_
    exact ov_ireturn dX6_told_10 (Nat.le_refl _) (Nat.le_refl _) ⟨rfl, trivial, _, rfl, hF⟩
/-! X6_isUnder -/
abbrev vv_X6_isUnder (k : Int32 → ovSt → Prop) (pc : Nat) (L : List (Nat × Value)) (st : List Value) (σ : ovSt) : Prop := ov_V (ovZs 0 yX6_isUnder cX6_isUnder 2) (ovKs (some .boolean) ov_S0 (ovKi k)) (0, 0) ov_S0 pc L st σ
def F_X6_isUnder_34 (k : Int32 → ovSt → Prop) (t0 : Int32) (σ : ovSt) : Prop := (ov_bl t0 ∧ (k t0 σ))
set_option maxRecDepth 100000 in
set_option maxHeartbeats 4000000 in
theorem V_X6_isUnder_34 {k : Int32 → ovSt → Prop} (t0 : Int32) (σ : ovSt) (hF : F_X6_isUnder_34 k t0 σ) : vv_X6_isUnder k 34 [] [.int t0] σ := by
  unfold F_X6_isUnder_34 at hF
  have h1 := hF.1
  have hF := hF.2
  exact ov_ireturn dX6_isUnder_34 (Nat.le_refl _) (Nat.le_refl _) ⟨rfl, h1, _, rfl, hF⟩
def F_X6_isUnder_29 (k : Int32 → ovSt → Prop) (σ : ovSt) : Prop := (F_X6_isUnder_34 k 1 σ)
set_option maxRecDepth 100000 in
set_option maxHeartbeats 4000000 in
theorem V_X6_isUnder_29 {k : Int32 → ovSt → Prop} (σ : ovSt) (hF : F_X6_isUnder_29 k σ) : vv_X6_isUnder k 29 [] [] σ := by
  unfold F_X6_isUnder_29 at hF
  refine ov_iconst 1 (by decide) dX6_isUnder_29 ?_
  refine ov_goto 34 dX6_isUnder_30 (by decide) ?_
  exact V_X6_isUnder_34 1 σ hF
def F_X6_isUnder_33 (k : Int32 → ovSt → Prop) (σ : ovSt) : Prop := (F_X6_isUnder_34 k 0 σ)
set_option maxRecDepth 100000 in
set_option maxHeartbeats 4000000 in
theorem V_X6_isUnder_33 {k : Int32 → ovSt → Prop} (σ : ovSt) (hF : F_X6_isUnder_33 k σ) : vv_X6_isUnder k 33 [] [] σ := by
  unfold F_X6_isUnder_33 at hF
  refine ov_iconst 0 (by decide) dX6_isUnder_33 ?_
  exact V_X6_isUnder_34 0 σ hF
def F_X6_isUnder_19 (k : Int32 → ovSt → Prop) (x0 : Int32) (x1 : Int32) (σ : ovSt) : Prop := (if x1 = (2 : Int32) then (if x0 = (4 : Int32) then (F_X6_isUnder_29 k σ) else (F_X6_isUnder_33 k σ)) else (F_X6_isUnder_33 k σ))
set_option maxRecDepth 100000 in
set_option maxHeartbeats 4000000 in
theorem V_X6_isUnder_19 {k : Int32 → ovSt → Prop} (x0 : Int32) (x1 : Int32) (σ : ovSt) (hF : F_X6_isUnder_19 k x0 x1 σ) : vv_X6_isUnder k 19 [(0, .int x0), (1, .int x1)] [] σ := by
  unfold F_X6_isUnder_19 at hF
  refine ov_iload_n dX6_isUnder_19 1 rfl ?_
  refine ov_iconst 2 (by decide) dX6_isUnder_20 ?_
  refine ov_icmp_ne 33 dX6_isUnder_21 (by decide) hF (fun hF => ?_) (fun hF => ?_)
  · refine ov_pick [] [] rfl ?_
    exact V_X6_isUnder_33 σ hF
  · refine ov_iload_n dX6_isUnder_24 0 rfl ?_
    refine ov_iconst 4 (by decide) dX6_isUnder_25 ?_
    refine ov_icmp_ne 33 dX6_isUnder_26 (by decide) hF (fun hF => ?_) (fun hF => ?_)
    · refine ov_pick [] [] rfl ?_
      exact V_X6_isUnder_33 σ hF
    · refine ov_pick [] [] rfl ?_
      exact V_X6_isUnder_29 σ hF
def F_X6_isUnder (x0 : Int32) (x1 : Int32) (σ : ovSt) (k : Int32 → ovSt → Prop) : Prop := (if x1 = 0 then (F_X6_isUnder_29 k σ) else (if x0 = x1 then (F_X6_isUnder_29 k σ) else (if x1 = (1 : Int32) then (if x0 = (3 : Int32) then (F_X6_isUnder_29 k σ) else (F_X6_isUnder_19 k x0 x1 σ)) else (F_X6_isUnder_19 k x0 x1 σ))))
set_option maxRecDepth 100000 in
set_option maxHeartbeats 4000000 in
theorem c_X6_isUnder {x0 : Int32} {x1 : Int32} {σ : ovSt} {k : Int32 → ovSt → Prop} (hF : F_X6_isUnder x0 x1 σ k) : ov_Ct 0 yX6_isUnder cX6_isUnder 2 (some .boolean) ov_S0 [.int x0, .int x1] σ (ovKi k) := by
  refine ov_Ct.of (by decide) (Nat.le_of_ble_eq_true rfl) ?_
  unfold F_X6_isUnder at hF
  show vv_X6_isUnder k 0 [(0, .int x0), (1, .int x1)] [] σ
  refine ov_iload_n dX6_isUnder_0 1 rfl ?_
  refine ov_if_eq 29 dX6_isUnder_1 (by decide) hF (fun hF => ?_) (fun hF => ?_)
  · refine ov_pick [] [] rfl ?_
    exact V_X6_isUnder_29 σ hF
  · refine ov_iload_n dX6_isUnder_4 0 rfl ?_
    refine ov_iload_n dX6_isUnder_5 1 rfl ?_
    refine ov_icmp_eq 29 dX6_isUnder_6 (by decide) hF (fun hF => ?_) (fun hF => ?_)
    · refine ov_pick [] [] rfl ?_
      exact V_X6_isUnder_29 σ hF
    · refine ov_iload_n dX6_isUnder_9 1 rfl ?_
      refine ov_iconst 1 (by decide) dX6_isUnder_10 ?_
      refine ov_icmp_ne 19 dX6_isUnder_11 (by decide) hF (fun hF => ?_) (fun hF => ?_)
      · exact V_X6_isUnder_19 x0 x1 σ hF
      · refine ov_iload_n dX6_isUnder_14 0 rfl ?_
        refine ov_iconst 3 (by decide) dX6_isUnder_15 ?_
        refine ov_icmp_eq 29 dX6_isUnder_16 (by decide) hF (fun hF => ?_) (fun hF => ?_)
        · refine ov_pick [] [] rfl ?_
          exact V_X6_isUnder_29 σ hF
        · exact V_X6_isUnder_19 x0 x1 σ hF
/-! X6_as -/
abbrev vv_X6_as (k : Int32 → ovSt → Prop) (pc : Nat) (L : List (Nat × Value)) (st : List Value) (σ : ovSt) : Prop := ov_V (ovZs 2 yX6_as cX6_as 3) (ovKs (some .int) ov_S0 (ovKi k)) (0, 0) ov_S0 pc L st σ
def F_X6_as_17 (k : Int32 → ovSt → Prop) (σ : ovSt) : Prop := (k (-1000000001) σ)
set_option maxRecDepth 100000 in
set_option maxHeartbeats 4000000 in
theorem V_X6_as_17 {k : Int32 → ovSt → Prop} (σ : ovSt) (hF : F_X6_as_17 k σ) : vv_X6_as k 17 [] [] σ := by
  unfold F_X6_as_17 at hF
  refine ov_ldc dX6_as_17 qc_X6_90 ?_
  exact ov_ireturn dX6_as_19 (Nat.le_refl _) (Nat.le_refl _) ⟨rfl, trivial, _, rfl, hF⟩
def F_X6_as_44 (k : Int32 → ovSt → Prop) (t0 : Int32) (σ : ovSt) : Prop := (k t0 σ)
set_option maxRecDepth 100000 in
set_option maxHeartbeats 4000000 in
theorem V_X6_as_44 {k : Int32 → ovSt → Prop} (t0 : Int32) (σ : ovSt) (hF : F_X6_as_44 k t0 σ) : vv_X6_as k 44 [] [.int t0] σ := by
  unfold F_X6_as_44 at hF
  exact ov_ireturn dX6_as_44 (Nat.le_refl _) (Nat.le_refl _) ⟨rfl, trivial, _, rfl, hF⟩
def F_X6_as (x1 : Int32) (x2 : Int32) (σ : ovSt) (k : Int32 → ovSt → Prop) : Prop := (F_X6_isThing x1 σ (fun v1 σ2 => (if v1 = 0 then (F_X6_as_17 k σ2) else (F_X6_in x2 0 5 σ2 (fun v3 σ4 => (if v3 = 0 then (F_X6_as_17 k σ4) else (F_X6_of x1 0 σ4 (fun v5 σ6 => (F_X6_isUnder v5 x2 σ6 (fun v7 σ8 => (if v7 = 0 then (F_X6_as_44 k (-1000000012) σ8) else (F_X6_of x1 1 σ8 (fun v9 σ10 => (F_X6_as_44 k v9 σ10))))))))))))))
set_option maxRecDepth 100000 in
set_option maxHeartbeats 4000000 in
theorem c_X6_as {x1 : Int32} {x2 : Int32} {σ : ovSt} {k : Int32 → ovSt → Prop} (hF : F_X6_as x1 x2 σ k) : ov_Ct 2 yX6_as cX6_as 3 (some .int) ov_S0 [.ref 74, .int x1, .int x2] σ (ovKi k) := by
  refine ov_Ct.of (by decide) (Nat.le_of_ble_eq_true rfl) ?_
  unfold F_X6_as at hF
  show vv_X6_as k 0 [(0, .ref 74), (1, .int x1), (2, .int x2)] [] σ
  refine ov_aload_n dX6_as_0 0 rfl ?_
  refine ov_iload_n dX6_as_1 1 rfl ?_
  refine ov_callV [.int x1] dX6_as_2 (c_X6_isThing hF) (Nat.le_of_ble_eq_true rfl) (Nat.le_of_ble_eq_true rfl) lk_X6_104 sh_74 rfl (Nat.le_of_ble_eq_true rfl) (Nat.le_refl _) (Nat.le_refl _) (fun rr σ2 hF => ?_)
  obtain ⟨v1, rfl, hF⟩ := hF
  show vv_X6_as k 5 [(0, .ref 74), (1, .int x1), (2, .int x2)] [.int v1] σ2
  refine ov_if_eq 17 dX6_as_5 (by decide) hF (fun hF => ?_) (fun hF => ?_)
  · refine ov_pick [] [] rfl ?_
    exact V_X6_as_17 σ2 hF
  · refine ov_iload_n dX6_as_8 2 rfl ?_
    refine ov_iconst 0 (by decide) dX6_as_9 ?_
    refine ov_iconst 5 (by decide) dX6_as_10 ?_
    refine ov_callS [.int x2, .int 0, .int 5] dX6_as_11 (c_X6_in hF) (Nat.le_of_ble_eq_true rfl) (Nat.le_of_ble_eq_true rfl) lk_X6_82 (Nat.le_of_ble_eq_true rfl) (Nat.le_refl _) (Nat.le_refl _) (fun rr σ4 hF => ?_)
    obtain ⟨v3, rfl, hF⟩ := hF
    show vv_X6_as k 14 [(0, .ref 74), (1, .int x1), (2, .int x2)] [.int v3] σ4
    refine ov_if_ne 20 dX6_as_14 (by decide) hF (fun hF => ?_) (fun hF => ?_)
    · refine ov_aload_n dX6_as_20 0 rfl ?_
      refine ov_iload_n dX6_as_21 1 rfl ?_
      refine ov_iconst 0 (by decide) dX6_as_22 ?_
      refine ov_callV [.int x1, .int 0] dX6_as_23 (c_X6_of hF) (Nat.le_of_ble_eq_true rfl) (Nat.le_of_ble_eq_true rfl) lk_X6_96 sh_74 rfl (Nat.le_of_ble_eq_true rfl) (Nat.le_refl _) (Nat.le_refl _) (fun rr σ6 hF => ?_)
      obtain ⟨v5, rfl, hF⟩ := hF
      show vv_X6_as k 26 [(0, .ref 74), (1, .int x1), (2, .int x2)] [.int v5] σ6
      refine ov_iload_n dX6_as_26 2 rfl ?_
      refine ov_callS [.int v5, .int x2] dX6_as_27 (c_X6_isUnder hF) (Nat.le_of_ble_eq_true rfl) (Nat.le_of_ble_eq_true rfl) lk_X6_143 (Nat.le_of_ble_eq_true rfl) (Nat.le_refl _) (Nat.le_refl _) (fun rr σ8 hF => ?_)
      obtain ⟨v7, rfl, hF⟩ := hF
      show vv_X6_as k 30 [(0, .ref 74), (1, .int x1), (2, .int x2)] [.int v7] σ8
      refine ov_if_eq 42 dX6_as_30 (by decide) hF (fun hF => ?_) (fun hF => ?_)
      · refine ov_ldc dX6_as_42 qc_X6_147 ?_
        refine ov_pick [] [] rfl ?_
        exact V_X6_as_44 (-1000000012) σ8 hF
      · refine ov_aload_n dX6_as_33 0 rfl ?_
        refine ov_iload_n dX6_as_34 1 rfl ?_
        refine ov_iconst 1 (by decide) dX6_as_35 ?_
        refine ov_callV [.int x1, .int 1] dX6_as_36 (c_X6_of hF) (Nat.le_of_ble_eq_true rfl) (Nat.le_of_ble_eq_true rfl) lk_X6_96 sh_74 rfl (Nat.le_of_ble_eq_true rfl) (Nat.le_refl _) (Nat.le_refl _) (fun rr σ10 hF => ?_)
        obtain ⟨v9, rfl, hF⟩ := hF
        show vv_X6_as k 39 [(0, .ref 74), (1, .int x1), (2, .int x2)] [.int v9] σ10
        refine ov_goto 44 dX6_as_39 (by decide) ?_
        refine ov_pick [] [] rfl ?_
        exact V_X6_as_44 v9 σ10 hF
    · refine ov_pick [] [] rfl ?_
      exact V_X6_as_17 σ4 hF
/-! X6_turns -/
abbrev vv_X6_turns (k : Int32 → ovSt → Prop) (pc : Nat) (L : List (Nat × Value)) (st : List Value) (σ : ovSt) : Prop := ov_V (ovZs 2 yX6_turns cX6_turns 3) (ovKs (some .int) ov_S0 (ovKi k)) (0, 0) ov_S0 pc L st σ
def F_X6_turns_33 (k : Int32 → ovSt → Prop) (t0 : Int32) (σ : ovSt) : Prop := (k t0 σ)
set_option maxRecDepth 100000 in
set_option maxHeartbeats 4000000 in
theorem V_X6_turns_33 {k : Int32 → ovSt → Prop} (t0 : Int32) (σ : ovSt) (hF : F_X6_turns_33 k t0 σ) : vv_X6_turns k 33 [] [.int t0] σ := by
  unfold F_X6_turns_33 at hF
  exact ov_ireturn dX6_turns_33 (Nat.le_refl _) (Nat.le_refl _) ⟨rfl, trivial, _, rfl, hF⟩
def F_X6_turns_31 (k : Int32 → ovSt → Prop) (σ : ovSt) : Prop := (F_X6_turns_33 k (-1000000001) σ)
set_option maxRecDepth 100000 in
set_option maxHeartbeats 4000000 in
theorem V_X6_turns_31 {k : Int32 → ovSt → Prop} (σ : ovSt) (hF : F_X6_turns_31 k σ) : vv_X6_turns k 31 [] [] σ := by
  unfold F_X6_turns_31 at hF
  refine ov_ldc dX6_turns_31 qc_X6_90 ?_
  exact V_X6_turns_33 (-1000000001) σ hF
def F_X6_turns (x1 : Int32) (x2 : Int32) (σ : ovSt) (k : Int32 → ovSt → Prop) : Prop := (F_X6_isThing x1 σ (fun v1 σ2 => (if v1 = 0 then (F_X6_turns_31 k σ2) else (F_X6_in x2 0 5 σ2 (fun v3 σ4 => (if v3 = 0 then (F_X6_turns_31 k σ4) else (F_X6_becomes (8 + (4 * x1)) x2 σ4 (fun v5 σ6 => (F_X6_turns_33 k v5 σ6)))))))))
set_option maxRecDepth 100000 in
set_option maxHeartbeats 4000000 in
theorem c_X6_turns {x1 : Int32} {x2 : Int32} {σ : ovSt} {k : Int32 → ovSt → Prop} (hF : F_X6_turns x1 x2 σ k) : ov_Ct 2 yX6_turns cX6_turns 3 (some .int) ov_S0 [.ref 74, .int x1, .int x2] σ (ovKi k) := by
  refine ov_Ct.of (by decide) (Nat.le_of_ble_eq_true rfl) ?_
  unfold F_X6_turns at hF
  show vv_X6_turns k 0 [(0, .ref 74), (1, .int x1), (2, .int x2)] [] σ
  refine ov_aload_n dX6_turns_0 0 rfl ?_
  refine ov_iload_n dX6_turns_1 1 rfl ?_
  refine ov_callV [.int x1] dX6_turns_2 (c_X6_isThing hF) (Nat.le_of_ble_eq_true rfl) (Nat.le_of_ble_eq_true rfl) lk_X6_104 sh_74 rfl (Nat.le_of_ble_eq_true rfl) (Nat.le_refl _) (Nat.le_refl _) (fun rr σ2 hF => ?_)
  obtain ⟨v1, rfl, hF⟩ := hF
  show vv_X6_turns k 5 [(0, .ref 74), (1, .int x1), (2, .int x2)] [.int v1] σ2
  refine ov_if_eq 31 dX6_turns_5 (by decide) hF (fun hF => ?_) (fun hF => ?_)
  · refine ov_pick [] [] rfl ?_
    exact V_X6_turns_31 σ2 hF
  · refine ov_iload_n dX6_turns_8 2 rfl ?_
    refine ov_iconst 0 (by decide) dX6_turns_9 ?_
    refine ov_iconst 5 (by decide) dX6_turns_10 ?_
    refine ov_callS [.int x2, .int 0, .int 5] dX6_turns_11 (c_X6_in hF) (Nat.le_of_ble_eq_true rfl) (Nat.le_of_ble_eq_true rfl) lk_X6_82 (Nat.le_of_ble_eq_true rfl) (Nat.le_refl _) (Nat.le_refl _) (fun rr σ4 hF => ?_)
    obtain ⟨v3, rfl, hF⟩ := hF
    show vv_X6_turns k 14 [(0, .ref 74), (1, .int x1), (2, .int x2)] [.int v3] σ4
    refine ov_if_eq 31 dX6_turns_14 (by decide) hF (fun hF => ?_) (fun hF => ?_)
    · refine ov_pick [] [] rfl ?_
      exact V_X6_turns_31 σ4 hF
    · refine ov_aload_n dX6_turns_17 0 rfl ?_
      refine ov_bipush 8 (by decide) dX6_turns_18 ?_
      refine ov_iconst 4 (by decide) dX6_turns_20 ?_
      refine ov_iload_n dX6_turns_21 1 rfl ?_
      refine ov_imul dX6_turns_22 ?_
      refine ov_iadd dX6_turns_23 ?_
      refine ov_iload_n dX6_turns_24 2 rfl ?_
      refine ov_callV [.int (8 + (4 * x1)), .int x2] dX6_turns_25 (c_X6_becomes hF) (Nat.le_of_ble_eq_true rfl) (Nat.le_of_ble_eq_true rfl) lk_X6_148 sh_74 rfl (Nat.le_of_ble_eq_true rfl) (Nat.le_refl _) (Nat.le_refl _) (fun rr σ6 hF => ?_)
      obtain ⟨v5, rfl, hF⟩ := hF
      show vv_X6_turns k 28 [(0, .ref 74), (1, .int x1), (2, .int x2)] [.int v5] σ6
      refine ov_goto 33 dX6_turns_28 (by decide) ?_
      refine ov_pick [] [] rfl ?_
      exact V_X6_turns_33 v5 σ6 hF
/-! X6_set -/
abbrev vv_X6_set (k : Int32 → ovSt → Prop) (pc : Nat) (L : List (Nat × Value)) (st : List Value) (σ : ovSt) : Prop := ov_V (ovZs 2 yX6_set cX6_set 5) (ovKs (some .int) ov_S0 (ovKi k)) (0, 0) ov_S0 pc L st σ
def F_X6_set_87 (k : Int32 → ovSt → Prop) (t0 : Int32) (σ : ovSt) : Prop := (k t0 σ)
set_option maxRecDepth 100000 in
set_option maxHeartbeats 4000000 in
theorem V_X6_set_87 {k : Int32 → ovSt → Prop} (t0 : Int32) (σ : ovSt) (hF : F_X6_set_87 k t0 σ) : vv_X6_set k 87 [] [.int t0] σ := by
  unfold F_X6_set_87 at hF
  exact ov_ireturn dX6_set_87 (Nat.le_refl _) (Nat.le_refl _) ⟨rfl, trivial, _, rfl, hF⟩
def F_X6_set_62 (k : Int32 → ovSt → Prop) (x1 : Int32) (x2 : Int32) (x3 : Int32) (t0 : Int32) (σ : ovSt) : Prop := (if t0 = 0 then (F_X6_set_87 k (-1000000001) σ) else (F_X6_becomes ((8 + (4 * x1)) + x2) x3 σ (fun v1 σ2 => (F_X6_set_87 k v1 σ2))))
set_option maxRecDepth 100000 in
set_option maxHeartbeats 4000000 in
theorem V_X6_set_62 {k : Int32 → ovSt → Prop} (x1 : Int32) (x2 : Int32) (x3 : Int32) (t0 : Int32) (σ : ovSt) (hF : F_X6_set_62 k x1 x2 x3 t0 σ) : vv_X6_set k 62 [(0, .ref 74), (1, .int x1), (2, .int x2), (3, .int x3)] [.int t0] σ := by
  unfold F_X6_set_62 at hF
  refine ov_istore dX6_set_62 (Nat.le_of_ble_eq_true rfl) [(4, .int t0), (0, .ref 74), (1, .int x1), (2, .int x2), (3, .int x3)] rfl ?_
  refine ov_iload dX6_set_64 0 rfl ?_
  refine ov_if_eq 85 dX6_set_66 (by decide) hF (fun hF => ?_) (fun hF => ?_)
  · refine ov_ldc dX6_set_85 qc_X6_90 ?_
    refine ov_pick [] [] rfl ?_
    exact V_X6_set_87 (-1000000001) σ hF
  · refine ov_aload_n dX6_set_69 1 rfl ?_
    refine ov_bipush 8 (by decide) dX6_set_70 ?_
    refine ov_iconst 4 (by decide) dX6_set_72 ?_
    refine ov_iload_n dX6_set_73 2 rfl ?_
    refine ov_imul dX6_set_74 ?_
    refine ov_iadd dX6_set_75 ?_
    refine ov_iload_n dX6_set_76 3 rfl ?_
    refine ov_iadd dX6_set_77 ?_
    refine ov_iload_n dX6_set_78 4 rfl ?_
    refine ov_callV [.int ((8 + (4 * x1)) + x2), .int x3] dX6_set_79 (c_X6_becomes hF) (Nat.le_of_ble_eq_true rfl) (Nat.le_of_ble_eq_true rfl) lk_X6_148 sh_74 rfl (Nat.le_of_ble_eq_true rfl) (Nat.le_refl _) (Nat.le_refl _) (fun rr σ2 hF => ?_)
    obtain ⟨v1, rfl, hF⟩ := hF
    show vv_X6_set k 82 [(4, .int t0), (0, .ref 74), (1, .int x1), (2, .int x2), (3, .int x3)] [.int v1] σ2
    refine ov_goto 87 dX6_set_82 (by decide) ?_
    refine ov_pick [] [] rfl ?_
    exact V_X6_set_87 v1 σ2 hF
def F_X6_set_61 (k : Int32 → ovSt → Prop) (x1 : Int32) (x2 : Int32) (x3 : Int32) (σ : ovSt) : Prop := (F_X6_set_62 k x1 x2 x3 0 σ)
set_option maxRecDepth 100000 in
set_option maxHeartbeats 4000000 in
theorem V_X6_set_61 {k : Int32 → ovSt → Prop} (x1 : Int32) (x2 : Int32) (x3 : Int32) (σ : ovSt) (hF : F_X6_set_61 k x1 x2 x3 σ) : vv_X6_set k 61 [(0, .ref 74), (1, .int x1), (2, .int x2), (3, .int x3)] [] σ := by
  unfold F_X6_set_61 at hF
  refine ov_iconst 0 (by decide) dX6_set_61 ?_
  exact V_X6_set_62 x1 x2 x3 0 σ hF
def F_X6_set_51 (k : Int32 → ovSt → Prop) (x1 : Int32) (x2 : Int32) (x3 : Int32) (t0 : Int32) (t1 : Int32) (t2 : Int32) (σ : ovSt) : Prop := (F_X6_in t2 t1 t0 σ (fun v3 σ4 => (if v3 = 0 then (F_X6_set_61 k x1 x2 x3 σ4) else (F_X6_set_62 k x1 x2 x3 1 σ4))))
set_option maxRecDepth 100000 in
set_option maxHeartbeats 4000000 in
theorem V_X6_set_51 {k : Int32 → ovSt → Prop} (x1 : Int32) (x2 : Int32) (x3 : Int32) (t0 : Int32) (t1 : Int32) (t2 : Int32) (σ : ovSt) (hF : F_X6_set_51 k x1 x2 x3 t0 t1 t2 σ) : vv_X6_set k 51 [(0, .ref 74), (1, .int x1), (2, .int x2), (3, .int x3)] [.int t0, .int t1, .int t2] σ := by
  unfold F_X6_set_51 at hF
  refine ov_callS [.int t2, .int t1, .int t0] dX6_set_51 (c_X6_in hF) (Nat.le_of_ble_eq_true rfl) (Nat.le_of_ble_eq_true rfl) lk_X6_82 (Nat.le_of_ble_eq_true rfl) (Nat.le_refl _) (Nat.le_refl _) (fun rr σ4 hF => ?_)
  obtain ⟨v3, rfl, hF⟩ := hF
  show vv_X6_set k 54 [(0, .ref 74), (1, .int x1), (2, .int x2), (3, .int x3)] [.int v3] σ4
  refine ov_if_eq 61 dX6_set_54 (by decide) hF (fun hF => ?_) (fun hF => ?_)
  · exact V_X6_set_61 x1 x2 x3 σ4 hF
  · refine ov_iconst 1 (by decide) dX6_set_57 ?_
    refine ov_goto 62 dX6_set_58 (by decide) ?_
    exact V_X6_set_62 x1 x2 x3 1 σ4 hF
def F_X6_set_28 (k : Int32 → ovSt → Prop) (x1 : Int32) (x2 : Int32) (x3 : Int32) (t0 : Int32) (t1 : Int32) (σ : ovSt) : Prop := (if x2 = (1 : Int32) then (F_X6_set_51 k x1 x2 x3 9 t0 t1 σ) else (if x2 = (2 : Int32) then (F_X6_set_51 k x1 x2 x3 99999 t0 t1 σ) else (F_X6_set_51 k x1 x2 x3 9999 t0 t1 σ)))
set_option maxRecDepth 100000 in
set_option maxHeartbeats 4000000 in
theorem V_X6_set_28 {k : Int32 → ovSt → Prop} (x1 : Int32) (x2 : Int32) (x3 : Int32) (t0 : Int32) (t1 : Int32) (σ : ovSt) (hF : F_X6_set_28 k x1 x2 x3 t0 t1 σ) : vv_X6_set k 28 [(0, .ref 74), (1, .int x1), (2, .int x2), (3, .int x3)] [.int t0, .int t1] σ := by
  unfold F_X6_set_28 at hF
  refine ov_iload_n dX6_set_28 2 rfl ?_
  refine ov_iconst 1 (by decide) dX6_set_29 ?_
  refine ov_icmp_ne 38 dX6_set_30 (by decide) hF (fun hF => ?_) (fun hF => ?_)
  · refine ov_iload_n dX6_set_38 2 rfl ?_
    refine ov_iconst 2 (by decide) dX6_set_39 ?_
    refine ov_icmp_ne 48 dX6_set_40 (by decide) hF (fun hF => ?_) (fun hF => ?_)
    · refine ov_sipush 9999 (by decide) dX6_set_48 ?_
      exact V_X6_set_51 x1 x2 x3 9999 t0 t1 σ hF
    · refine ov_ldc dX6_set_43 qc_X6_100 ?_
      refine ov_goto 51 dX6_set_45 (by decide) ?_
      exact V_X6_set_51 x1 x2 x3 99999 t0 t1 σ hF
  · refine ov_bipush 9 (by decide) dX6_set_33 ?_
    refine ov_goto 51 dX6_set_35 (by decide) ?_
    exact V_X6_set_51 x1 x2 x3 9 t0 t1 σ hF
def F_X6_set (x1 : Int32) (x2 : Int32) (x3 : Int32) (σ : ovSt) (k : Int32 → ovSt → Prop) : Prop := (F_X6_isThing x1 σ (fun v5 σ6 => (if v5 = 0 then (F_X6_set_61 k x1 x2 x3 σ6) else (F_X6_in x2 1 3 σ6 (fun v7 σ8 => (if v7 = 0 then (F_X6_set_61 k x1 x2 x3 σ8) else (if x2 = (1 : Int32) then (F_X6_set_28 k x1 x2 x3 1 x3 σ8) else (F_X6_set_28 k x1 x2 x3 0 x3 σ8))))))))
set_option maxRecDepth 100000 in
set_option maxHeartbeats 4000000 in
theorem c_X6_set {x1 : Int32} {x2 : Int32} {x3 : Int32} {σ : ovSt} {k : Int32 → ovSt → Prop} (hF : F_X6_set x1 x2 x3 σ k) : ov_Ct 2 yX6_set cX6_set 5 (some .int) ov_S0 [.ref 74, .int x1, .int x2, .int x3] σ (ovKi k) := by
  refine ov_Ct.of (by decide) (Nat.le_of_ble_eq_true rfl) ?_
  unfold F_X6_set at hF
  show vv_X6_set k 0 [(0, .ref 74), (1, .int x1), (2, .int x2), (3, .int x3)] [] σ
  refine ov_aload_n dX6_set_0 0 rfl ?_
  refine ov_iload_n dX6_set_1 1 rfl ?_
  refine ov_callV [.int x1] dX6_set_2 (c_X6_isThing hF) (Nat.le_of_ble_eq_true rfl) (Nat.le_of_ble_eq_true rfl) lk_X6_104 sh_74 rfl (Nat.le_of_ble_eq_true rfl) (Nat.le_refl _) (Nat.le_refl _) (fun rr σ6 hF => ?_)
  obtain ⟨v5, rfl, hF⟩ := hF
  show vv_X6_set k 5 [(0, .ref 74), (1, .int x1), (2, .int x2), (3, .int x3)] [.int v5] σ6
  refine ov_if_eq 61 dX6_set_5 (by decide) hF (fun hF => ?_) (fun hF => ?_)
  · exact V_X6_set_61 x1 x2 x3 σ6 hF
  · refine ov_iload_n dX6_set_8 2 rfl ?_
    refine ov_iconst 1 (by decide) dX6_set_9 ?_
    refine ov_iconst 3 (by decide) dX6_set_10 ?_
    refine ov_callS [.int x2, .int 1, .int 3] dX6_set_11 (c_X6_in hF) (Nat.le_of_ble_eq_true rfl) (Nat.le_of_ble_eq_true rfl) lk_X6_82 (Nat.le_of_ble_eq_true rfl) (Nat.le_refl _) (Nat.le_refl _) (fun rr σ8 hF => ?_)
    obtain ⟨v7, rfl, hF⟩ := hF
    show vv_X6_set k 14 [(0, .ref 74), (1, .int x1), (2, .int x2), (3, .int x3)] [.int v7] σ8
    refine ov_if_eq 61 dX6_set_14 (by decide) hF (fun hF => ?_) (fun hF => ?_)
    · exact V_X6_set_61 x1 x2 x3 σ8 hF
    · refine ov_iload_n dX6_set_17 3 rfl ?_
      refine ov_iload_n dX6_set_18 2 rfl ?_
      refine ov_iconst 1 (by decide) dX6_set_19 ?_
      refine ov_icmp_ne 27 dX6_set_20 (by decide) hF (fun hF => ?_) (fun hF => ?_)
      · refine ov_iconst 0 (by decide) dX6_set_27 ?_
        exact V_X6_set_28 x1 x2 x3 0 x3 σ8 hF
      · refine ov_iconst 1 (by decide) dX6_set_23 ?_
        refine ov_goto 28 dX6_set_24 (by decide) ?_
        exact V_X6_set_28 x1 x2 x3 1 x3 σ8 hF
/-! X6_draw -/
abbrev vv_X6_draw (k : Int32 → ovSt → Prop) (pc : Nat) (L : List (Nat × Value)) (st : List Value) (σ : ovSt) : Prop := ov_V (ovZs 0 yX6_draw cX6_draw 1) (ovKs (some .int) ov_S0 (ovKi k)) (0, 0) ov_S0 pc L st σ
def F_X6_draw (σ : ovSt) (k : Int32 → ovSt → Prop) : Prop := (vp_in 0 1412 ∧ (∀ σ2 : ovSt, σ2 = ov_up σ 75 (Int32.toNatClampNeg 0) (((σ 75 (Int32.toNatClampNeg 0)) * 1103515245) + 12345) → (k (Int32.toUInt32 (σ2 75 (Int32.toNatClampNeg 0)) >>> (Int32.toUInt32 8 &&& Int32.toUInt32 31)).toInt32 σ2)))
set_option maxRecDepth 100000 in
set_option maxHeartbeats 4000000 in
theorem c_X6_draw {σ : ovSt} {k : Int32 → ovSt → Prop} (hF : F_X6_draw σ k) : ov_Ct 0 yX6_draw cX6_draw 1 (some .int) ov_S0 [.ref 74] σ (ovKi k) := by
  refine ov_Ct.of (by decide) (Nat.le_of_ble_eq_true rfl) ?_
  unfold F_X6_draw at hF
  show vv_X6_draw k 0 [(0, .ref 74)] [] σ
  refine ov_aload_n dX6_draw_0 0 rfl ?_
  refine ov_getr (T := TX6) (kf := 0) dX6_draw_1 qf_X6_9 sh_74 rfl (Nat.le_of_ble_eq_true rfl) rfl (by decide) ?_
  refine ov_iconst 0 (by decide) dX6_draw_4 ?_
  refine ov_aload_n dX6_draw_5 0 rfl ?_
  refine ov_getr (T := TX6) (kf := 0) dX6_draw_6 qf_X6_9 sh_74 rfl (Nat.le_of_ble_eq_true rfl) rfl (by decide) ?_
  refine ov_iconst 0 (by decide) dX6_draw_9 ?_
  have h1 := hF.1
  have hF := hF.2
  refine ov_iaload dX6_draw_10 sh_75 h1 ?_
  refine ov_ldc dX6_draw_11 qc_X6_151 ?_
  refine ov_imul dX6_draw_13 ?_
  refine ov_sipush 12345 (by decide) dX6_draw_14 ?_
  refine ov_iadd dX6_draw_17 ?_
  refine ov_iastore dX6_draw_18 sh_75 h1 ?_
  refine ov_nmS (fun σ2 es2 => ?_)
  have hF := hF σ2 es2
  refine ov_aload_n dX6_draw_19 0 rfl ?_
  refine ov_getr (T := TX6) (kf := 0) dX6_draw_20 qf_X6_9 sh_74 rfl (Nat.le_of_ble_eq_true rfl) rfl (by decide) ?_
  refine ov_iconst 0 (by decide) dX6_draw_23 ?_
  refine ov_iaload dX6_draw_24 sh_75 h1 ?_
  refine ov_bipush 8 (by decide) dX6_draw_25 ?_
  refine ov_iushr dX6_draw_27 ?_
  exact ov_ireturn dX6_draw_28 (Nat.le_refl _) (Nat.le_refl _) ⟨rfl, trivial, _, rfl, hF⟩
/-! X6_deal -/
abbrev vv_X6_deal (k : Int32 → ovSt → Prop) (pc : Nat) (L : List (Nat × Value)) (st : List Value) (σ : ovSt) : Prop := ov_V (ovZs 2 yX6_deal cX6_deal 6) (ovKs (some .int) ov_S0 (ovKi k)) (0, 0) ov_S0 pc L st σ
def F_X6_deal_73 (k : Int32 → ovSt → Prop) (x2 : Int32) (σ : ovSt) : Prop := (k x2 σ)
set_option maxRecDepth 100000 in
set_option maxHeartbeats 4000000 in
theorem V_X6_deal_73 {k : Int32 → ovSt → Prop} (x2 : Int32) (σ : ovSt) (hF : F_X6_deal_73 k x2 σ) : vv_X6_deal k 73 [(2, .int x2)] [] σ := by
  unfold F_X6_deal_73 at hF
  refine ov_iload_n dX6_deal_73 0 rfl ?_
  exact ov_ireturn dX6_deal_74 (Nat.le_refl _) (Nat.le_refl _) ⟨rfl, trivial, _, rfl, hF⟩
def F_X6_deal_15 (k : Int32 → ovSt → Prop) : Nat → Int32 → Int32 → ovSt → Prop
  | 0 => fun _ _ _ => False
  | n + 1 => fun x1 x2 σ => (if x1 ≤ x2 then (F_X6_deal_73 k x2 σ) else (vp_in 1 1412 ∧ (if (8 : Int32) ≤ (σ 75 (Int32.toNatClampNeg 1)) then (F_X6_deal_73 k x2 σ) else (F_X6_draw σ (fun v2 σ3 => (∀ v4 : Int32, v4 = (v2 - v2 / 6 * 6) → (F_X6_draw σ3 (fun v5 σ6 => (∀ v7 : Int32, v7 = (1 + (v5 - v5 / 9 * 9)) → (F_X6_draw σ6 (fun v8 σ9 => (F_X6_comes v4 v7 (v8 - v8 / 1000 * 1000) σ9 (fun v10 σ11 => F_X6_deal_15 k n x1 (x2 + 1) σ11)))))))))))))
set_option maxRecDepth 100000 in
set_option maxHeartbeats 4000000 in
theorem V_X6_deal_15 {k : Int32 → ovSt → Prop} : ∀ (n : Nat) (x1 : Int32) (x2 : Int32) (σ : ovSt), F_X6_deal_15 k n x1 x2 σ → vv_X6_deal k 15 [(0, .ref 74), (1, .int x1), (2, .int x2)] [] σ := by
  intro n
  induction n with
  | zero => intro x1 x2 σ hF; exact hF.elim
  | succ n ih =>
    intro x1 x2 σ hF
    unfold F_X6_deal_15 at hF
    refine ov_iload_n dX6_deal_15 2 rfl ?_
    refine ov_iload_n dX6_deal_16 1 rfl ?_
    refine ov_icmp_ge 73 dX6_deal_17 (by decide) hF (fun hF => ?_) (fun hF => ?_)
    · refine ov_pick [2] [(2, .int x2)] rfl ?_
      exact V_X6_deal_73 x2 σ hF
    · refine ov_aload_n dX6_deal_20 0 rfl ?_
      refine ov_getr (T := TX6) (kf := 0) dX6_deal_21 qf_X6_9 sh_74 rfl (Nat.le_of_ble_eq_true rfl) rfl (by decide) ?_
      refine ov_iconst 1 (by decide) dX6_deal_24 ?_
      have h1 := hF.1
      have hF := hF.2
      refine ov_iaload dX6_deal_25 sh_75 h1 ?_
      refine ov_bipush 8 (by decide) dX6_deal_26 ?_
      refine ov_icmp_ge 73 dX6_deal_28 (by decide) hF (fun hF => ?_) (fun hF => ?_)
      · refine ov_pick [2] [(2, .int x2)] rfl ?_
        exact V_X6_deal_73 x2 σ hF
      · refine ov_aload_n dX6_deal_31 0 rfl ?_
        refine ov_callV [] dX6_deal_32 (c_X6_draw hF) (Nat.le_of_ble_eq_true rfl) (Nat.le_of_ble_eq_true rfl) lk_X6_152 sh_74 rfl (Nat.le_of_ble_eq_true rfl) (Nat.le_refl _) (Nat.le_refl _) (fun rr σ3 hF => ?_)
        obtain ⟨v2, rfl, hF⟩ := hF
        show vv_X6_deal k 35 [(0, .ref 74), (1, .int x1), (2, .int x2)] [.int v2] σ3
        refine ov_bipush 6 (by decide) dX6_deal_35 ?_
        refine ov_irem (by decide) dX6_deal_37 ?_
        refine ov_nmI (fun v4 ev4 => ?_)
        have hF := hF v4 ev4
        refine ov_istore_n dX6_deal_38 (Nat.le_of_ble_eq_true rfl) [(3, .int v4), (0, .ref 74), (1, .int x1), (2, .int x2)] rfl ?_
        refine ov_iconst 1 (by decide) dX6_deal_39 ?_
        refine ov_aload_n dX6_deal_40 1 rfl ?_
        refine ov_callV [] dX6_deal_41 (c_X6_draw hF) (Nat.le_of_ble_eq_true rfl) (Nat.le_of_ble_eq_true rfl) lk_X6_152 sh_74 rfl (Nat.le_of_ble_eq_true rfl) (Nat.le_refl _) (Nat.le_refl _) (fun rr σ6 hF => ?_)
        obtain ⟨v5, rfl, hF⟩ := hF
        show vv_X6_deal k 44 [(3, .int v4), (0, .ref 74), (1, .int x1), (2, .int x2)] [.int v5, .int 1] σ6
        refine ov_bipush 9 (by decide) dX6_deal_44 ?_
        refine ov_irem (by decide) dX6_deal_46 ?_
        refine ov_iadd dX6_deal_47 ?_
        refine ov_nmI (fun v7 ev7 => ?_)
        have hF := hF v7 ev7
        refine ov_istore dX6_deal_48 (Nat.le_of_ble_eq_true rfl) [(4, .int v7), (3, .int v4), (0, .ref 74), (1, .int x1), (2, .int x2)] rfl ?_
        refine ov_aload_n dX6_deal_50 2 rfl ?_
        refine ov_iload_n dX6_deal_51 1 rfl ?_
        refine ov_iload dX6_deal_52 0 rfl ?_
        refine ov_aload_n dX6_deal_54 2 rfl ?_
        refine ov_callV [] dX6_deal_55 (c_X6_draw hF) (Nat.le_of_ble_eq_true rfl) (Nat.le_of_ble_eq_true rfl) lk_X6_152 sh_74 rfl (Nat.le_of_ble_eq_true rfl) (Nat.le_refl _) (Nat.le_refl _) (fun rr σ9 hF => ?_)
        obtain ⟨v8, rfl, hF⟩ := hF
        show vv_X6_deal k 58 [(4, .int v7), (3, .int v4), (0, .ref 74), (1, .int x1), (2, .int x2)] [.int v8, .int v7, .int v4, .ref 74] σ9
        refine ov_sipush 1000 (by decide) dX6_deal_58 ?_
        refine ov_irem (by decide) dX6_deal_61 ?_
        refine ov_callV [.int v4, .int v7, .int (v8 - v8 / 1000 * 1000)] dX6_deal_62 (c_X6_comes hF) (Nat.le_of_ble_eq_true rfl) (Nat.le_of_ble_eq_true rfl) lk_X6_92 sh_74 rfl (Nat.le_of_ble_eq_true rfl) (Nat.le_refl _) (Nat.le_refl _) (fun rr σ11 hF => ?_)
        obtain ⟨v10, rfl, hF⟩ := hF
        show vv_X6_deal k 65 [(4, .int v7), (3, .int v4), (0, .ref 74), (1, .int x1), (2, .int x2)] [.int v10] σ11
        refine ov_istore dX6_deal_65 (Nat.le_of_ble_eq_true rfl) [(5, .int v10), (4, .int v7), (3, .int v4), (0, .ref 74), (1, .int x1), (2, .int x2)] rfl ?_
        refine ov_iinc dX6_deal_67 5 rfl (x2 + 1) rfl (Nat.le_of_ble_eq_true rfl) [(2, .int (x2 + 1)), (5, .int v10), (4, .int v7), (3, .int v4), (0, .ref 74), (1, .int x1)] rfl ?_
        refine ov_goto 15 dX6_deal_70 (by decide) ?_
        refine ov_pick [4, 5, 0] [(0, .ref 74), (1, .int x1), (2, .int (x2 + 1))] rfl ?_
        exact ih x1 (x2 + 1) σ11 hF
def F_X6_deal (x1 : Int32) (σ : ovSt) (k : Int32 → ovSt → Prop) : Prop := (F_X6_in x1 1 8 σ (fun v12 σ13 => (if v12 = 0 then (k (-1000000001) σ13) else (∃ n14, F_X6_deal_15 k n14 x1 0 σ13))))
set_option maxRecDepth 100000 in
set_option maxHeartbeats 4000000 in
theorem c_X6_deal {x1 : Int32} {σ : ovSt} {k : Int32 → ovSt → Prop} (hF : F_X6_deal x1 σ k) : ov_Ct 2 yX6_deal cX6_deal 6 (some .int) ov_S0 [.ref 74, .int x1] σ (ovKi k) := by
  refine ov_Ct.of (by decide) (Nat.le_of_ble_eq_true rfl) ?_
  unfold F_X6_deal at hF
  show vv_X6_deal k 0 [(0, .ref 74), (1, .int x1)] [] σ
  refine ov_iload_n dX6_deal_0 1 rfl ?_
  refine ov_iconst 1 (by decide) dX6_deal_1 ?_
  refine ov_bipush 8 (by decide) dX6_deal_2 ?_
  refine ov_callS [.int x1, .int 1, .int 8] dX6_deal_4 (c_X6_in hF) (Nat.le_of_ble_eq_true rfl) (Nat.le_of_ble_eq_true rfl) lk_X6_82 (Nat.le_of_ble_eq_true rfl) (Nat.le_refl _) (Nat.le_refl _) (fun rr σ13 hF => ?_)
  obtain ⟨v12, rfl, hF⟩ := hF
  show vv_X6_deal k 7 [(0, .ref 74), (1, .int x1)] [.int v12] σ13
  refine ov_if_ne 13 dX6_deal_7 (by decide) hF (fun hF => ?_) (fun hF => ?_)
  · refine ov_iconst 0 (by decide) dX6_deal_13 ?_
    refine ov_istore_n dX6_deal_14 (Nat.le_of_ble_eq_true rfl) [(2, .int 0), (0, .ref 74), (1, .int x1)] rfl ?_
    refine ov_pick [1, 2, 0] [(0, .ref 74), (1, .int x1), (2, .int 0)] rfl ?_
    obtain ⟨n14, hF⟩ := hF
    exact V_X6_deal_15 n14 x1 0 σ13 hF
  · refine ov_ldc dX6_deal_10 qc_X6_90 ?_
    exact ov_ireturn dX6_deal_12 (Nat.le_refl _) (Nat.le_refl _) ⟨rfl, trivial, _, rfl, hF⟩
/-! X6_seed -/
abbrev vv_X6_seed (k : Int32 → ovSt → Prop) (pc : Nat) (L : List (Nat × Value)) (st : List Value) (σ : ovSt) : Prop := ov_V (ovZs 1 yX6_seed cX6_seed 2) (ovKs (some .int) ov_S0 (ovKi k)) (0, 0) ov_S0 pc L st σ
def F_X6_seed (x1 : Int32) (σ : ovSt) (k : Int32 → ovSt → Prop) : Prop := (F_X6_becomes 0 x1 σ (fun v1 σ2 => (k v1 σ2)))
set_option maxRecDepth 100000 in
set_option maxHeartbeats 4000000 in
theorem c_X6_seed {x1 : Int32} {σ : ovSt} {k : Int32 → ovSt → Prop} (hF : F_X6_seed x1 σ k) : ov_Ct 1 yX6_seed cX6_seed 2 (some .int) ov_S0 [.ref 74, .int x1] σ (ovKi k) := by
  refine ov_Ct.of (by decide) (Nat.le_of_ble_eq_true rfl) ?_
  unfold F_X6_seed at hF
  show vv_X6_seed k 0 [(0, .ref 74), (1, .int x1)] [] σ
  refine ov_aload_n dX6_seed_0 0 rfl ?_
  refine ov_iconst 0 (by decide) dX6_seed_1 ?_
  refine ov_iload_n dX6_seed_2 1 rfl ?_
  refine ov_callV [.int 0, .int x1] dX6_seed_3 (c_X6_becomes hF) (Nat.le_of_ble_eq_true rfl) (Nat.le_of_ble_eq_true rfl) lk_X6_148 sh_74 rfl (Nat.le_of_ble_eq_true rfl) (Nat.le_refl _) (Nat.le_refl _) (fun rr σ2 hF => ?_)
  obtain ⟨v1, rfl, hF⟩ := hF
  show vv_X6_seed k 6 [(0, .ref 74), (1, .int x1)] [.int v1] σ2
  exact ov_ireturn dX6_seed_6 (Nat.le_refl _) (Nat.le_refl _) ⟨rfl, trivial, _, rfl, hF⟩
/-! X6_pot -/
abbrev vv_X6_pot (k : Int32 → ovSt → Prop) (pc : Nat) (L : List (Nat × Value)) (st : List Value) (σ : ovSt) : Prop := ov_V (ovZs 1 yX6_pot cX6_pot 3) (ovKs (some .int) ov_S0 (ovKi k)) (0, 0) ov_S0 pc L st σ
def F_X6_pot_35 (k : Int32 → ovSt → Prop) (t0 : Int32) (σ : ovSt) : Prop := (k t0 σ)
set_option maxRecDepth 100000 in
set_option maxHeartbeats 4000000 in
theorem V_X6_pot_35 {k : Int32 → ovSt → Prop} (t0 : Int32) (σ : ovSt) (hF : F_X6_pot_35 k t0 σ) : vv_X6_pot k 35 [] [.int t0] σ := by
  unfold F_X6_pot_35 at hF
  exact ov_ireturn dX6_pot_35 (Nat.le_refl _) (Nat.le_refl _) ⟨rfl, trivial, _, rfl, hF⟩
def F_X6_pot_33 (k : Int32 → ovSt → Prop) (σ : ovSt) : Prop := (F_X6_pot_35 k (-1000000001) σ)
set_option maxRecDepth 100000 in
set_option maxHeartbeats 4000000 in
theorem V_X6_pot_33 {k : Int32 → ovSt → Prop} (σ : ovSt) (hF : F_X6_pot_33 k σ) : vv_X6_pot k 33 [] [] σ := by
  unfold F_X6_pot_33 at hF
  refine ov_ldc dX6_pot_33 qc_X6_90 ?_
  exact V_X6_pot_35 (-1000000001) σ hF
def F_X6_pot (x1 : Int32) (x2 : Int32) (σ : ovSt) (k : Int32 → ovSt → Prop) : Prop := (F_X6_in x1 0 1 σ (fun v1 σ2 => (if v1 = 0 then (F_X6_pot_33 k σ2) else (F_X6_in x2 (1 - x1) 999 σ2 (fun v3 σ4 => (if v3 = 0 then (F_X6_pot_33 k σ4) else (F_X6_becomes (2 + x1) x2 σ4 (fun v5 σ6 => (F_X6_pot_35 k v5 σ6)))))))))
set_option maxRecDepth 100000 in
set_option maxHeartbeats 4000000 in
theorem c_X6_pot {x1 : Int32} {x2 : Int32} {σ : ovSt} {k : Int32 → ovSt → Prop} (hF : F_X6_pot x1 x2 σ k) : ov_Ct 1 yX6_pot cX6_pot 3 (some .int) ov_S0 [.ref 74, .int x1, .int x2] σ (ovKi k) := by
  refine ov_Ct.of (by decide) (Nat.le_of_ble_eq_true rfl) ?_
  unfold F_X6_pot at hF
  show vv_X6_pot k 0 [(0, .ref 74), (1, .int x1), (2, .int x2)] [] σ
  refine ov_iload_n dX6_pot_0 1 rfl ?_
  refine ov_iconst 0 (by decide) dX6_pot_1 ?_
  refine ov_iconst 1 (by decide) dX6_pot_2 ?_
  refine ov_callS [.int x1, .int 0, .int 1] dX6_pot_3 (c_X6_in hF) (Nat.le_of_ble_eq_true rfl) (Nat.le_of_ble_eq_true rfl) lk_X6_82 (Nat.le_of_ble_eq_true rfl) (Nat.le_refl _) (Nat.le_refl _) (fun rr σ2 hF => ?_)
  obtain ⟨v1, rfl, hF⟩ := hF
  show vv_X6_pot k 6 [(0, .ref 74), (1, .int x1), (2, .int x2)] [.int v1] σ2
  refine ov_if_eq 33 dX6_pot_6 (by decide) hF (fun hF => ?_) (fun hF => ?_)
  · refine ov_pick [] [] rfl ?_
    exact V_X6_pot_33 σ2 hF
  · refine ov_iload_n dX6_pot_9 2 rfl ?_
    refine ov_iconst 1 (by decide) dX6_pot_10 ?_
    refine ov_iload_n dX6_pot_11 1 rfl ?_
    refine ov_isub dX6_pot_12 ?_
    refine ov_sipush 999 (by decide) dX6_pot_13 ?_
    refine ov_callS [.int x2, .int (1 - x1), .int 999] dX6_pot_16 (c_X6_in hF) (Nat.le_of_ble_eq_true rfl) (Nat.le_of_ble_eq_true rfl) lk_X6_82 (Nat.le_of_ble_eq_true rfl) (Nat.le_refl _) (Nat.le_refl _) (fun rr σ4 hF => ?_)
    obtain ⟨v3, rfl, hF⟩ := hF
    show vv_X6_pot k 19 [(0, .ref 74), (1, .int x1), (2, .int x2)] [.int v3] σ4
    refine ov_if_eq 33 dX6_pot_19 (by decide) hF (fun hF => ?_) (fun hF => ?_)
    · refine ov_pick [] [] rfl ?_
      exact V_X6_pot_33 σ4 hF
    · refine ov_aload_n dX6_pot_22 0 rfl ?_
      refine ov_iconst 2 (by decide) dX6_pot_23 ?_
      refine ov_iload_n dX6_pot_24 1 rfl ?_
      refine ov_iadd dX6_pot_25 ?_
      refine ov_iload_n dX6_pot_26 2 rfl ?_
      refine ov_callV [.int (2 + x1), .int x2] dX6_pot_27 (c_X6_becomes hF) (Nat.le_of_ble_eq_true rfl) (Nat.le_of_ble_eq_true rfl) lk_X6_148 sh_74 rfl (Nat.le_of_ble_eq_true rfl) (Nat.le_refl _) (Nat.le_refl _) (fun rr σ6 hF => ?_)
      obtain ⟨v5, rfl, hF⟩ := hF
      show vv_X6_pot k 30 [(0, .ref 74), (1, .int x1), (2, .int x2)] [.int v5] σ6
      refine ov_goto 35 dX6_pot_30 (by decide) ?_
      refine ov_pick [] [] rfl ?_
      exact V_X6_pot_35 v5 σ6 hF
/-! X6_tasteAll -/
abbrev vv_X6_tasteAll (k : Int32 → ovSt → Prop) (pc : Nat) (L : List (Nat × Value)) (st : List Value) (σ : ovSt) : Prop := ov_V (ovZs 4 yX6_tasteAll cX6_tasteAll 3) (ovKs (some .int) ov_S0 (ovKi k)) (0, 0) ov_S0 pc L st σ
def F_X6_tasteAll_4 (k : Int32 → ovSt → Prop) : Nat → Int32 → Int32 → ovSt → Prop
  | 0 => fun _ _ _ => False
  | n + 1 => fun x1 x2 σ => (vp_in 1 1412 ∧ (if (σ 75 (Int32.toNatClampNeg 1)) ≤ x2 then (k x1 σ) else (F_X6_tasteOf x2 σ (fun v2 σ3 => (∀ v4 : Int32, v4 = (x1 + v2) → F_X6_tasteAll_4 k n v4 (x2 + 1) σ3)))))
set_option maxRecDepth 100000 in
set_option maxHeartbeats 4000000 in
theorem V_X6_tasteAll_4 {k : Int32 → ovSt → Prop} : ∀ (n : Nat) (x1 : Int32) (x2 : Int32) (σ : ovSt), F_X6_tasteAll_4 k n x1 x2 σ → vv_X6_tasteAll k 4 [(0, .ref 74), (1, .int x1), (2, .int x2)] [] σ := by
  intro n
  induction n with
  | zero => intro x1 x2 σ hF; exact hF.elim
  | succ n ih =>
    intro x1 x2 σ hF
    unfold F_X6_tasteAll_4 at hF
    refine ov_iload_n dX6_tasteAll_4 2 rfl ?_
    refine ov_aload_n dX6_tasteAll_5 0 rfl ?_
    refine ov_getr (T := TX6) (kf := 0) dX6_tasteAll_6 qf_X6_9 sh_74 rfl (Nat.le_of_ble_eq_true rfl) rfl (by decide) ?_
    refine ov_iconst 1 (by decide) dX6_tasteAll_9 ?_
    have h1 := hF.1
    have hF := hF.2
    refine ov_iaload dX6_tasteAll_10 sh_75 h1 ?_
    refine ov_icmp_ge 28 dX6_tasteAll_11 (by decide) hF (fun hF => ?_) (fun hF => ?_)
    · refine ov_iload_n dX6_tasteAll_28 1 rfl ?_
      exact ov_ireturn dX6_tasteAll_29 (Nat.le_refl _) (Nat.le_refl _) ⟨rfl, trivial, _, rfl, hF⟩
    · refine ov_iload_n dX6_tasteAll_14 1 rfl ?_
      refine ov_aload_n dX6_tasteAll_15 0 rfl ?_
      refine ov_iload_n dX6_tasteAll_16 2 rfl ?_
      refine ov_callV [.int x2] dX6_tasteAll_17 (c_X6_tasteOf hF) (Nat.le_of_ble_eq_true rfl) (Nat.le_of_ble_eq_true rfl) lk_X6_122 sh_74 rfl (Nat.le_of_ble_eq_true rfl) (Nat.le_refl _) (Nat.le_refl _) (fun rr σ3 hF => ?_)
      obtain ⟨v2, rfl, hF⟩ := hF
      show vv_X6_tasteAll k 20 [(0, .ref 74), (1, .int x1), (2, .int x2)] [.int v2, .int x1] σ3
      refine ov_iadd dX6_tasteAll_20 ?_
      refine ov_nmI (fun v4 ev4 => ?_)
      have hF := hF v4 ev4
      refine ov_istore_n dX6_tasteAll_21 (Nat.le_of_ble_eq_true rfl) [(1, .int v4), (0, .ref 74), (2, .int x2)] rfl ?_
      refine ov_iinc dX6_tasteAll_22 2 rfl (x2 + 1) rfl (Nat.le_of_ble_eq_true rfl) [(2, .int (x2 + 1)), (1, .int v4), (0, .ref 74)] rfl ?_
      refine ov_goto 4 dX6_tasteAll_25 (by decide) ?_
      refine ov_pick [2, 1, 0] [(0, .ref 74), (1, .int v4), (2, .int (x2 + 1))] rfl ?_
      exact ih v4 (x2 + 1) σ3 hF
def F_X6_tasteAll (σ : ovSt) (k : Int32 → ovSt → Prop) : Prop := (∃ n5, F_X6_tasteAll_4 k n5 0 0 σ)
set_option maxRecDepth 100000 in
set_option maxHeartbeats 4000000 in
theorem c_X6_tasteAll {σ : ovSt} {k : Int32 → ovSt → Prop} (hF : F_X6_tasteAll σ k) : ov_Ct 4 yX6_tasteAll cX6_tasteAll 3 (some .int) ov_S0 [.ref 74] σ (ovKi k) := by
  refine ov_Ct.of (by decide) (Nat.le_of_ble_eq_true rfl) ?_
  unfold F_X6_tasteAll at hF
  show vv_X6_tasteAll k 0 [(0, .ref 74)] [] σ
  refine ov_iconst 0 (by decide) dX6_tasteAll_0 ?_
  refine ov_istore_n dX6_tasteAll_1 (Nat.le_of_ble_eq_true rfl) [(1, .int 0), (0, .ref 74)] rfl ?_
  refine ov_iconst 0 (by decide) dX6_tasteAll_2 ?_
  refine ov_istore_n dX6_tasteAll_3 (Nat.le_of_ble_eq_true rfl) [(2, .int 0), (1, .int 0), (0, .ref 74)] rfl ?_
  refine ov_pick [2, 1, 0] [(0, .ref 74), (1, .int 0), (2, .int 0)] rfl ?_
  obtain ⟨n5, hF⟩ := hF
  exact V_X6_tasteAll_4 n5 0 0 σ hF
/-! X6_day -/
abbrev vv_X6_day (k : ovSt → Prop) (pc : Nat) (L : List (Nat × Value)) (st : List Value) (σ : ovSt) : Prop := ov_V (ovZs 2 yX6_day cX6_day 4) (ovKs none ov_S0 (ovKv k)) (0, 0) ov_S0 pc L st σ
def F_X6_day_53 (R2 : Int32 → ovSt → Prop) (k : ovSt → Prop) (x1 : Int32) (x2 : Int32) (t0 : Int32) (σ : ovSt) : Prop := (F_X6_put x1 2 (x2 - t0) σ (fun σ2 => (vp_in 5 1412 ∧ (∀ σ4 : ovSt, σ4 = ov_up σ2 75 (Int32.toNatClampNeg 5) ((σ2 75 (Int32.toNatClampNeg 5)) + t0) → R2 (x1 + 1) σ4))))
set_option maxRecDepth 100000 in
set_option maxHeartbeats 4000000 in
theorem V_X6_day_53 {k : ovSt → Prop} {R2 : Int32 → ovSt → Prop} (hR2 : ∀ (x1 : Int32) (σ : ovSt), R2 x1 σ → vv_X6_day k 2 [(0, .ref 74), (1, .int x1)] [] σ) (x1 : Int32) (x2 : Int32) (t0 : Int32) (σ : ovSt) (hF : F_X6_day_53 R2 k x1 x2 t0 σ) : vv_X6_day k 53 [(0, .ref 74), (1, .int x1), (2, .int x2)] [.int t0] σ := by
  unfold F_X6_day_53 at hF
  refine ov_istore_n dX6_day_53 (Nat.le_of_ble_eq_true rfl) [(3, .int t0), (0, .ref 74), (1, .int x1), (2, .int x2)] rfl ?_
  refine ov_aload_n dX6_day_54 1 rfl ?_
  refine ov_iload_n dX6_day_55 2 rfl ?_
  refine ov_iconst 2 (by decide) dX6_day_56 ?_
  refine ov_iload_n dX6_day_57 3 rfl ?_
  refine ov_iload_n dX6_day_58 0 rfl ?_
  refine ov_isub dX6_day_59 ?_
  refine ov_callV [.int x1, .int 2, .int (x2 - t0)] dX6_day_60 (c_X6_put hF) (Nat.le_of_ble_eq_true rfl) (Nat.le_of_ble_eq_true rfl) lk_X6_86 sh_74 rfl (Nat.le_of_ble_eq_true rfl) (Nat.le_refl _) (Nat.le_refl _) (fun rr σ2 hF => ?_)
  obtain ⟨rfl, hF⟩ := hF
  show vv_X6_day k 63 [(3, .int t0), (0, .ref 74), (1, .int x1), (2, .int x2)] [] σ2
  refine ov_aload_n dX6_day_63 1 rfl ?_
  refine ov_getr (T := TX6) (kf := 0) dX6_day_64 qf_X6_9 sh_74 rfl (Nat.le_of_ble_eq_true rfl) rfl (by decide) ?_
  refine ov_iconst 5 (by decide) dX6_day_67 ?_
  refine ov_dup2 rfl rfl dX6_day_68 ?_
  have h3 := hF.1
  have hF := hF.2
  refine ov_iaload dX6_day_69 sh_75 h3 ?_
  refine ov_iload_n dX6_day_70 0 rfl ?_
  refine ov_iadd dX6_day_71 ?_
  refine ov_iastore dX6_day_72 sh_75 h3 ?_
  refine ov_nmS (fun σ4 es4 => ?_)
  have hF := hF σ4 es4
  refine ov_iinc dX6_day_73 2 rfl (x1 + 1) rfl (Nat.le_of_ble_eq_true rfl) [(1, .int (x1 + 1)), (3, .int t0), (0, .ref 74), (2, .int x2)] rfl ?_
  refine ov_goto 2 dX6_day_76 (by decide) ?_
  refine ov_pick [2, 0] [(0, .ref 74), (1, .int (x1 + 1))] rfl ?_
  exact hR2 (x1 + 1) σ4 hF
def F_X6_day_153 (R81 : Int32 → ovSt → Prop) (k : ovSt → Prop) (x1 : Int32) (t0 : Int32) (t1 : Int32) (t2 : Int32) (σ : ovSt) : Prop := (F_X6_put t2 t1 t0 σ (fun σ6 => R81 (x1 + 1) σ6))
set_option maxRecDepth 100000 in
set_option maxHeartbeats 4000000 in
theorem V_X6_day_153 {k : ovSt → Prop} {R81 : Int32 → ovSt → Prop} (hR81 : ∀ (x1 : Int32) (σ : ovSt), R81 x1 σ → vv_X6_day k 81 [(0, .ref 74), (1, .int x1)] [] σ) (x1 : Int32) (t0 : Int32) (t1 : Int32) (t2 : Int32) (σ : ovSt) (hF : F_X6_day_153 R81 k x1 t0 t1 t2 σ) : vv_X6_day k 153 [(0, .ref 74), (1, .int x1)] [.int t0, .int t1, .int t2, .ref 74] σ := by
  unfold F_X6_day_153 at hF
  refine ov_callV [.int t2, .int t1, .int t0] dX6_day_153 (c_X6_put hF) (Nat.le_of_ble_eq_true rfl) (Nat.le_of_ble_eq_true rfl) lk_X6_86 sh_74 rfl (Nat.le_of_ble_eq_true rfl) (Nat.le_refl _) (Nat.le_refl _) (fun rr σ6 hF => ?_)
  obtain ⟨rfl, hF⟩ := hF
  show vv_X6_day k 156 [(0, .ref 74), (1, .int x1)] [] σ6
  refine ov_iinc dX6_day_156 1 rfl (x1 + 1) rfl (Nat.le_of_ble_eq_true rfl) [(1, .int (x1 + 1)), (0, .ref 74)] rfl ?_
  refine ov_goto 81 dX6_day_159 (by decide) ?_
  refine ov_pick [1, 0] [(0, .ref 74), (1, .int (x1 + 1))] rfl ?_
  exact hR81 (x1 + 1) σ6 hF
def F_X6_day_81 (k : ovSt → Prop) : Nat → Int32 → ovSt → Prop
  | 0 => fun _ _ => False
  | n + 1 => fun x1 σ => (vp_in 1 1412 ∧ (if (σ 75 (Int32.toNatClampNeg 1)) ≤ x1 then (vp_in 4 1412 ∧ (∀ σ9 : ovSt, σ9 = ov_up σ 75 (Int32.toNatClampNeg 4) ((σ 75 (Int32.toNatClampNeg 4)) + 1) → (k σ9))) else (F_X6_wearsOf x1 σ (fun v10 σ11 => (F_X6_of x1 2 σ11 (fun v12 σ13 => (F_X6_put x1 2 (v12 - v10) σ13 (fun σ15 => (vp_in 6 1412 ∧ (∀ σ17 : ovSt, σ17 = ov_up σ15 75 (Int32.toNatClampNeg 6) ((σ15 75 (Int32.toNatClampNeg 6)) + v10) → (F_X6_of x1 2 σ17 (fun v18 σ19 => (if v18 = 0 then (F_X6_day_153 (F_X6_day_81 k n) k x1 0 3 x1 σ19) else (F_X6_of x1 3 σ19 (fun v20 σ21 => (F_X6_within (v20 + 1) 0 9999 σ21 (fun v22 σ23 => (F_X6_day_153 (F_X6_day_81 k n) k x1 v22 3 x1 σ23))))))))))))))))))
set_option maxRecDepth 100000 in
set_option maxHeartbeats 4000000 in
theorem V_X6_day_81 {k : ovSt → Prop} : ∀ (n : Nat) (x1 : Int32) (σ : ovSt), F_X6_day_81 k n x1 σ → vv_X6_day k 81 [(0, .ref 74), (1, .int x1)] [] σ := by
  intro n
  induction n with
  | zero => intro x1 σ hF; exact hF.elim
  | succ n ih =>
    intro x1 σ hF
    unfold F_X6_day_81 at hF
    refine ov_iload_n dX6_day_81 1 rfl ?_
    refine ov_aload_n dX6_day_82 0 rfl ?_
    refine ov_getr (T := TX6) (kf := 0) dX6_day_83 qf_X6_9 sh_74 rfl (Nat.le_of_ble_eq_true rfl) rfl (by decide) ?_
    refine ov_iconst 1 (by decide) dX6_day_86 ?_
    have h7 := hF.1
    have hF := hF.2
    refine ov_iaload dX6_day_87 sh_75 h7 ?_
    refine ov_icmp_ge 162 dX6_day_88 (by decide) hF (fun hF => ?_) (fun hF => ?_)
    · refine ov_aload_n dX6_day_162 0 rfl ?_
      refine ov_getr (T := TX6) (kf := 0) dX6_day_163 qf_X6_9 sh_74 rfl (Nat.le_of_ble_eq_true rfl) rfl (by decide) ?_
      refine ov_iconst 4 (by decide) dX6_day_166 ?_
      refine ov_dup2 rfl rfl dX6_day_167 ?_
      have h8 := hF.1
      have hF := hF.2
      refine ov_iaload dX6_day_168 sh_75 h8 ?_
      refine ov_iconst 1 (by decide) dX6_day_169 ?_
      refine ov_iadd dX6_day_170 ?_
      refine ov_iastore dX6_day_171 sh_75 h8 ?_
      refine ov_nmS (fun σ9 es9 => ?_)
      have hF := hF σ9 es9
      exact ov_return dX6_day_172 (Nat.le_refl _) (Nat.le_refl _) ⟨rfl, trivial, rfl, hF⟩
    · refine ov_aload_n dX6_day_91 0 rfl ?_
      refine ov_iload_n dX6_day_92 1 rfl ?_
      refine ov_callV [.int x1] dX6_day_93 (c_X6_wearsOf hF) (Nat.le_of_ble_eq_true rfl) (Nat.le_of_ble_eq_true rfl) lk_X6_134 sh_74 rfl (Nat.le_of_ble_eq_true rfl) (Nat.le_refl _) (Nat.le_refl _) (fun rr σ11 hF => ?_)
      obtain ⟨v10, rfl, hF⟩ := hF
      show vv_X6_day k 96 [(0, .ref 74), (1, .int x1)] [.int v10] σ11
      refine ov_istore_n dX6_day_96 (Nat.le_of_ble_eq_true rfl) [(2, .int v10), (0, .ref 74), (1, .int x1)] rfl ?_
      refine ov_aload_n dX6_day_97 1 rfl ?_
      refine ov_iload_n dX6_day_98 2 rfl ?_
      refine ov_iconst 2 (by decide) dX6_day_99 ?_
      refine ov_aload_n dX6_day_100 1 rfl ?_
      refine ov_iload_n dX6_day_101 2 rfl ?_
      refine ov_iconst 2 (by decide) dX6_day_102 ?_
      refine ov_callV [.int x1, .int 2] dX6_day_103 (c_X6_of hF) (Nat.le_of_ble_eq_true rfl) (Nat.le_of_ble_eq_true rfl) lk_X6_96 sh_74 rfl (Nat.le_of_ble_eq_true rfl) (Nat.le_refl _) (Nat.le_refl _) (fun rr σ13 hF => ?_)
      obtain ⟨v12, rfl, hF⟩ := hF
      show vv_X6_day k 106 [(2, .int v10), (0, .ref 74), (1, .int x1)] [.int v12, .int 2, .int x1, .ref 74] σ13
      refine ov_iload_n dX6_day_106 0 rfl ?_
      refine ov_isub dX6_day_107 ?_
      refine ov_callV [.int x1, .int 2, .int (v12 - v10)] dX6_day_108 (c_X6_put hF) (Nat.le_of_ble_eq_true rfl) (Nat.le_of_ble_eq_true rfl) lk_X6_86 sh_74 rfl (Nat.le_of_ble_eq_true rfl) (Nat.le_refl _) (Nat.le_refl _) (fun rr σ15 hF => ?_)
      obtain ⟨rfl, hF⟩ := hF
      show vv_X6_day k 111 [(2, .int v10), (0, .ref 74), (1, .int x1)] [] σ15
      refine ov_aload_n dX6_day_111 1 rfl ?_
      refine ov_getr (T := TX6) (kf := 0) dX6_day_112 qf_X6_9 sh_74 rfl (Nat.le_of_ble_eq_true rfl) rfl (by decide) ?_
      refine ov_bipush 6 (by decide) dX6_day_115 ?_
      refine ov_dup2 rfl rfl dX6_day_117 ?_
      have h16 := hF.1
      have hF := hF.2
      refine ov_iaload dX6_day_118 sh_75 h16 ?_
      refine ov_iload_n dX6_day_119 0 rfl ?_
      refine ov_iadd dX6_day_120 ?_
      refine ov_iastore dX6_day_121 sh_75 h16 ?_
      refine ov_nmS (fun σ17 es17 => ?_)
      have hF := hF σ17 es17
      refine ov_aload_n dX6_day_122 1 rfl ?_
      refine ov_iload_n dX6_day_123 2 rfl ?_
      refine ov_iconst 3 (by decide) dX6_day_124 ?_
      refine ov_aload_n dX6_day_125 1 rfl ?_
      refine ov_iload_n dX6_day_126 2 rfl ?_
      refine ov_iconst 2 (by decide) dX6_day_127 ?_
      refine ov_callV [.int x1, .int 2] dX6_day_128 (c_X6_of hF) (Nat.le_of_ble_eq_true rfl) (Nat.le_of_ble_eq_true rfl) lk_X6_96 sh_74 rfl (Nat.le_of_ble_eq_true rfl) (Nat.le_refl _) (Nat.le_refl _) (fun rr σ19 hF => ?_)
      obtain ⟨v18, rfl, hF⟩ := hF
      show vv_X6_day k 131 [(2, .int v10), (0, .ref 74), (1, .int x1)] [.int v18, .int 3, .int x1, .ref 74] σ19
      refine ov_if_ne 138 dX6_day_131 (by decide) hF (fun hF => ?_) (fun hF => ?_)
      · refine ov_aload_n dX6_day_138 1 rfl ?_
        refine ov_iload_n dX6_day_139 2 rfl ?_
        refine ov_iconst 3 (by decide) dX6_day_140 ?_
        refine ov_callV [.int x1, .int 3] dX6_day_141 (c_X6_of hF) (Nat.le_of_ble_eq_true rfl) (Nat.le_of_ble_eq_true rfl) lk_X6_96 sh_74 rfl (Nat.le_of_ble_eq_true rfl) (Nat.le_refl _) (Nat.le_refl _) (fun rr σ21 hF => ?_)
        obtain ⟨v20, rfl, hF⟩ := hF
        show vv_X6_day k 144 [(2, .int v10), (0, .ref 74), (1, .int x1)] [.int v20, .int 3, .int x1, .ref 74] σ21
        refine ov_iconst 1 (by decide) dX6_day_144 ?_
        refine ov_iadd dX6_day_145 ?_
        refine ov_iconst 0 (by decide) dX6_day_146 ?_
        refine ov_sipush 9999 (by decide) dX6_day_147 ?_
        refine ov_callS [.int (v20 + 1), .int 0, .int 9999] dX6_day_150 (c_X6_within hF) (Nat.le_of_ble_eq_true rfl) (Nat.le_of_ble_eq_true rfl) lk_X6_101 (Nat.le_of_ble_eq_true rfl) (Nat.le_refl _) (Nat.le_refl _) (fun rr σ23 hF => ?_)
        obtain ⟨v22, rfl, hF⟩ := hF
        show vv_X6_day k 153 [(2, .int v10), (0, .ref 74), (1, .int x1)] [.int v22, .int 3, .int x1, .ref 74] σ23
        refine ov_pick [1, 2] [(0, .ref 74), (1, .int x1)] rfl ?_
        exact V_X6_day_153 ih x1 v22 3 x1 σ23 hF
      · refine ov_iconst 0 (by decide) dX6_day_134 ?_
        refine ov_goto 153 dX6_day_135 (by decide) ?_
        refine ov_pick [1, 2] [(0, .ref 74), (1, .int x1)] rfl ?_
        exact V_X6_day_153 ih x1 0 3 x1 σ19 hF
def F_X6_day_2 (k : ovSt → Prop) : Nat → Int32 → ovSt → Prop
  | 0 => fun _ _ => False
  | n + 1 => fun x1 σ => (vp_in 1 1412 ∧ (if (σ 75 (Int32.toNatClampNeg 1)) ≤ x1 then (∃ n25, F_X6_day_81 k n25 0 σ) else (F_X6_of x1 2 σ (fun v26 σ27 => (vp_in 3 1412 ∧ (vp_in 2 1412 ∧ (if (σ27 75 (Int32.toNatClampNeg 3)) < (σ27 75 (Int32.toNatClampNeg 2)) then (¬ (σ27 75 (Int32.toNatClampNeg 2)) = 0 ∧ (F_X6_day_53 (F_X6_day_2 k n) k x1 v26 ((v26 * (σ27 75 (Int32.toNatClampNeg 3))) / (σ27 75 (Int32.toNatClampNeg 2))) σ27)) else (F_X6_day_53 (F_X6_day_2 k n) k x1 v26 v26 σ27))))))))
set_option maxRecDepth 100000 in
set_option maxHeartbeats 4000000 in
theorem V_X6_day_2 {k : ovSt → Prop} : ∀ (n : Nat) (x1 : Int32) (σ : ovSt), F_X6_day_2 k n x1 σ → vv_X6_day k 2 [(0, .ref 74), (1, .int x1)] [] σ := by
  intro n
  induction n with
  | zero => intro x1 σ hF; exact hF.elim
  | succ n ih =>
    intro x1 σ hF
    unfold F_X6_day_2 at hF
    refine ov_iload_n dX6_day_2 1 rfl ?_
    refine ov_aload_n dX6_day_3 0 rfl ?_
    refine ov_getr (T := TX6) (kf := 0) dX6_day_4 qf_X6_9 sh_74 rfl (Nat.le_of_ble_eq_true rfl) rfl (by decide) ?_
    refine ov_iconst 1 (by decide) dX6_day_7 ?_
    have h24 := hF.1
    have hF := hF.2
    refine ov_iaload dX6_day_8 sh_75 h24 ?_
    refine ov_icmp_ge 79 dX6_day_9 (by decide) hF (fun hF => ?_) (fun hF => ?_)
    · refine ov_iconst 0 (by decide) dX6_day_79 ?_
      refine ov_istore_n dX6_day_80 (Nat.le_of_ble_eq_true rfl) [(1, .int 0), (0, .ref 74)] rfl ?_
      refine ov_pick [1, 0] [(0, .ref 74), (1, .int 0)] rfl ?_
      obtain ⟨n25, hF⟩ := hF
      exact V_X6_day_81 n25 0 σ hF
    · refine ov_aload_n dX6_day_12 0 rfl ?_
      refine ov_iload_n dX6_day_13 1 rfl ?_
      refine ov_iconst 2 (by decide) dX6_day_14 ?_
      refine ov_callV [.int x1, .int 2] dX6_day_15 (c_X6_of hF) (Nat.le_of_ble_eq_true rfl) (Nat.le_of_ble_eq_true rfl) lk_X6_96 sh_74 rfl (Nat.le_of_ble_eq_true rfl) (Nat.le_refl _) (Nat.le_refl _) (fun rr σ27 hF => ?_)
      obtain ⟨v26, rfl, hF⟩ := hF
      show vv_X6_day k 18 [(0, .ref 74), (1, .int x1)] [.int v26] σ27
      refine ov_istore_n dX6_day_18 (Nat.le_of_ble_eq_true rfl) [(2, .int v26), (0, .ref 74), (1, .int x1)] rfl ?_
      refine ov_aload_n dX6_day_19 1 rfl ?_
      refine ov_getr (T := TX6) (kf := 0) dX6_day_20 qf_X6_9 sh_74 rfl (Nat.le_of_ble_eq_true rfl) rfl (by decide) ?_
      refine ov_iconst 3 (by decide) dX6_day_23 ?_
      have h28 := hF.1
      have hF := hF.2
      refine ov_iaload dX6_day_24 sh_75 h28 ?_
      refine ov_aload_n dX6_day_25 1 rfl ?_
      refine ov_getr (T := TX6) (kf := 0) dX6_day_26 qf_X6_9 sh_74 rfl (Nat.le_of_ble_eq_true rfl) rfl (by decide) ?_
      refine ov_iconst 2 (by decide) dX6_day_29 ?_
      have h29 := hF.1
      have hF := hF.2
      refine ov_iaload dX6_day_30 sh_75 h29 ?_
      refine ov_icmp_lt 38 dX6_day_31 (by decide) hF (fun hF => ?_) (fun hF => ?_)
      · refine ov_iload_n dX6_day_38 0 rfl ?_
        refine ov_aload_n dX6_day_39 1 rfl ?_
        refine ov_getr (T := TX6) (kf := 0) dX6_day_40 qf_X6_9 sh_74 rfl (Nat.le_of_ble_eq_true rfl) rfl (by decide) ?_
        refine ov_iconst 3 (by decide) dX6_day_43 ?_
        refine ov_iaload dX6_day_44 sh_75 h28 ?_
        refine ov_imul dX6_day_45 ?_
        refine ov_aload_n dX6_day_46 1 rfl ?_
        refine ov_getr (T := TX6) (kf := 0) dX6_day_47 qf_X6_9 sh_74 rfl (Nat.le_of_ble_eq_true rfl) rfl (by decide) ?_
        refine ov_iconst 2 (by decide) dX6_day_50 ?_
        refine ov_iaload dX6_day_51 sh_75 h29 ?_
        have h30 := hF.1
        have hF := hF.2
        refine ov_idiv h30 dX6_day_52 ?_
        refine ov_pick [1, 2, 0] [(0, .ref 74), (1, .int x1), (2, .int v26)] rfl ?_
        exact V_X6_day_53 ih x1 v26 ((v26 * (σ27 75 (Int32.toNatClampNeg 3))) / (σ27 75 (Int32.toNatClampNeg 2))) σ27 hF
      · refine ov_iload_n dX6_day_34 0 rfl ?_
        refine ov_goto 53 dX6_day_35 (by decide) ?_
        refine ov_pick [1, 2, 0] [(0, .ref 74), (1, .int x1), (2, .int v26)] rfl ?_
        exact V_X6_day_53 ih x1 v26 v26 σ27 hF
def F_X6_day (σ : ovSt) (k : ovSt → Prop) : Prop := (∃ n31, F_X6_day_2 k n31 0 σ)
set_option maxRecDepth 100000 in
set_option maxHeartbeats 4000000 in
theorem c_X6_day {σ : ovSt} {k : ovSt → Prop} (hF : F_X6_day σ k) : ov_Ct 2 yX6_day cX6_day 4 none ov_S0 [.ref 74] σ (ovKv k) := by
  refine ov_Ct.of (by decide) (Nat.le_of_ble_eq_true rfl) ?_
  unfold F_X6_day at hF
  show vv_X6_day k 0 [(0, .ref 74)] [] σ
  refine ov_iconst 0 (by decide) dX6_day_0 ?_
  refine ov_istore_n dX6_day_1 (Nat.le_of_ble_eq_true rfl) [(1, .int 0), (0, .ref 74)] rfl ?_
  refine ov_pick [1, 0] [(0, .ref 74), (1, .int 0)] rfl ?_
  obtain ⟨n31, hF⟩ := hF
  exact V_X6_day_2 n31 0 σ hF
/-! X6_goesOn -/
abbrev vv_X6_goesOn (k : ovSt → Prop) (pc : Nat) (L : List (Nat × Value)) (st : List Value) (σ : ovSt) : Prop := ov_V (ovZs 3 yX6_goesOn cX6_goesOn 3) (ovKs none ov_S0 (ovKv k)) (0, 0) ov_S0 pc L st σ
def F_X6_goesOn_2 (k : ovSt → Prop) : Nat → Int32 → Int32 → ovSt → Prop
  | 0 => fun _ _ _ => False
  | n + 1 => fun x1 x2 σ => (if x1 ≤ x2 then (k σ) else (F_X6_day σ (fun σ2 => F_X6_goesOn_2 k n x1 (x2 + 1) σ2)))
set_option maxRecDepth 100000 in
set_option maxHeartbeats 4000000 in
theorem V_X6_goesOn_2 {k : ovSt → Prop} : ∀ (n : Nat) (x1 : Int32) (x2 : Int32) (σ : ovSt), F_X6_goesOn_2 k n x1 x2 σ → vv_X6_goesOn k 2 [(0, .ref 74), (1, .int x1), (2, .int x2)] [] σ := by
  intro n
  induction n with
  | zero => intro x1 x2 σ hF; exact hF.elim
  | succ n ih =>
    intro x1 x2 σ hF
    unfold F_X6_goesOn_2 at hF
    refine ov_iload_n dX6_goesOn_2 2 rfl ?_
    refine ov_iload_n dX6_goesOn_3 1 rfl ?_
    refine ov_icmp_ge 17 dX6_goesOn_4 (by decide) hF (fun hF => ?_) (fun hF => ?_)
    · exact ov_return dX6_goesOn_17 (Nat.le_refl _) (Nat.le_refl _) ⟨rfl, trivial, rfl, hF⟩
    · refine ov_aload_n dX6_goesOn_7 0 rfl ?_
      refine ov_callV [] dX6_goesOn_8 (c_X6_day hF) (Nat.le_of_ble_eq_true rfl) (Nat.le_of_ble_eq_true rfl) lk_X6_155 sh_74 rfl (Nat.le_of_ble_eq_true rfl) (Nat.le_refl _) (Nat.le_refl _) (fun rr σ2 hF => ?_)
      obtain ⟨rfl, hF⟩ := hF
      show vv_X6_goesOn k 11 [(0, .ref 74), (1, .int x1), (2, .int x2)] [] σ2
      refine ov_iinc dX6_goesOn_11 2 rfl (x2 + 1) rfl (Nat.le_of_ble_eq_true rfl) [(2, .int (x2 + 1)), (0, .ref 74), (1, .int x1)] rfl ?_
      refine ov_goto 2 dX6_goesOn_14 (by decide) ?_
      refine ov_pick [1, 2, 0] [(0, .ref 74), (1, .int x1), (2, .int (x2 + 1))] rfl ?_
      exact ih x1 (x2 + 1) σ2 hF
def F_X6_goesOn (x1 : Int32) (σ : ovSt) (k : ovSt → Prop) : Prop := (∃ n3, F_X6_goesOn_2 k n3 x1 0 σ)
set_option maxRecDepth 100000 in
set_option maxHeartbeats 4000000 in
theorem c_X6_goesOn {x1 : Int32} {σ : ovSt} {k : ovSt → Prop} (hF : F_X6_goesOn x1 σ k) : ov_Ct 3 yX6_goesOn cX6_goesOn 3 none ov_S0 [.ref 74, .int x1] σ (ovKv k) := by
  refine ov_Ct.of (by decide) (Nat.le_of_ble_eq_true rfl) ?_
  unfold F_X6_goesOn at hF
  show vv_X6_goesOn k 0 [(0, .ref 74), (1, .int x1)] [] σ
  refine ov_iconst 0 (by decide) dX6_goesOn_0 ?_
  refine ov_istore_n dX6_goesOn_1 (Nat.le_of_ble_eq_true rfl) [(2, .int 0), (0, .ref 74), (1, .int x1)] rfl ?_
  refine ov_pick [1, 2, 0] [(0, .ref 74), (1, .int x1), (2, .int 0)] rfl ?_
  obtain ⟨n3, hF⟩ := hF
  exact V_X6_goesOn_2 n3 x1 0 σ hF
/-! X6_days -/
abbrev vv_X6_days (k : Int32 → ovSt → Prop) (pc : Nat) (L : List (Nat × Value)) (st : List Value) (σ : ovSt) : Prop := ov_V (ovZs 5 yX6_days cX6_days 2) (ovKs (some .int) ov_S0 (ovKi k)) (0, 0) ov_S0 pc L st σ
def F_X6_days (x1 : Int32) (σ : ovSt) (k : Int32 → ovSt → Prop) : Prop := (F_X6_in x1 1 300 σ (fun v1 σ2 => (if v1 = 0 then (k (-1000000001) σ2) else (vp_in 4 1412 ∧ (F_X6_within (9999 - (σ2 75 (Int32.toNatClampNeg 4))) 0 x1 σ2 (fun v4 σ5 => (F_X6_goesOn v4 σ5 (fun σ7 => (F_X6_tasteAll σ7 (fun v8 σ9 => (k v8 σ9)))))))))))
set_option maxRecDepth 100000 in
set_option maxHeartbeats 4000000 in
theorem c_X6_days {x1 : Int32} {σ : ovSt} {k : Int32 → ovSt → Prop} (hF : F_X6_days x1 σ k) : ov_Ct 5 yX6_days cX6_days 2 (some .int) ov_S0 [.ref 74, .int x1] σ (ovKi k) := by
  refine ov_Ct.of (by decide) (Nat.le_of_ble_eq_true rfl) ?_
  unfold F_X6_days at hF
  show vv_X6_days k 0 [(0, .ref 74), (1, .int x1)] [] σ
  refine ov_iload_n dX6_days_0 1 rfl ?_
  refine ov_iconst 1 (by decide) dX6_days_1 ?_
  refine ov_sipush 300 (by decide) dX6_days_2 ?_
  refine ov_callS [.int x1, .int 1, .int 300] dX6_days_5 (c_X6_in hF) (Nat.le_of_ble_eq_true rfl) (Nat.le_of_ble_eq_true rfl) lk_X6_82 (Nat.le_of_ble_eq_true rfl) (Nat.le_refl _) (Nat.le_refl _) (fun rr σ2 hF => ?_)
  obtain ⟨v1, rfl, hF⟩ := hF
  show vv_X6_days k 8 [(0, .ref 74), (1, .int x1)] [.int v1] σ2
  refine ov_if_ne 14 dX6_days_8 (by decide) hF (fun hF => ?_) (fun hF => ?_)
  · refine ov_aload_n dX6_days_14 0 rfl ?_
    refine ov_sipush 9999 (by decide) dX6_days_15 ?_
    refine ov_aload_n dX6_days_18 0 rfl ?_
    refine ov_getr (T := TX6) (kf := 0) dX6_days_19 qf_X6_9 sh_74 rfl (Nat.le_of_ble_eq_true rfl) rfl (by decide) ?_
    refine ov_iconst 4 (by decide) dX6_days_22 ?_
    have h3 := hF.1
    have hF := hF.2
    refine ov_iaload dX6_days_23 sh_75 h3 ?_
    refine ov_isub dX6_days_24 ?_
    refine ov_iconst 0 (by decide) dX6_days_25 ?_
    refine ov_iload_n dX6_days_26 1 rfl ?_
    refine ov_callS [.int (9999 - (σ2 75 (Int32.toNatClampNeg 4))), .int 0, .int x1] dX6_days_27 (c_X6_within hF) (Nat.le_of_ble_eq_true rfl) (Nat.le_of_ble_eq_true rfl) lk_X6_101 (Nat.le_of_ble_eq_true rfl) (Nat.le_refl _) (Nat.le_refl _) (fun rr σ5 hF => ?_)
    obtain ⟨v4, rfl, hF⟩ := hF
    show vv_X6_days k 30 [(0, .ref 74), (1, .int x1)] [.int v4, .ref 74] σ5
    refine ov_callV [.int v4] dX6_days_30 (c_X6_goesOn hF) (Nat.le_of_ble_eq_true rfl) (Nat.le_of_ble_eq_true rfl) lk_X6_158 sh_74 rfl (Nat.le_of_ble_eq_true rfl) (Nat.le_refl _) (Nat.le_refl _) (fun rr σ7 hF => ?_)
    obtain ⟨rfl, hF⟩ := hF
    show vv_X6_days k 33 [(0, .ref 74), (1, .int x1)] [] σ7
    refine ov_aload_n dX6_days_33 0 rfl ?_
    refine ov_callV [] dX6_days_34 (c_X6_tasteAll hF) (Nat.le_of_ble_eq_true rfl) (Nat.le_of_ble_eq_true rfl) lk_X6_162 sh_74 rfl (Nat.le_of_ble_eq_true rfl) (Nat.le_refl _) (Nat.le_refl _) (fun rr σ9 hF => ?_)
    obtain ⟨v8, rfl, hF⟩ := hF
    show vv_X6_days k 37 [(0, .ref 74), (1, .int x1)] [.int v8] σ9
    exact ov_ireturn dX6_days_37 (Nat.le_refl _) (Nat.le_refl _) ⟨rfl, trivial, _, rfl, hF⟩
  · refine ov_ldc dX6_days_11 qc_X6_90 ?_
    exact ov_ireturn dX6_days_13 (Nat.le_refl _) (Nat.le_refl _) ⟨rfl, trivial, _, rfl, hF⟩
/-! X6_taste -/
abbrev vv_X6_taste (k : Int32 → ovSt → Prop) (pc : Nat) (L : List (Nat × Value)) (st : List Value) (σ : ovSt) : Prop := ov_V (ovZs 5 yX6_taste cX6_taste 1) (ovKs (some .int) ov_S0 (ovKi k)) (0, 0) ov_S0 pc L st σ
def F_X6_taste (σ : ovSt) (k : Int32 → ovSt → Prop) : Prop := (F_X6_tasteAll σ (fun v1 σ2 => (k v1 σ2)))
set_option maxRecDepth 100000 in
set_option maxHeartbeats 4000000 in
theorem c_X6_taste {σ : ovSt} {k : Int32 → ovSt → Prop} (hF : F_X6_taste σ k) : ov_Ct 5 yX6_taste cX6_taste 1 (some .int) ov_S0 [.ref 74] σ (ovKi k) := by
  refine ov_Ct.of (by decide) (Nat.le_of_ble_eq_true rfl) ?_
  unfold F_X6_taste at hF
  show vv_X6_taste k 0 [(0, .ref 74)] [] σ
  refine ov_aload_n dX6_taste_0 0 rfl ?_
  refine ov_callV [] dX6_taste_1 (c_X6_tasteAll hF) (Nat.le_of_ble_eq_true rfl) (Nat.le_of_ble_eq_true rfl) lk_X6_162 sh_74 rfl (Nat.le_of_ble_eq_true rfl) (Nat.le_refl _) (Nat.le_refl _) (fun rr σ2 hF => ?_)
  obtain ⟨v1, rfl, hF⟩ := hF
  show vv_X6_taste k 4 [(0, .ref 74)] [.int v1] σ2
  exact ov_ireturn dX6_taste_4 (Nat.le_refl _) (Nat.le_refl _) ⟨rfl, trivial, _, rfl, hF⟩
/-! X6_grams -/
abbrev vv_X6_grams (k : Int32 → ovSt → Prop) (pc : Nat) (L : List (Nat × Value)) (st : List Value) (σ : ovSt) : Prop := ov_V (ovZs 2 yX6_grams cX6_grams 2) (ovKs (some .int) ov_S0 (ovKi k)) (0, 0) ov_S0 pc L st σ
def F_X6_grams_34 (k : Int32 → ovSt → Prop) (t0 : Int32) (σ : ovSt) : Prop := (k t0 σ)
set_option maxRecDepth 100000 in
set_option maxHeartbeats 4000000 in
theorem V_X6_grams_34 {k : Int32 → ovSt → Prop} (t0 : Int32) (σ : ovSt) (hF : F_X6_grams_34 k t0 σ) : vv_X6_grams k 34 [] [.int t0] σ := by
  unfold F_X6_grams_34 at hF
  exact ov_ireturn dX6_grams_34 (Nat.le_refl _) (Nat.le_refl _) ⟨rfl, trivial, _, rfl, hF⟩
def F_X6_grams (x1 : Int32) (σ : ovSt) (k : Int32 → ovSt → Prop) : Prop := (F_X6_in x1 0 2 σ (fun v1 σ2 => (if v1 = 0 then (F_X6_grams_34 k (-1000000001) σ2) else (if (2 : Int32) ≤ x1 then (F_X6_amountAll σ2 (fun v3 σ4 => (F_X6_grams_34 k v3 σ4))) else (vp_in (5 + x1) 1412 ∧ (F_X6_grams_34 k (σ2 75 (Int32.toNatClampNeg (5 + x1))) σ2))))))
set_option maxRecDepth 100000 in
set_option maxHeartbeats 4000000 in
theorem c_X6_grams {x1 : Int32} {σ : ovSt} {k : Int32 → ovSt → Prop} (hF : F_X6_grams x1 σ k) : ov_Ct 2 yX6_grams cX6_grams 2 (some .int) ov_S0 [.ref 74, .int x1] σ (ovKi k) := by
  refine ov_Ct.of (by decide) (Nat.le_of_ble_eq_true rfl) ?_
  unfold F_X6_grams at hF
  show vv_X6_grams k 0 [(0, .ref 74), (1, .int x1)] [] σ
  refine ov_iload_n dX6_grams_0 1 rfl ?_
  refine ov_iconst 0 (by decide) dX6_grams_1 ?_
  refine ov_iconst 2 (by decide) dX6_grams_2 ?_
  refine ov_callS [.int x1, .int 0, .int 2] dX6_grams_3 (c_X6_in hF) (Nat.le_of_ble_eq_true rfl) (Nat.le_of_ble_eq_true rfl) lk_X6_82 (Nat.le_of_ble_eq_true rfl) (Nat.le_refl _) (Nat.le_refl _) (fun rr σ2 hF => ?_)
  obtain ⟨v1, rfl, hF⟩ := hF
  show vv_X6_grams k 6 [(0, .ref 74), (1, .int x1)] [.int v1] σ2
  refine ov_if_ne 14 dX6_grams_6 (by decide) hF (fun hF => ?_) (fun hF => ?_)
  · refine ov_iload_n dX6_grams_14 1 rfl ?_
    refine ov_iconst 2 (by decide) dX6_grams_15 ?_
    refine ov_icmp_ge 30 dX6_grams_16 (by decide) hF (fun hF => ?_) (fun hF => ?_)
    · refine ov_aload_n dX6_grams_30 0 rfl ?_
      refine ov_callV [] dX6_grams_31 (c_X6_amountAll hF) (Nat.le_of_ble_eq_true rfl) (Nat.le_of_ble_eq_true rfl) lk_X6_128 sh_74 rfl (Nat.le_of_ble_eq_true rfl) (Nat.le_refl _) (Nat.le_refl _) (fun rr σ4 hF => ?_)
      obtain ⟨v3, rfl, hF⟩ := hF
      show vv_X6_grams k 34 [(0, .ref 74), (1, .int x1)] [.int v3] σ4
      refine ov_pick [] [] rfl ?_
      exact V_X6_grams_34 v3 σ4 hF
    · refine ov_aload_n dX6_grams_19 0 rfl ?_
      refine ov_getr (T := TX6) (kf := 0) dX6_grams_20 qf_X6_9 sh_74 rfl (Nat.le_of_ble_eq_true rfl) rfl (by decide) ?_
      refine ov_iconst 5 (by decide) dX6_grams_23 ?_
      refine ov_iload_n dX6_grams_24 1 rfl ?_
      refine ov_iadd dX6_grams_25 ?_
      have h5 := hF.1
      have hF := hF.2
      refine ov_iaload dX6_grams_26 sh_75 h5 ?_
      refine ov_goto 34 dX6_grams_27 (by decide) ?_
      refine ov_pick [] [] rfl ?_
      exact V_X6_grams_34 (σ2 75 (Int32.toNatClampNeg (5 + x1))) σ2 hF
  · refine ov_ldc dX6_grams_9 qc_X6_90 ?_
    refine ov_goto 34 dX6_grams_11 (by decide) ?_
    refine ov_pick [] [] rfl ?_
    exact V_X6_grams_34 (-1000000001) σ2 hF
/-! X6_lot -/
abbrev vv_X6_lot (k : Int32 → ovSt → Prop) (pc : Nat) (L : List (Nat × Value)) (st : List Value) (σ : ovSt) : Prop := ov_V (ovZs 5 yX6_lot cX6_lot 3) (ovKs (some .int) ov_S0 (ovKi k)) (0, 0) ov_S0 pc L st σ
def F_X6_lot_43 (k : Int32 → ovSt → Prop) (t0 : Int32) (σ : ovSt) : Prop := (k t0 σ)
set_option maxRecDepth 100000 in
set_option maxHeartbeats 4000000 in
theorem V_X6_lot_43 {k : Int32 → ovSt → Prop} (t0 : Int32) (σ : ovSt) (hF : F_X6_lot_43 k t0 σ) : vv_X6_lot k 43 [] [.int t0] σ := by
  unfold F_X6_lot_43 at hF
  exact ov_ireturn dX6_lot_43 (Nat.le_refl _) (Nat.le_refl _) ⟨rfl, trivial, _, rfl, hF⟩
def F_X6_lot (σ : ovSt) (k : Int32 → ovSt → Prop) : Prop := (F_X6_counts 2 σ (fun v1 σ2 => (F_X6_tasteAll σ2 (fun v3 σ4 => (vp_in 4 1412 ∧ (vp_in 0 4 ∧ (∀ σ7 : ovSt, σ7 = ov_up σ4 88 (Int32.toNatClampNeg 0) (σ4 75 (Int32.toNatClampNeg 4)) → (vp_in 1 4 ∧ (∀ σ9 : ovSt, σ9 = ov_up σ7 88 (Int32.toNatClampNeg 1) v3 → (if 0 ≤ v1 then (F_X6_worksOut v1 σ9 (fun v10 σ11 => (F_X6_lot_43 k v10 σ11))) else (F_X6_lot_43 k 0 σ9)))))))))))
set_option maxRecDepth 100000 in
set_option maxHeartbeats 4000000 in
theorem c_X6_lot {σ : ovSt} {k : Int32 → ovSt → Prop} (hF : F_X6_lot σ k) : ov_Ct 5 yX6_lot cX6_lot 3 (some .int) ov_S0 [.ref 74] σ (ovKi k) := by
  refine ov_Ct.of (by decide) (Nat.le_of_ble_eq_true rfl) ?_
  unfold F_X6_lot at hF
  show vv_X6_lot k 0 [(0, .ref 74)] [] σ
  refine ov_aload_n dX6_lot_0 0 rfl ?_
  refine ov_iconst 2 (by decide) dX6_lot_1 ?_
  refine ov_callV [.int 2] dX6_lot_2 (c_X6_counts hF) (Nat.le_of_ble_eq_true rfl) (Nat.le_of_ble_eq_true rfl) lk_X6_112 sh_74 rfl (Nat.le_of_ble_eq_true rfl) (Nat.le_refl _) (Nat.le_refl _) (fun rr σ2 hF => ?_)
  obtain ⟨v1, rfl, hF⟩ := hF
  show vv_X6_lot k 5 [(0, .ref 74)] [.int v1] σ2
  refine ov_istore_n dX6_lot_5 (Nat.le_of_ble_eq_true rfl) [(1, .int v1), (0, .ref 74)] rfl ?_
  refine ov_aload_n dX6_lot_6 1 rfl ?_
  refine ov_callV [] dX6_lot_7 (c_X6_tasteAll hF) (Nat.le_of_ble_eq_true rfl) (Nat.le_of_ble_eq_true rfl) lk_X6_162 sh_74 rfl (Nat.le_of_ble_eq_true rfl) (Nat.le_refl _) (Nat.le_refl _) (fun rr σ4 hF => ?_)
  obtain ⟨v3, rfl, hF⟩ := hF
  show vv_X6_lot k 10 [(1, .int v1), (0, .ref 74)] [.int v3] σ4
  refine ov_istore_n dX6_lot_10 (Nat.le_of_ble_eq_true rfl) [(2, .int v3), (1, .int v1), (0, .ref 74)] rfl ?_
  refine ov_aload_n dX6_lot_11 2 rfl ?_
  refine ov_getr (T := TX6) (kf := 24) dX6_lot_12 qf_X6_51 sh_74 rfl (Nat.le_of_ble_eq_true rfl) rfl (by decide) ?_
  refine ov_iconst 0 (by decide) dX6_lot_15 ?_
  refine ov_aload_n dX6_lot_16 2 rfl ?_
  refine ov_getr (T := TX6) (kf := 0) dX6_lot_17 qf_X6_9 sh_74 rfl (Nat.le_of_ble_eq_true rfl) rfl (by decide) ?_
  refine ov_iconst 4 (by decide) dX6_lot_20 ?_
  have h5 := hF.1
  have hF := hF.2
  refine ov_iaload dX6_lot_21 sh_75 h5 ?_
  have h6 := hF.1
  have hF := hF.2
  refine ov_iastore dX6_lot_22 sh_88 h6 ?_
  refine ov_nmS (fun σ7 es7 => ?_)
  have hF := hF σ7 es7
  refine ov_aload_n dX6_lot_23 2 rfl ?_
  refine ov_getr (T := TX6) (kf := 24) dX6_lot_24 qf_X6_51 sh_74 rfl (Nat.le_of_ble_eq_true rfl) rfl (by decide) ?_
  refine ov_iconst 1 (by decide) dX6_lot_27 ?_
  refine ov_iload_n dX6_lot_28 0 rfl ?_
  have h8 := hF.1
  have hF := hF.2
  refine ov_iastore dX6_lot_29 sh_88 h8 ?_
  refine ov_nmS (fun σ9 es9 => ?_)
  have hF := hF σ9 es9
  refine ov_iload_n dX6_lot_30 1 rfl ?_
  refine ov_if_ge 38 dX6_lot_31 (by decide) hF (fun hF => ?_) (fun hF => ?_)
  · refine ov_aload_n dX6_lot_38 2 rfl ?_
    refine ov_iload_n dX6_lot_39 1 rfl ?_
    refine ov_callV [.int v1] dX6_lot_40 (c_X6_worksOut hF) (Nat.le_of_ble_eq_true rfl) (Nat.le_of_ble_eq_true rfl) lk_X6_116 sh_74 rfl (Nat.le_of_ble_eq_true rfl) (Nat.le_refl _) (Nat.le_refl _) (fun rr σ11 hF => ?_)
    obtain ⟨v10, rfl, hF⟩ := hF
    show vv_X6_lot k 43 [(2, .int v3), (1, .int v1), (0, .ref 74)] [.int v10] σ11
    refine ov_pick [] [] rfl ?_
    exact V_X6_lot_43 v10 σ11 hF
  · refine ov_iconst 0 (by decide) dX6_lot_34 ?_
    refine ov_goto 43 dX6_lot_35 (by decide) ?_
    refine ov_pick [] [] rfl ?_
    exact V_X6_lot_43 0 σ9 hF
/-! X6_thinks -/
abbrev vv_X6_thinks (k : ovSt → Prop) (pc : Nat) (L : List (Nat × Value)) (st : List Value) (σ : ovSt) : Prop := ov_V (ovZs 0 yX6_thinks cX6_thinks 2) (ovKs none ov_S0 (ovKv k)) (0, 0) ov_S0 pc L st σ
def F_X6_thinks_2 (k : ovSt → Prop) : Nat → Int32 → ovSt → Prop
  | 0 => fun _ _ => False
  | n + 1 => fun x1 σ => (if (40 : Int32) ≤ x1 then (k σ) else (vp_in x1 1412 ∧ (vp_in x1 40 ∧ (∀ σ3 : ovSt, σ3 = ov_up σ 78 (Int32.toNatClampNeg x1) (σ 75 (Int32.toNatClampNeg x1)) → F_X6_thinks_2 k n (x1 + 1) σ3))))
set_option maxRecDepth 100000 in
set_option maxHeartbeats 4000000 in
theorem V_X6_thinks_2 {k : ovSt → Prop} : ∀ (n : Nat) (x1 : Int32) (σ : ovSt), F_X6_thinks_2 k n x1 σ → vv_X6_thinks k 2 [(0, .ref 74), (1, .int x1)] [] σ := by
  intro n
  induction n with
  | zero => intro x1 σ hF; exact hF.elim
  | succ n ih =>
    intro x1 σ hF
    unfold F_X6_thinks_2 at hF
    refine ov_iload_n dX6_thinks_2 1 rfl ?_
    refine ov_bipush 40 (by decide) dX6_thinks_3 ?_
    refine ov_icmp_ge 26 dX6_thinks_5 (by decide) hF (fun hF => ?_) (fun hF => ?_)
    · exact ov_return dX6_thinks_26 (Nat.le_refl _) (Nat.le_refl _) ⟨rfl, trivial, rfl, hF⟩
    · refine ov_aload_n dX6_thinks_8 0 rfl ?_
      refine ov_getr (T := TX6) (kf := 4) dX6_thinks_9 qf_X6_19 sh_74 rfl (Nat.le_of_ble_eq_true rfl) rfl (by decide) ?_
      refine ov_iload_n dX6_thinks_12 1 rfl ?_
      refine ov_aload_n dX6_thinks_13 0 rfl ?_
      refine ov_getr (T := TX6) (kf := 0) dX6_thinks_14 qf_X6_9 sh_74 rfl (Nat.le_of_ble_eq_true rfl) rfl (by decide) ?_
      refine ov_iload_n dX6_thinks_17 1 rfl ?_
      have h1 := hF.1
      have hF := hF.2
      refine ov_iaload dX6_thinks_18 sh_75 h1 ?_
      have h2 := hF.1
      have hF := hF.2
      refine ov_iastore dX6_thinks_19 sh_78 h2 ?_
      refine ov_nmS (fun σ3 es3 => ?_)
      have hF := hF σ3 es3
      refine ov_iinc dX6_thinks_20 1 rfl (x1 + 1) rfl (Nat.le_of_ble_eq_true rfl) [(1, .int (x1 + 1)), (0, .ref 74)] rfl ?_
      refine ov_goto 2 dX6_thinks_23 (by decide) ?_
      refine ov_pick [1, 0] [(0, .ref 74), (1, .int (x1 + 1))] rfl ?_
      exact ih (x1 + 1) σ3 hF
def F_X6_thinks (σ : ovSt) (k : ovSt → Prop) : Prop := (∃ n4, F_X6_thinks_2 k n4 0 σ)
set_option maxRecDepth 100000 in
set_option maxHeartbeats 4000000 in
theorem c_X6_thinks {σ : ovSt} {k : ovSt → Prop} (hF : F_X6_thinks σ k) : ov_Ct 0 yX6_thinks cX6_thinks 2 none ov_S0 [.ref 74] σ (ovKv k) := by
  refine ov_Ct.of (by decide) (Nat.le_of_ble_eq_true rfl) ?_
  unfold F_X6_thinks at hF
  show vv_X6_thinks k 0 [(0, .ref 74)] [] σ
  refine ov_iconst 0 (by decide) dX6_thinks_0 ?_
  refine ov_istore_n dX6_thinks_1 (Nat.le_of_ble_eq_true rfl) [(1, .int 0), (0, .ref 74)] rfl ?_
  refine ov_pick [1, 0] [(0, .ref 74), (1, .int 0)] rfl ?_
  obtain ⟨n4, hF⟩ := hF
  exact V_X6_thinks_2 n4 0 σ hF
/-! X6_putsBack -/
abbrev vv_X6_putsBack (k : ovSt → Prop) (pc : Nat) (L : List (Nat × Value)) (st : List Value) (σ : ovSt) : Prop := ov_V (ovZs 0 yX6_putsBack cX6_putsBack 2) (ovKs none ov_S0 (ovKv k)) (0, 0) ov_S0 pc L st σ
def F_X6_putsBack_2 (k : ovSt → Prop) : Nat → Int32 → ovSt → Prop
  | 0 => fun _ _ => False
  | n + 1 => fun x1 σ => (if (40 : Int32) ≤ x1 then (k σ) else (vp_in x1 40 ∧ (vp_in x1 1412 ∧ (∀ σ3 : ovSt, σ3 = ov_up σ 75 (Int32.toNatClampNeg x1) (σ 78 (Int32.toNatClampNeg x1)) → F_X6_putsBack_2 k n (x1 + 1) σ3))))
set_option maxRecDepth 100000 in
set_option maxHeartbeats 4000000 in
theorem V_X6_putsBack_2 {k : ovSt → Prop} : ∀ (n : Nat) (x1 : Int32) (σ : ovSt), F_X6_putsBack_2 k n x1 σ → vv_X6_putsBack k 2 [(0, .ref 74), (1, .int x1)] [] σ := by
  intro n
  induction n with
  | zero => intro x1 σ hF; exact hF.elim
  | succ n ih =>
    intro x1 σ hF
    unfold F_X6_putsBack_2 at hF
    refine ov_iload_n dX6_putsBack_2 1 rfl ?_
    refine ov_bipush 40 (by decide) dX6_putsBack_3 ?_
    refine ov_icmp_ge 26 dX6_putsBack_5 (by decide) hF (fun hF => ?_) (fun hF => ?_)
    · exact ov_return dX6_putsBack_26 (Nat.le_refl _) (Nat.le_refl _) ⟨rfl, trivial, rfl, hF⟩
    · refine ov_aload_n dX6_putsBack_8 0 rfl ?_
      refine ov_getr (T := TX6) (kf := 0) dX6_putsBack_9 qf_X6_9 sh_74 rfl (Nat.le_of_ble_eq_true rfl) rfl (by decide) ?_
      refine ov_iload_n dX6_putsBack_12 1 rfl ?_
      refine ov_aload_n dX6_putsBack_13 0 rfl ?_
      refine ov_getr (T := TX6) (kf := 4) dX6_putsBack_14 qf_X6_19 sh_74 rfl (Nat.le_of_ble_eq_true rfl) rfl (by decide) ?_
      refine ov_iload_n dX6_putsBack_17 1 rfl ?_
      have h1 := hF.1
      have hF := hF.2
      refine ov_iaload dX6_putsBack_18 sh_78 h1 ?_
      have h2 := hF.1
      have hF := hF.2
      refine ov_iastore dX6_putsBack_19 sh_75 h2 ?_
      refine ov_nmS (fun σ3 es3 => ?_)
      have hF := hF σ3 es3
      refine ov_iinc dX6_putsBack_20 1 rfl (x1 + 1) rfl (Nat.le_of_ble_eq_true rfl) [(1, .int (x1 + 1)), (0, .ref 74)] rfl ?_
      refine ov_goto 2 dX6_putsBack_23 (by decide) ?_
      refine ov_pick [1, 0] [(0, .ref 74), (1, .int (x1 + 1))] rfl ?_
      exact ih (x1 + 1) σ3 hF
def F_X6_putsBack (σ : ovSt) (k : ovSt → Prop) : Prop := (∃ n4, F_X6_putsBack_2 k n4 0 σ)
set_option maxRecDepth 100000 in
set_option maxHeartbeats 4000000 in
theorem c_X6_putsBack {σ : ovSt} {k : ovSt → Prop} (hF : F_X6_putsBack σ k) : ov_Ct 0 yX6_putsBack cX6_putsBack 2 none ov_S0 [.ref 74] σ (ovKv k) := by
  refine ov_Ct.of (by decide) (Nat.le_of_ble_eq_true rfl) ?_
  unfold F_X6_putsBack at hF
  show vv_X6_putsBack k 0 [(0, .ref 74)] [] σ
  refine ov_iconst 0 (by decide) dX6_putsBack_0 ?_
  refine ov_istore_n dX6_putsBack_1 (Nat.le_of_ble_eq_true rfl) [(1, .int 0), (0, .ref 74)] rfl ?_
  refine ov_pick [1, 0] [(0, .ref 74), (1, .int 0)] rfl ?_
  obtain ⟨n4, hF⟩ := hF
  exact V_X6_putsBack_2 n4 0 σ hF
/-! X6_behind -/
abbrev vv_X6_behind (k : Int32 → ovSt → Prop) (pc : Nat) (L : List (Nat × Value)) (st : List Value) (σ : ovSt) : Prop := ov_V (ovZs 5 yX6_behind cX6_behind 5) (ovKs (some .int) ov_S0 (ovKi k)) (0, 0) ov_S0 pc L st σ
def F_X6_behind_28 (k : Int32 → ovSt → Prop) (σ : ovSt) : Prop := (k (-1000000001) σ)
set_option maxRecDepth 100000 in
set_option maxHeartbeats 4000000 in
theorem V_X6_behind_28 {k : Int32 → ovSt → Prop} (σ : ovSt) (hF : F_X6_behind_28 k σ) : vv_X6_behind k 28 [] [] σ := by
  unfold F_X6_behind_28 at hF
  refine ov_ldc dX6_behind_28 qc_X6_90 ?_
  exact ov_ireturn dX6_behind_30 (Nat.le_refl _) (Nat.le_refl _) ⟨rfl, trivial, _, rfl, hF⟩
def F_X6_behind_84 (k : Int32 → ovSt → Prop) (t0 : Int32) (σ : ovSt) : Prop := (F_X6_putsBack σ (fun σ2 => (k t0 σ2)))
set_option maxRecDepth 100000 in
set_option maxHeartbeats 4000000 in
theorem V_X6_behind_84 {k : Int32 → ovSt → Prop} (t0 : Int32) (σ : ovSt) (hF : F_X6_behind_84 k t0 σ) : vv_X6_behind k 84 [(0, .ref 74)] [.int t0] σ := by
  unfold F_X6_behind_84 at hF
  refine ov_istore dX6_behind_84 (Nat.le_of_ble_eq_true rfl) [(4, .int t0), (0, .ref 74)] rfl ?_
  refine ov_aload_n dX6_behind_86 1 rfl ?_
  refine ov_callV [] dX6_behind_87 (c_X6_putsBack hF) (Nat.le_of_ble_eq_true rfl) (Nat.le_of_ble_eq_true rfl) lk_X6_168 sh_74 rfl (Nat.le_of_ble_eq_true rfl) (Nat.le_refl _) (Nat.le_refl _) (fun rr σ2 hF => ?_)
  obtain ⟨rfl, hF⟩ := hF
  show vv_X6_behind k 90 [(4, .int t0), (0, .ref 74)] [] σ2
  refine ov_iload dX6_behind_90 0 rfl ?_
  exact ov_ireturn dX6_behind_92 (Nat.le_refl _) (Nat.le_refl _) ⟨rfl, trivial, _, rfl, hF⟩
def F_X6_behind (x1 : Int32) (x2 : Int32) (x3 : Int32) (σ : ovSt) (k : Int32 → ovSt → Prop) : Prop := (F_X6_isThing x1 σ (fun v3 σ4 => (if v3 = 0 then (F_X6_behind_28 k σ4) else (F_X6_in x2 0 300 σ4 (fun v5 σ6 => (if v5 = 0 then (F_X6_behind_28 k σ6) else (F_X6_in x3 0 3 σ6 (fun v7 σ8 => (if v7 = 0 then (F_X6_behind_28 k σ8) else (F_X6_thinks σ8 (fun σ10 => (F_X6_goesOn x2 σ10 (fun σ12 => (if x3 = 0 then (F_X6_of x1 2 σ12 (fun v18 σ19 => (F_X6_behind_84 k v18 σ19))) else (if x3 = (1 : Int32) then (F_X6_tasteOf x1 σ12 (fun v16 σ17 => (F_X6_behind_84 k v16 σ17))) else (if x3 = (2 : Int32) then (F_X6_tasteAll σ12 (fun v14 σ15 => (F_X6_behind_84 k v14 σ15))) else (vp_in 5 1412 ∧ (F_X6_behind_84 k (σ12 75 (Int32.toNatClampNeg 5)) σ12))))))))))))))))))
set_option maxRecDepth 100000 in
set_option maxHeartbeats 4000000 in
theorem c_X6_behind {x1 : Int32} {x2 : Int32} {x3 : Int32} {σ : ovSt} {k : Int32 → ovSt → Prop} (hF : F_X6_behind x1 x2 x3 σ k) : ov_Ct 5 yX6_behind cX6_behind 5 (some .int) ov_S0 [.ref 74, .int x1, .int x2, .int x3] σ (ovKi k) := by
  refine ov_Ct.of (by decide) (Nat.le_of_ble_eq_true rfl) ?_
  unfold F_X6_behind at hF
  show vv_X6_behind k 0 [(0, .ref 74), (1, .int x1), (2, .int x2), (3, .int x3)] [] σ
  refine ov_aload_n dX6_behind_0 0 rfl ?_
  refine ov_iload_n dX6_behind_1 1 rfl ?_
  refine ov_callV [.int x1] dX6_behind_2 (c_X6_isThing hF) (Nat.le_of_ble_eq_true rfl) (Nat.le_of_ble_eq_true rfl) lk_X6_104 sh_74 rfl (Nat.le_of_ble_eq_true rfl) (Nat.le_refl _) (Nat.le_refl _) (fun rr σ4 hF => ?_)
  obtain ⟨v3, rfl, hF⟩ := hF
  show vv_X6_behind k 5 [(0, .ref 74), (1, .int x1), (2, .int x2), (3, .int x3)] [.int v3] σ4
  refine ov_if_eq 28 dX6_behind_5 (by decide) hF (fun hF => ?_) (fun hF => ?_)
  · refine ov_pick [] [] rfl ?_
    exact V_X6_behind_28 σ4 hF
  · refine ov_iload_n dX6_behind_8 2 rfl ?_
    refine ov_iconst 0 (by decide) dX6_behind_9 ?_
    refine ov_sipush 300 (by decide) dX6_behind_10 ?_
    refine ov_callS [.int x2, .int 0, .int 300] dX6_behind_13 (c_X6_in hF) (Nat.le_of_ble_eq_true rfl) (Nat.le_of_ble_eq_true rfl) lk_X6_82 (Nat.le_of_ble_eq_true rfl) (Nat.le_refl _) (Nat.le_refl _) (fun rr σ6 hF => ?_)
    obtain ⟨v5, rfl, hF⟩ := hF
    show vv_X6_behind k 16 [(0, .ref 74), (1, .int x1), (2, .int x2), (3, .int x3)] [.int v5] σ6
    refine ov_if_eq 28 dX6_behind_16 (by decide) hF (fun hF => ?_) (fun hF => ?_)
    · refine ov_pick [] [] rfl ?_
      exact V_X6_behind_28 σ6 hF
    · refine ov_iload_n dX6_behind_19 3 rfl ?_
      refine ov_iconst 0 (by decide) dX6_behind_20 ?_
      refine ov_iconst 3 (by decide) dX6_behind_21 ?_
      refine ov_callS [.int x3, .int 0, .int 3] dX6_behind_22 (c_X6_in hF) (Nat.le_of_ble_eq_true rfl) (Nat.le_of_ble_eq_true rfl) lk_X6_82 (Nat.le_of_ble_eq_true rfl) (Nat.le_refl _) (Nat.le_refl _) (fun rr σ8 hF => ?_)
      obtain ⟨v7, rfl, hF⟩ := hF
      show vv_X6_behind k 25 [(0, .ref 74), (1, .int x1), (2, .int x2), (3, .int x3)] [.int v7] σ8
      refine ov_if_ne 31 dX6_behind_25 (by decide) hF (fun hF => ?_) (fun hF => ?_)
      · refine ov_aload_n dX6_behind_31 0 rfl ?_
        refine ov_callV [] dX6_behind_32 (c_X6_thinks hF) (Nat.le_of_ble_eq_true rfl) (Nat.le_of_ble_eq_true rfl) lk_X6_165 sh_74 rfl (Nat.le_of_ble_eq_true rfl) (Nat.le_refl _) (Nat.le_refl _) (fun rr σ10 hF => ?_)
        obtain ⟨rfl, hF⟩ := hF
        show vv_X6_behind k 35 [(0, .ref 74), (1, .int x1), (2, .int x2), (3, .int x3)] [] σ10
        refine ov_aload_n dX6_behind_35 0 rfl ?_
        refine ov_iload_n dX6_behind_36 2 rfl ?_
        refine ov_callV [.int x2] dX6_behind_37 (c_X6_goesOn hF) (Nat.le_of_ble_eq_true rfl) (Nat.le_of_ble_eq_true rfl) lk_X6_158 sh_74 rfl (Nat.le_of_ble_eq_true rfl) (Nat.le_refl _) (Nat.le_refl _) (fun rr σ12 hF => ?_)
        obtain ⟨rfl, hF⟩ := hF
        show vv_X6_behind k 40 [(0, .ref 74), (1, .int x1), (2, .int x2), (3, .int x3)] [] σ12
        refine ov_iload_n dX6_behind_40 3 rfl ?_
        refine ov_if_ne 53 dX6_behind_41 (by decide) hF (fun hF => ?_) (fun hF => ?_)
        · refine ov_iload_n dX6_behind_53 3 rfl ?_
          refine ov_iconst 1 (by decide) dX6_behind_54 ?_
          refine ov_icmp_ne 66 dX6_behind_55 (by decide) hF (fun hF => ?_) (fun hF => ?_)
          · refine ov_iload_n dX6_behind_66 3 rfl ?_
            refine ov_iconst 2 (by decide) dX6_behind_67 ?_
            refine ov_icmp_ne 78 dX6_behind_68 (by decide) hF (fun hF => ?_) (fun hF => ?_)
            · refine ov_aload_n dX6_behind_78 0 rfl ?_
              refine ov_getr (T := TX6) (kf := 0) dX6_behind_79 qf_X6_9 sh_74 rfl (Nat.le_of_ble_eq_true rfl) rfl (by decide) ?_
              refine ov_iconst 5 (by decide) dX6_behind_82 ?_
              have h13 := hF.1
              have hF := hF.2
              refine ov_iaload dX6_behind_83 sh_75 h13 ?_
              refine ov_pick [0] [(0, .ref 74)] rfl ?_
              exact V_X6_behind_84 (σ12 75 (Int32.toNatClampNeg 5)) σ12 hF
            · refine ov_aload_n dX6_behind_71 0 rfl ?_
              refine ov_callV [] dX6_behind_72 (c_X6_tasteAll hF) (Nat.le_of_ble_eq_true rfl) (Nat.le_of_ble_eq_true rfl) lk_X6_162 sh_74 rfl (Nat.le_of_ble_eq_true rfl) (Nat.le_refl _) (Nat.le_refl _) (fun rr σ15 hF => ?_)
              obtain ⟨v14, rfl, hF⟩ := hF
              show vv_X6_behind k 75 [(0, .ref 74), (1, .int x1), (2, .int x2), (3, .int x3)] [.int v14] σ15
              refine ov_goto 84 dX6_behind_75 (by decide) ?_
              refine ov_pick [0] [(0, .ref 74)] rfl ?_
              exact V_X6_behind_84 v14 σ15 hF
          · refine ov_aload_n dX6_behind_58 0 rfl ?_
            refine ov_iload_n dX6_behind_59 1 rfl ?_
            refine ov_callV [.int x1] dX6_behind_60 (c_X6_tasteOf hF) (Nat.le_of_ble_eq_true rfl) (Nat.le_of_ble_eq_true rfl) lk_X6_122 sh_74 rfl (Nat.le_of_ble_eq_true rfl) (Nat.le_refl _) (Nat.le_refl _) (fun rr σ17 hF => ?_)
            obtain ⟨v16, rfl, hF⟩ := hF
            show vv_X6_behind k 63 [(0, .ref 74), (1, .int x1), (2, .int x2), (3, .int x3)] [.int v16] σ17
            refine ov_goto 84 dX6_behind_63 (by decide) ?_
            refine ov_pick [0] [(0, .ref 74)] rfl ?_
            exact V_X6_behind_84 v16 σ17 hF
        · refine ov_aload_n dX6_behind_44 0 rfl ?_
          refine ov_iload_n dX6_behind_45 1 rfl ?_
          refine ov_iconst 2 (by decide) dX6_behind_46 ?_
          refine ov_callV [.int x1, .int 2] dX6_behind_47 (c_X6_of hF) (Nat.le_of_ble_eq_true rfl) (Nat.le_of_ble_eq_true rfl) lk_X6_96 sh_74 rfl (Nat.le_of_ble_eq_true rfl) (Nat.le_refl _) (Nat.le_refl _) (fun rr σ19 hF => ?_)
          obtain ⟨v18, rfl, hF⟩ := hF
          show vv_X6_behind k 50 [(0, .ref 74), (1, .int x1), (2, .int x2), (3, .int x3)] [.int v18] σ19
          refine ov_goto 84 dX6_behind_50 (by decide) ?_
          refine ov_pick [0] [(0, .ref 74)] rfl ?_
          exact V_X6_behind_84 v18 σ19 hF
      · refine ov_pick [] [] rfl ?_
        exact V_X6_behind_28 σ8 hF
