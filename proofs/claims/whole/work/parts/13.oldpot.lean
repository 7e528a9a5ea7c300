/-! X1_isMissing -/
abbrev vv_X1_isMissing (k : Int32 → ovSt → Prop) (pc : Nat) (L : List (Nat × Value)) (st : List Value) (σ : ovSt) : Prop := ov_V (ovZs 0 yX1_isMissing cX1_isMissing 1) (ovKs (some .boolean) ov_S0 (ovKi k)) (0, 0) ov_S0 pc L st σ
def F_X1_isMissing_13 (r : Nat) (k : Int32 → ovSt → Prop) (t0 : Int32) (σ : ovSt) : Prop := (ov_bl t0 ∧ (k t0 σ))
set_option maxRecDepth 100000 in
set_option maxHeartbeats 4000000 in
theorem V_X1_isMissing_13 {k : Int32 → ovSt → Prop} {r : Nat} (hr : ov_isr r) (t0 : Int32) (σ : ovSt) (hF : F_X1_isMissing_13 r k t0 σ) : vv_X1_isMissing k 13 [] [.int t0] σ := by
  unfold F_X1_isMissing_13 at hF
  have h1 := hF.1
  have hF := hF.2
  exact ov_ireturn dX1_isMissing_13 (Nat.le_refl _) (Nat.le_refl _) ⟨rfl, h1, _, rfl, hF⟩
def F_X1_isMissing (r : Nat) (σ : ovSt) (k : Int32 → ovSt → Prop) : Prop := (ov_isr r ∧ (if (σ r 1) = ((-1) : Int32) then (F_X1_isMissing_13 r k 1 σ) else (F_X1_isMissing_13 r k 0 σ)))
set_option maxRecDepth 100000 in
set_option maxHeartbeats 4000000 in
theorem c_X1_isMissing {r : Nat} {σ : ovSt} {k : Int32 → ovSt → Prop} (hF : F_X1_isMissing r σ k) : ov_Ct 0 yX1_isMissing cX1_isMissing 1 (some .boolean) ov_S0 [.ref r] σ (ovKi k) := by
  refine ov_Ct.of (by decide) (Nat.le_of_ble_eq_true rfl) ?_
  unfold F_X1_isMissing at hF
  have hr := hF.1
  have hF := hF.2
  show vv_X1_isMissing k 0 [(0, .ref r)] [] σ
  refine ov_aload_n dX1_isMissing_0 0 rfl ?_
  refine ov_geti (T := TX1) (kf := 1) dX1_isMissing_1 qf_X1_15 (ov_isr0 hr) rfl (Nat.le_of_ble_eq_true rfl) rfl ?_
  refine ov_iconst (-1) (by decide) dX1_isMissing_4 ?_
  refine ov_icmp_ne 12 dX1_isMissing_5 (by decide) hF (fun hF => ?_) (fun hF => ?_)
  · refine ov_iconst 0 (by decide) dX1_isMissing_12 ?_
    refine ov_pick [] [] rfl ?_
    exact V_X1_isMissing_13 hr 0 σ hF
  · refine ov_iconst 1 (by decide) dX1_isMissing_8 ?_
    refine ov_goto 13 dX1_isMissing_9 (by decide) ?_
    refine ov_pick [] [] rfl ?_
    exact V_X1_isMissing_13 hr 1 σ hF
/-! X1_hasPlace -/
abbrev vv_X1_hasPlace (k : Int32 → ovSt → Prop) (pc : Nat) (L : List (Nat × Value)) (st : List Value) (σ : ovSt) : Prop := ov_V (ovZs 0 yX1_hasPlace cX1_hasPlace 2) (ovKs (some .boolean) ov_S0 (ovKi k)) (0, 0) ov_S0 pc L st σ
def F_X1_hasPlace_17 (r : Nat) (k : Int32 → ovSt → Prop) (t0 : Int32) (σ : ovSt) : Prop := (ov_bl t0 ∧ (k t0 σ))
set_option maxRecDepth 100000 in
set_option maxHeartbeats 4000000 in
theorem V_X1_hasPlace_17 {k : Int32 → ovSt → Prop} {r : Nat} (hr : ov_isr r) (t0 : Int32) (σ : ovSt) (hF : F_X1_hasPlace_17 r k t0 σ) : vv_X1_hasPlace k 17 [] [.int t0] σ := by
  unfold F_X1_hasPlace_17 at hF
  have h1 := hF.1
  have hF := hF.2
  exact ov_ireturn dX1_hasPlace_17 (Nat.le_refl _) (Nat.le_refl _) ⟨rfl, h1, _, rfl, hF⟩
def F_X1_hasPlace_16 (r : Nat) (k : Int32 → ovSt → Prop) (σ : ovSt) : Prop := (F_X1_hasPlace_17 r k 0 σ)
set_option maxRecDepth 100000 in
set_option maxHeartbeats 4000000 in
theorem V_X1_hasPlace_16 {k : Int32 → ovSt → Prop} {r : Nat} (hr : ov_isr r) (σ : ovSt) (hF : F_X1_hasPlace_16 r k σ) : vv_X1_hasPlace k 16 [] [] σ := by
  unfold F_X1_hasPlace_16 at hF
  refine ov_iconst 0 (by decide) dX1_hasPlace_16 ?_
  exact V_X1_hasPlace_17 hr 0 σ hF
def F_X1_hasPlace (r : Nat) (x1 : Int32) (σ : ovSt) (k : Int32 → ovSt → Prop) : Prop := (ov_isr r ∧ (if x1 < 0 then (F_X1_hasPlace_16 r k σ) else (if (σ r 2) ≤ x1 then (F_X1_hasPlace_16 r k σ) else (F_X1_hasPlace_17 r k 1 σ))))
set_option maxRecDepth 100000 in
set_option maxHeartbeats 4000000 in
theorem c_X1_hasPlace {r : Nat} {x1 : Int32} {σ : ovSt} {k : Int32 → ovSt → Prop} (hF : F_X1_hasPlace r x1 σ k) : ov_Ct 0 yX1_hasPlace cX1_hasPlace 2 (some .boolean) ov_S0 [.ref r, .int x1] σ (ovKi k) := by
  refine ov_Ct.of (by decide) (Nat.le_of_ble_eq_true rfl) ?_
  unfold F_X1_hasPlace at hF
  have hr := hF.1
  have hF := hF.2
  show vv_X1_hasPlace k 0 [(0, .ref r), (1, .int x1)] [] σ
  refine ov_iload_n dX1_hasPlace_0 1 rfl ?_
  refine ov_if_lt 16 dX1_hasPlace_1 (by decide) hF (fun hF => ?_) (fun hF => ?_)
  · refine ov_pick [] [] rfl ?_
    exact V_X1_hasPlace_16 hr σ hF
  · refine ov_iload_n dX1_hasPlace_4 1 rfl ?_
    refine ov_aload_n dX1_hasPlace_5 0 rfl ?_
    refine ov_geti (T := TX1) (kf := 2) dX1_hasPlace_6 qf_X1_19 (ov_isr0 hr) rfl (Nat.le_of_ble_eq_true rfl) rfl ?_
    refine ov_icmp_ge 16 dX1_hasPlace_9 (by decide) hF (fun hF => ?_) (fun hF => ?_)
    · refine ov_pick [] [] rfl ?_
      exact V_X1_hasPlace_16 hr σ hF
    · refine ov_iconst 1 (by decide) dX1_hasPlace_12 ?_
      refine ov_goto 17 dX1_hasPlace_13 (by decide) ?_
      refine ov_pick [] [] rfl ?_
      exact V_X1_hasPlace_17 hr 1 σ hF
/-! X1_hasPlaces -/
abbrev vv_X1_hasPlaces (k : Int32 → ovSt → Prop) (pc : Nat) (L : List (Nat × Value)) (st : List Value) (σ : ovSt) : Prop := ov_V (ovZs 0 yX1_hasPlaces cX1_hasPlaces 3) (ovKs (some .boolean) ov_S0 (ovKi k)) (0, 0) ov_S0 pc L st σ
def F_X1_hasPlaces_31 (r : Nat) (k : Int32 → ovSt → Prop) (t0 : Int32) (σ : ovSt) : Prop := (ov_bl t0 ∧ (k t0 σ))
set_option maxRecDepth 100000 in
set_option maxHeartbeats 4000000 in
theorem V_X1_hasPlaces_31 {k : Int32 → ovSt → Prop} {r : Nat} (hr : ov_isr r) (t0 : Int32) (σ : ovSt) (hF : F_X1_hasPlaces_31 r k t0 σ) : vv_X1_hasPlaces k 31 [] [.int t0] σ := by
  unfold F_X1_hasPlaces_31 at hF
  have h1 := hF.1
  have hF := hF.2
  exact ov_ireturn dX1_hasPlaces_31 (Nat.le_refl _) (Nat.le_refl _) ⟨rfl, h1, _, rfl, hF⟩
def F_X1_hasPlaces_30 (r : Nat) (k : Int32 → ovSt → Prop) (σ : ovSt) : Prop := (F_X1_hasPlaces_31 r k 0 σ)
set_option maxRecDepth 100000 in
set_option maxHeartbeats 4000000 in
theorem V_X1_hasPlaces_30 {k : Int32 → ovSt → Prop} {r : Nat} (hr : ov_isr r) (σ : ovSt) (hF : F_X1_hasPlaces_30 r k σ) : vv_X1_hasPlaces k 30 [] [] σ := by
  unfold F_X1_hasPlaces_30 at hF
  refine ov_iconst 0 (by decide) dX1_hasPlaces_30 ?_
  exact V_X1_hasPlaces_31 hr 0 σ hF
def F_X1_hasPlaces (r : Nat) (x1 : Int32) (x2 : Int32) (σ : ovSt) (k : Int32 → ovSt → Prop) : Prop := (ov_isr r ∧ (if x1 < 0 then (F_X1_hasPlaces_30 r k σ) else (if x2 < 0 then (F_X1_hasPlaces_30 r k σ) else (if (σ r 2) < x1 then (F_X1_hasPlaces_30 r k σ) else (if ((σ r 2) - x1) < x2 then (F_X1_hasPlaces_30 r k σ) else (F_X1_hasPlaces_31 r k 1 σ))))))
set_option maxRecDepth 100000 in
set_option maxHeartbeats 4000000 in
theorem c_X1_hasPlaces {r : Nat} {x1 : Int32} {x2 : Int32} {σ : ovSt} {k : Int32 → ovSt → Prop} (hF : F_X1_hasPlaces r x1 x2 σ k) : ov_Ct 0 yX1_hasPlaces cX1_hasPlaces 3 (some .boolean) ov_S0 [.ref r, .int x1, .int x2] σ (ovKi k) := by
  refine ov_Ct.of (by decide) (Nat.le_of_ble_eq_true rfl) ?_
  unfold F_X1_hasPlaces at hF
  have hr := hF.1
  have hF := hF.2
  show vv_X1_hasPlaces k 0 [(0, .ref r), (1, .int x1), (2, .int x2)] [] σ
  refine ov_iload_n dX1_hasPlaces_0 1 rfl ?_
  refine ov_if_lt 30 dX1_hasPlaces_1 (by decide) hF (fun hF => ?_) (fun hF => ?_)
  · refine ov_pick [] [] rfl ?_
    exact V_X1_hasPlaces_30 hr σ hF
  · refine ov_iload_n dX1_hasPlaces_4 2 rfl ?_
    refine ov_if_lt 30 dX1_hasPlaces_5 (by decide) hF (fun hF => ?_) (fun hF => ?_)
    · refine ov_pick [] [] rfl ?_
      exact V_X1_hasPlaces_30 hr σ hF
    · refine ov_iload_n dX1_hasPlaces_8 1 rfl ?_
      refine ov_aload_n dX1_hasPlaces_9 0 rfl ?_
      refine ov_geti (T := TX1) (kf := 2) dX1_hasPlaces_10 qf_X1_19 (ov_isr0 hr) rfl (Nat.le_of_ble_eq_true rfl) rfl ?_
      refine ov_icmp_gt 30 dX1_hasPlaces_13 (by decide) hF (fun hF => ?_) (fun hF => ?_)
      · refine ov_pick [] [] rfl ?_
        exact V_X1_hasPlaces_30 hr σ hF
      · refine ov_iload_n dX1_hasPlaces_16 2 rfl ?_
        refine ov_aload_n dX1_hasPlaces_17 0 rfl ?_
        refine ov_geti (T := TX1) (kf := 2) dX1_hasPlaces_18 qf_X1_19 (ov_isr0 hr) rfl (Nat.le_of_ble_eq_true rfl) rfl ?_
        refine ov_iload_n dX1_hasPlaces_21 1 rfl ?_
        refine ov_isub dX1_hasPlaces_22 ?_
        refine ov_icmp_gt 30 dX1_hasPlaces_23 (by decide) hF (fun hF => ?_) (fun hF => ?_)
        · refine ov_pick [] [] rfl ?_
          exact V_X1_hasPlaces_30 hr σ hF
        · refine ov_iconst 1 (by decide) dX1_hasPlaces_26 ?_
          refine ov_goto 31 dX1_hasPlaces_27 (by decide) ?_
          refine ov_pick [] [] rfl ?_
          exact V_X1_hasPlaces_31 hr 1 σ hF
/-! X1_isNumber -/
abbrev vv_X1_isNumber (k : Int32 → ovSt → Prop) (pc : Nat) (L : List (Nat × Value)) (st : List Value) (σ : ovSt) : Prop := ov_V (ovZs 0 yX1_isNumber cX1_isNumber 2) (ovKs (some .boolean) ov_S0 (ovKi k)) (0, 0) ov_S0 pc L st σ
def F_X1_isNumber_16 (r : Nat) (k : Int32 → ovSt → Prop) (t0 : Int32) (σ : ovSt) : Prop := (ov_bl t0 ∧ (k t0 σ))
set_option maxRecDepth 100000 in
set_option maxHeartbeats 4000000 in
theorem V_X1_isNumber_16 {k : Int32 → ovSt → Prop} {r : Nat} (hr : ov_isr r) (t0 : Int32) (σ : ovSt) (hF : F_X1_isNumber_16 r k t0 σ) : vv_X1_isNumber k 16 [] [.int t0] σ := by
  unfold F_X1_isNumber_16 at hF
  have h1 := hF.1
  have hF := hF.2
  exact ov_ireturn dX1_isNumber_16 (Nat.le_refl _) (Nat.le_refl _) ⟨rfl, h1, _, rfl, hF⟩
def F_X1_isNumber (r : Nat) (x1 : Int32) (σ : ovSt) (k : Int32 → ovSt → Prop) : Prop := (ov_isr r ∧ (vp_in x1 24 ∧ (if (σ (r + 1) (Int32.toNatClampNeg x1)) = ((-1000000005) : Int32) then (F_X1_isNumber_16 r k 0 σ) else (F_X1_isNumber_16 r k 1 σ))))
set_option maxRecDepth 100000 in
set_option maxHeartbeats 4000000 in
theorem c_X1_isNumber {r : Nat} {x1 : Int32} {σ : ovSt} {k : Int32 → ovSt → Prop} (hF : F_X1_isNumber r x1 σ k) : ov_Ct 0 yX1_isNumber cX1_isNumber 2 (some .boolean) ov_S0 [.ref r, .int x1] σ (ovKi k) := by
  refine ov_Ct.of (by decide) (Nat.le_of_ble_eq_true rfl) ?_
  unfold F_X1_isNumber at hF
  have hr := hF.1
  have hF := hF.2
  show vv_X1_isNumber k 0 [(0, .ref r), (1, .int x1)] [] σ
  refine ov_aload_n dX1_isNumber_0 0 rfl ?_
  refine ov_getr (T := TX1) (kf := 0) dX1_isNumber_1 qf_X1_9 (ov_isr0 hr) rfl (Nat.le_of_ble_eq_true rfl) rfl (ov_isrn hr 1 (by decide)) ?_
  refine ov_iload_n dX1_isNumber_4 1 rfl ?_
  have h2 := hF.1
  have hF := hF.2
  refine ov_iaload dX1_isNumber_5 (ov_isr1 hr) h2 ?_
  refine ov_ldc dX1_isNumber_6 qc_X1_22 ?_
  refine ov_icmp_eq 15 dX1_isNumber_8 (by decide) hF (fun hF => ?_) (fun hF => ?_)
  · refine ov_iconst 0 (by decide) dX1_isNumber_15 ?_
    refine ov_pick [] [] rfl ?_
    exact V_X1_isNumber_16 hr 0 σ hF
  · refine ov_iconst 1 (by decide) dX1_isNumber_11 ?_
    refine ov_goto 16 dX1_isNumber_12 (by decide) ?_
    refine ov_pick [] [] rfl ?_
    exact V_X1_isNumber_16 hr 1 σ hF
/-! X1_begin -/
abbrev vv_X1_begin (k : ovSt → Prop) (pc : Nat) (L : List (Nat × Value)) (st : List Value) (σ : ovSt) : Prop := ov_V (ovZs 0 yX1_begin cX1_begin 4) (ovKs none ov_S0 (ovKv k)) (0, 0) ov_S0 pc L st σ
def F_X1_begin_12 (r : Nat) (k : ovSt → Prop) : Nat → Int32 → ovSt → Prop
  | 0 => fun _ _ => False
  | n + 1 => fun x3 σ => (if (24 : Int32) ≤ x3 then (k σ) else (vp_in x3 24 ∧ (∀ σ2 : ovSt, σ2 = ov_up σ (r + 1) (Int32.toNatClampNeg x3) 0 → F_X1_begin_12 r k n (x3 + 1) σ2)))
set_option maxRecDepth 100000 in
set_option maxHeartbeats 4000000 in
theorem V_X1_begin_12 {k : ovSt → Prop} {r : Nat} (hr : ov_isr r) : ∀ (n : Nat) (x3 : Int32) (σ : ovSt), F_X1_begin_12 r k n x3 σ → vv_X1_begin k 12 [(0, .ref r), (3, .int x3)] [] σ := by
  intro n
  induction n with
  | zero => intro x3 σ hF; exact hF.elim
  | succ n ih =>
    intro x3 σ hF
    unfold F_X1_begin_12 at hF
    refine ov_iload_n dX1_begin_12 1 rfl ?_
    refine ov_bipush 24 (by decide) dX1_begin_13 ?_
    refine ov_icmp_ge 31 dX1_begin_15 (by decide) hF (fun hF => ?_) (fun hF => ?_)
    · exact ov_return dX1_begin_31 (Nat.le_refl _) (Nat.le_refl _) ⟨rfl, trivial, rfl, hF⟩
    · refine ov_aload_n dX1_begin_18 0 rfl ?_
      refine ov_getr (T := TX1) (kf := 0) dX1_begin_19 qf_X1_9 (ov_isr0 hr) rfl (Nat.le_of_ble_eq_true rfl) rfl (ov_isrn hr 1 (by decide)) ?_
      refine ov_iload_n dX1_begin_22 1 rfl ?_
      refine ov_iconst 0 (by decide) dX1_begin_23 ?_
      have h1 := hF.1
      have hF := hF.2
      refine ov_iastore dX1_begin_24 (ov_isr1 hr) h1 ?_
      refine ov_nmS (fun σ2 es2 => ?_)
      have hF := hF σ2 es2
      refine ov_iinc dX1_begin_25 1 rfl (x3 + 1) rfl (Nat.le_of_ble_eq_true rfl) [(3, .int (x3 + 1)), (0, .ref r)] rfl ?_
      refine ov_goto 12 dX1_begin_28 (by decide) ?_
      refine ov_pick [1, 0] [(0, .ref r), (3, .int (x3 + 1))] rfl ?_
      exact ih (x3 + 1) σ2 hF
def F_X1_begin (r : Nat) (x1 : Int32) (x2 : Int32) (σ : ovSt) (k : ovSt → Prop) : Prop := (ov_isr r ∧ (∀ σ3 : ovSt, σ3 = ov_up σ r 1 x1 → (∀ σ4 : ovSt, σ4 = ov_up σ3 r 2 x2 → (∃ n5, F_X1_begin_12 r k n5 0 σ4))))
set_option maxRecDepth 100000 in
set_option maxHeartbeats 4000000 in
theorem c_X1_begin {r : Nat} {x1 : Int32} {x2 : Int32} {σ : ovSt} {k : ovSt → Prop} (hF : F_X1_begin r x1 x2 σ k) : ov_Ct 0 yX1_begin cX1_begin 4 none ov_S0 [.ref r, .int x1, .int x2] σ (ovKv k) := by
  refine ov_Ct.of (by decide) (Nat.le_of_ble_eq_true rfl) ?_
  unfold F_X1_begin at hF
  have hr := hF.1
  have hF := hF.2
  show vv_X1_begin k 0 [(0, .ref r), (1, .int x1), (2, .int x2)] [] σ
  refine ov_aload_n dX1_begin_0 0 rfl ?_
  refine ov_iload_n dX1_begin_1 1 rfl ?_
  refine ov_puti (T := TX1) (kf := 1) dX1_begin_2 qf_X1_15 (ov_isr0 hr) rfl (Nat.le_of_ble_eq_true rfl) rfl rfl (by decide +kernel) ?_
  refine ov_nmS (fun σ3 es3 => ?_)
  have hF := hF σ3 es3
  refine ov_aload_n dX1_begin_5 0 rfl ?_
  refine ov_iload_n dX1_begin_6 2 rfl ?_
  refine ov_puti (T := TX1) (kf := 2) dX1_begin_7 qf_X1_19 (ov_isr0 hr) rfl (Nat.le_of_ble_eq_true rfl) rfl rfl (by decide +kernel) ?_
  refine ov_nmS (fun σ4 es4 => ?_)
  have hF := hF σ4 es4
  refine ov_iconst 0 (by decide) dX1_begin_10 ?_
  refine ov_istore_n dX1_begin_11 (Nat.le_of_ble_eq_true rfl) [(3, .int 0), (0, .ref r), (1, .int x1), (2, .int x2)] rfl ?_
  refine ov_pick [1, 0] [(0, .ref r), (3, .int 0)] rfl ?_
  obtain ⟨n5, hF⟩ := hF
  exact V_X1_begin_12 hr n5 0 σ4 hF
/-! X1_become -/
abbrev vv_X1_become (k : ovSt → Prop) (pc : Nat) (L : List (Nat × Value)) (st : List Value) (σ : ovSt) : Prop := ov_V (ovZs 1 yX1_become cX1_become 2) (ovKs none ov_S0 (ovKv k)) (0, 0) ov_S0 pc L st σ
def F_X1_become (r : Nat) (r1 : Nat) (σ : ovSt) (k : ovSt → Prop) : Prop := (ov_isr r ∧ (ov_isr r1 ∧ (∀ σ1 : ovSt, σ1 = ov_up σ r 1 (σ r1 1) → (∀ σ2 : ovSt, σ2 = ov_up σ1 r 2 (σ1 r1 2) → ((ov_cpok 0 0 24 24 24) ∧ (∀ σ4 : ovSt, σ4 = ov_row σ2 (r + 1) (va_cpy (σ2 (r1 + 1)) (σ2 (r + 1)) (Int32.toNatClampNeg 0) (Int32.toNatClampNeg 0) (Int32.toNatClampNeg 24)) → (k σ4)))))))
set_option maxRecDepth 100000 in
set_option maxHeartbeats 4000000 in
theorem c_X1_become {r : Nat} {r1 : Nat} {σ : ovSt} {k : ovSt → Prop} (hF : F_X1_become r r1 σ k) : ov_Ct 1 yX1_become cX1_become 2 none ov_S0 [.ref r, .ref r1] σ (ovKv k) := by
  refine ov_Ct.of (by decide) (Nat.le_of_ble_eq_true rfl) ?_
  unfold F_X1_become at hF
  have hr := hF.1
  have hF := hF.2
  have hr1 := hF.1
  have hF := hF.2
  show vv_X1_become k 0 [(0, .ref r), (1, .ref r1)] [] σ
  refine ov_aload_n dX1_become_0 0 rfl ?_
  refine ov_aload_n dX1_become_1 1 rfl ?_
  refine ov_geti (T := TX1) (kf := 1) dX1_become_2 qf_X1_15 (ov_isr0 hr1) rfl (Nat.le_of_ble_eq_true rfl) rfl ?_
  refine ov_puti (T := TX1) (kf := 1) dX1_become_5 qf_X1_15 (ov_isr0 hr) rfl (Nat.le_of_ble_eq_true rfl) rfl rfl (by decide +kernel) ?_
  refine ov_nmS (fun σ1 es1 => ?_)
  have hF := hF σ1 es1
  refine ov_aload_n dX1_become_8 0 rfl ?_
  refine ov_aload_n dX1_become_9 1 rfl ?_
  refine ov_geti (T := TX1) (kf := 2) dX1_become_10 qf_X1_19 (ov_isr0 hr1) rfl (Nat.le_of_ble_eq_true rfl) rfl ?_
  refine ov_puti (T := TX1) (kf := 2) dX1_become_13 qf_X1_19 (ov_isr0 hr) rfl (Nat.le_of_ble_eq_true rfl) rfl rfl (by decide +kernel) ?_
  refine ov_nmS (fun σ2 es2 => ?_)
  have hF := hF σ2 es2
  refine ov_aload_n dX1_become_16 1 rfl ?_
  refine ov_getr (T := TX1) (kf := 0) dX1_become_17 qf_X1_9 (ov_isr0 hr1) rfl (Nat.le_of_ble_eq_true rfl) rfl (ov_isrn hr1 1 (by decide)) ?_
  refine ov_iconst 0 (by decide) dX1_become_20 ?_
  refine ov_aload_n dX1_become_21 0 rfl ?_
  refine ov_getr (T := TX1) (kf := 0) dX1_become_22 qf_X1_9 (ov_isr0 hr) rfl (Nat.le_of_ble_eq_true rfl) rfl (ov_isrn hr 1 (by decide)) ?_
  refine ov_iconst 0 (by decide) dX1_become_25 ?_
  refine ov_bipush 24 (by decide) dX1_become_26 ?_
  have h3 := hF.1
  have hF := hF.2
  refine ov_copy dX1_become_28 lk_X1_23 (ov_isr1 hr1) (ov_isr1 hr) h3 (Nat.le_of_ble_eq_true rfl) (by decide) ?_
  refine ov_nmS (fun σ4 es4 => ?_)
  have hF := hF σ4 es4
  exact ov_return dX1_become_31 (Nat.le_refl _) (Nat.le_refl _) ⟨rfl, trivial, rfl, hF⟩
/-! X5_within -/
abbrev vv_X5_within (k : Int32 → ovSt → Prop) (pc : Nat) (L : List (Nat × Value)) (st : List Value) (σ : ovSt) : Prop := ov_V (ovZs 0 yX5_within cX5_within 3) (ovKs (some .boolean) ov_S0 (ovKi k)) (0, 0) ov_S0 pc L st σ
def F_X5_within_15 (k : Int32 → ovSt → Prop) (t0 : Int32) (σ : ovSt) : Prop := (ov_bl t0 ∧ (k t0 σ))
set_option maxRecDepth 100000 in
set_option maxHeartbeats 4000000 in
theorem V_X5_within_15 {k : Int32 → ovSt → Prop} (t0 : Int32) (σ : ovSt) (hF : F_X5_within_15 k t0 σ) : vv_X5_within k 15 [] [.int t0] σ := by
  unfold F_X5_within_15 at hF
  have h1 := hF.1
  have hF := hF.2
  exact ov_ireturn dX5_within_15 (Nat.le_refl _) (Nat.le_refl _) ⟨rfl, h1, _, rfl, hF⟩
def F_X5_within_14 (k : Int32 → ovSt → Prop) (σ : ovSt) : Prop := (F_X5_within_15 k 0 σ)
set_option maxRecDepth 100000 in
set_option maxHeartbeats 4000000 in
theorem V_X5_within_14 {k : Int32 → ovSt → Prop} (σ : ovSt) (hF : F_X5_within_14 k σ) : vv_X5_within k 14 [] [] σ := by
  unfold F_X5_within_14 at hF
  refine ov_iconst 0 (by decide) dX5_within_14 ?_
  exact V_X5_within_15 0 σ hF
def F_X5_within (x0 : Int32) (x1 : Int32) (x2 : Int32) (σ : ovSt) (k : Int32 → ovSt → Prop) : Prop := (if x0 < x1 then (F_X5_within_14 k σ) else (if x2 < x0 then (F_X5_within_14 k σ) else (F_X5_within_15 k 1 σ)))
set_option maxRecDepth 100000 in
set_option maxHeartbeats 4000000 in
theorem c_X5_within {x0 : Int32} {x1 : Int32} {x2 : Int32} {σ : ovSt} {k : Int32 → ovSt → Prop} (hF : F_X5_within x0 x1 x2 σ k) : ov_Ct 0 yX5_within cX5_within 3 (some .boolean) ov_S0 [.int x0, .int x1, .int x2] σ (ovKi k) := by
  refine ov_Ct.of (by decide) (Nat.le_of_ble_eq_true rfl) ?_
  unfold F_X5_within at hF
  show vv_X5_within k 0 [(0, .int x0), (1, .int x1), (2, .int x2)] [] σ
  refine ov_iload_n dX5_within_0 0 rfl ?_
  refine ov_iload_n dX5_within_1 1 rfl ?_
  refine ov_icmp_lt 14 dX5_within_2 (by decide) hF (fun hF => ?_) (fun hF => ?_)
  · refine ov_pick [] [] rfl ?_
    exact V_X5_within_14 σ hF
  · refine ov_iload_n dX5_within_5 0 rfl ?_
    refine ov_iload_n dX5_within_6 2 rfl ?_
    refine ov_icmp_gt 14 dX5_within_7 (by decide) hF (fun hF => ?_) (fun hF => ?_)
    · refine ov_pick [] [] rfl ?_
      exact V_X5_within_14 σ hF
    · refine ov_iconst 1 (by decide) dX5_within_10 ?_
      refine ov_goto 15 dX5_within_11 (by decide) ?_
      refine ov_pick [] [] rfl ?_
      exact V_X5_within_15 1 σ hF
/-! X5_thing -/
abbrev vv_X5_thing (k : Int32 → ovSt → Prop) (pc : Nat) (L : List (Nat × Value)) (st : List Value) (σ : ovSt) : Prop := ov_V (ovZs 1 yX5_thing cX5_thing 3) (ovKs (some .int) ov_S0 (ovKi k)) (0, 0) ov_S0 pc L st σ
def F_X5_thing_19 (k : Int32 → ovSt → Prop) (σ : ovSt) : Prop := (k (-1000000001) σ)
set_option maxRecDepth 100000 in
set_option maxHeartbeats 4000000 in
theorem V_X5_thing_19 {k : Int32 → ovSt → Prop} (σ : ovSt) (hF : F_X5_thing_19 k σ) : vv_X5_thing k 19 [] [] σ := by
  unfold F_X5_thing_19 at hF
  refine ov_ldc dX5_thing_19 qc_X5_71 ?_
  exact ov_ireturn dX5_thing_21 (Nat.le_refl _) (Nat.le_refl _) ⟨rfl, trivial, _, rfl, hF⟩
def F_X5_thing_49 (k : Int32 → ovSt → Prop) (t0 : Int32) (σ : ovSt) : Prop := (k t0 σ)
set_option maxRecDepth 100000 in
set_option maxHeartbeats 4000000 in
theorem V_X5_thing_49 {k : Int32 → ovSt → Prop} (t0 : Int32) (σ : ovSt) (hF : F_X5_thing_49 k t0 σ) : vv_X5_thing k 49 [] [.int t0] σ := by
  unfold F_X5_thing_49 at hF
  exact ov_ireturn dX5_thing_49 (Nat.le_refl _) (Nat.le_refl _) ⟨rfl, trivial, _, rfl, hF⟩
def F_X5_thing (x1 : Int32) (x2 : Int32) (σ : ovSt) (k : Int32 → ovSt → Prop) : Prop := (F_X5_within x1 0 5 σ (fun v1 σ2 => (if v1 = 0 then (F_X5_thing_19 k σ2) else (F_X5_within x2 1 9 σ2 (fun v3 σ4 => (if v3 = 0 then (F_X5_thing_19 k σ4) else (if (8 : Int32) ≤ (σ4 21 6) then (F_X5_thing_49 k (-1000000003) σ4) else (F_X3_addThing 21 x1 x2 0 σ4 (fun v5 σ6 => (F_X5_thing_49 k v5 σ6))))))))))
set_option maxRecDepth 100000 in
set_option maxHeartbeats 4000000 in
theorem c_X5_thing {x1 : Int32} {x2 : Int32} {σ : ovSt} {k : Int32 → ovSt → Prop} (hF : F_X5_thing x1 x2 σ k) : ov_Ct 1 yX5_thing cX5_thing 3 (some .int) ov_S0 [.ref 0, .int x1, .int x2] σ (ovKi k) := by
  refine ov_Ct.of (by decide) (Nat.le_of_ble_eq_true rfl) ?_
  unfold F_X5_thing at hF
  show vv_X5_thing k 0 [(0, .ref 0), (1, .int x1), (2, .int x2)] [] σ
  refine ov_iload_n dX5_thing_0 1 rfl ?_
  refine ov_iconst 0 (by decide) dX5_thing_1 ?_
  refine ov_iconst 5 (by decide) dX5_thing_2 ?_
  refine ov_callS [.int x1, .int 0, .int 5] dX5_thing_3 (c_X5_within hF) (Nat.le_of_ble_eq_true rfl) (Nat.le_of_ble_eq_true rfl) lk_X5_67 (Nat.le_of_ble_eq_true rfl) (Nat.le_refl _) (Nat.le_refl _) (fun rr σ2 hF => ?_)
  obtain ⟨v1, rfl, hF⟩ := hF
  show vv_X5_thing k 6 [(0, .ref 0), (1, .int x1), (2, .int x2)] [.int v1] σ2
  refine ov_if_eq 19 dX5_thing_6 (by decide) hF (fun hF => ?_) (fun hF => ?_)
  · refine ov_pick [] [] rfl ?_
    exact V_X5_thing_19 σ2 hF
  · refine ov_iload_n dX5_thing_9 2 rfl ?_
    refine ov_iconst 1 (by decide) dX5_thing_10 ?_
    refine ov_bipush 9 (by decide) dX5_thing_11 ?_
    refine ov_callS [.int x2, .int 1, .int 9] dX5_thing_13 (c_X5_within hF) (Nat.le_of_ble_eq_true rfl) (Nat.le_of_ble_eq_true rfl) lk_X5_67 (Nat.le_of_ble_eq_true rfl) (Nat.le_refl _) (Nat.le_refl _) (fun rr σ4 hF => ?_)
    obtain ⟨v3, rfl, hF⟩ := hF
    show vv_X5_thing k 16 [(0, .ref 0), (1, .int x1), (2, .int x2)] [.int v3] σ4
    refine ov_if_ne 22 dX5_thing_16 (by decide) hF (fun hF => ?_) (fun hF => ?_)
    · refine ov_aload_n dX5_thing_22 0 rfl ?_
      refine ov_getr (T := TX5) (kf := 1) dX5_thing_23 qf_X5_21 sh_0 rfl (Nat.le_of_ble_eq_true rfl) rfl (by decide) ?_
      refine ov_geti (T := TX3) (kf := 6) dX5_thing_26 qf_X5_72 (ov_stk0 (by unfold ov_stk; decide)) rfl (Nat.le_of_ble_eq_true rfl) rfl ?_
      refine ov_bipush 8 (by decide) dX5_thing_29 ?_
      refine ov_icmp_ge 47 dX5_thing_31 (by decide) hF (fun hF => ?_) (fun hF => ?_)
      · refine ov_ldc dX5_thing_47 qc_X5_79 ?_
        refine ov_pick [] [] rfl ?_
        exact V_X5_thing_49 (-1000000003) σ4 hF
      · refine ov_aload_n dX5_thing_34 0 rfl ?_
        refine ov_getr (T := TX5) (kf := 1) dX5_thing_35 qf_X5_21 sh_0 rfl (Nat.le_of_ble_eq_true rfl) rfl (by decide) ?_
        refine ov_iload_n dX5_thing_38 1 rfl ?_
        refine ov_iload_n dX5_thing_39 2 rfl ?_
        refine ov_iconst 0 (by decide) dX5_thing_40 ?_
        refine ov_callV [.int x1, .int x2, .int 0] dX5_thing_41 (c_X3_addThing hF) (Nat.le_of_ble_eq_true rfl) (Nat.le_of_ble_eq_true rfl) lk_X5_75 (ov_stk0 (by unfold ov_stk; decide)) rfl (Nat.le_of_ble_eq_true rfl) (Nat.le_refl _) (Nat.le_refl _) (fun rr σ6 hF => ?_)
        obtain ⟨v5, rfl, hF⟩ := hF
        show vv_X5_thing k 44 [(0, .ref 0), (1, .int x1), (2, .int x2)] [.int v5] σ6
        refine ov_goto 49 dX5_thing_44 (by decide) ?_
        refine ov_pick [] [] rfl ?_
        exact V_X5_thing_49 v5 σ6 hF
    · refine ov_pick [] [] rfl ?_
      exact V_X5_thing_19 σ4 hF
/-! X5_toss -/
abbrev vv_X5_toss (k : Int32 → ovSt → Prop) (pc : Nat) (L : List (Nat × Value)) (st : List Value) (σ : ovSt) : Prop := ov_V (ovZs 2 yX5_toss cX5_toss 3) (ovKs (some .int) ov_S0 (ovKi k)) (0, 0) ov_S0 pc L st σ
def F_X5_toss_22 (k : Int32 → ovSt → Prop) (σ : ovSt) : Prop := (k (-1000000001) σ)
set_option maxRecDepth 100000 in
set_option maxHeartbeats 4000000 in
theorem V_X5_toss_22 {k : Int32 → ovSt → Prop} (σ : ovSt) (hF : F_X5_toss_22 k σ) : vv_X5_toss k 22 [] [] σ := by
  unfold F_X5_toss_22 at hF
  refine ov_ldc dX5_toss_22 qc_X5_71 ?_
  exact ov_ireturn dX5_toss_24 (Nat.le_refl _) (Nat.le_refl _) ⟨rfl, trivial, _, rfl, hF⟩
def F_X5_toss (x1 : Int32) (x2 : Int32) (σ : ovSt) (k : Int32 → ovSt → Prop) : Prop := (F_X3_has 21 x1 σ (fun v1 σ2 => (if v1 = 0 then (F_X5_toss_22 k σ2) else (F_X5_within x2 1 9999 σ2 (fun v3 σ4 => (if v3 = 0 then (F_X5_toss_22 k σ4) else (F_X3_throwIn 21 x1 x2 σ4 (fun σ6 => (vp_in x1 8 ∧ (k (σ6 24 (Int32.toNatClampNeg x1)) σ6))))))))))
set_option maxRecDepth 100000 in
set_option maxHeartbeats 4000000 in
theorem c_X5_toss {x1 : Int32} {x2 : Int32} {σ : ovSt} {k : Int32 → ovSt → Prop} (hF : F_X5_toss x1 x2 σ k) : ov_Ct 2 yX5_toss cX5_toss 3 (some .int) ov_S0 [.ref 0, .int x1, .int x2] σ (ovKi k) := by
  refine ov_Ct.of (by decide) (Nat.le_of_ble_eq_true rfl) ?_
  unfold F_X5_toss at hF
  show vv_X5_toss k 0 [(0, .ref 0), (1, .int x1), (2, .int x2)] [] σ
  refine ov_aload_n dX5_toss_0 0 rfl ?_
  refine ov_getr (T := TX5) (kf := 1) dX5_toss_1 qf_X5_21 sh_0 rfl (Nat.le_of_ble_eq_true rfl) rfl (by decide) ?_
  refine ov_iload_n dX5_toss_4 1 rfl ?_
  refine ov_callV [.int x1] dX5_toss_5 (c_X3_has hF) (Nat.le_of_ble_eq_true rfl) (Nat.le_of_ble_eq_true rfl) lk_X5_80 (ov_stk0 (by unfold ov_stk; decide)) rfl (Nat.le_of_ble_eq_true rfl) (Nat.le_refl _) (Nat.le_refl _) (fun rr σ2 hF => ?_)
  obtain ⟨v1, rfl, hF⟩ := hF
  show vv_X5_toss k 8 [(0, .ref 0), (1, .int x1), (2, .int x2)] [.int v1] σ2
  refine ov_if_eq 22 dX5_toss_8 (by decide) hF (fun hF => ?_) (fun hF => ?_)
  · refine ov_pick [] [] rfl ?_
    exact V_X5_toss_22 σ2 hF
  · refine ov_iload_n dX5_toss_11 2 rfl ?_
    refine ov_iconst 1 (by decide) dX5_toss_12 ?_
    refine ov_sipush 9999 (by decide) dX5_toss_13 ?_
    refine ov_callS [.int x2, .int 1, .int 9999] dX5_toss_16 (c_X5_within hF) (Nat.le_of_ble_eq_true rfl) (Nat.le_of_ble_eq_true rfl) lk_X5_67 (Nat.le_of_ble_eq_true rfl) (Nat.le_refl _) (Nat.le_refl _) (fun rr σ4 hF => ?_)
    obtain ⟨v3, rfl, hF⟩ := hF
    show vv_X5_toss k 19 [(0, .ref 0), (1, .int x1), (2, .int x2)] [.int v3] σ4
    refine ov_if_ne 25 dX5_toss_19 (by decide) hF (fun hF => ?_) (fun hF => ?_)
    · refine ov_aload_n dX5_toss_25 0 rfl ?_
      refine ov_getr (T := TX5) (kf := 1) dX5_toss_26 qf_X5_21 sh_0 rfl (Nat.le_of_ble_eq_true rfl) rfl (by decide) ?_
      refine ov_iload_n dX5_toss_29 1 rfl ?_
      refine ov_iload_n dX5_toss_30 2 rfl ?_
      refine ov_callV [.int x1, .int x2] dX5_toss_31 (c_X3_throwIn hF) (Nat.le_of_ble_eq_true rfl) (Nat.le_of_ble_eq_true rfl) lk_X5_84 (ov_stk0 (by unfold ov_stk; decide)) rfl (Nat.le_of_ble_eq_true rfl) (Nat.le_refl _) (Nat.le_refl _) (fun rr σ6 hF => ?_)
      obtain ⟨rfl, hF⟩ := hF
      show vv_X5_toss k 34 [(0, .ref 0), (1, .int x1), (2, .int x2)] [] σ6
      refine ov_aload_n dX5_toss_34 0 rfl ?_
      refine ov_getr (T := TX5) (kf := 1) dX5_toss_35 qf_X5_21 sh_0 rfl (Nat.le_of_ble_eq_true rfl) rfl (by decide) ?_
      refine ov_getr (T := TX3) (kf := 3) dX5_toss_38 qf_X5_88 (ov_stk0 (by unfold ov_stk; decide)) rfl (Nat.le_of_ble_eq_true rfl) rfl (by decide) ?_
      refine ov_iload_n dX5_toss_41 1 rfl ?_
      have h7 := hF.1
      have hF := hF.2
      refine ov_iaload dX5_toss_42 sh_24 h7 ?_
      exact ov_ireturn dX5_toss_43 (Nat.le_refl _) (Nat.le_refl _) ⟨rfl, trivial, _, rfl, hF⟩
    · refine ov_pick [] [] rfl ?_
      exact V_X5_toss_22 σ4 hF
/-! X5_told -/
abbrev vv_X5_told (k : Int32 → ovSt → Prop) (pc : Nat) (L : List (Nat × Value)) (st : List Value) (σ : ovSt) : Prop := ov_V (ovZs 5 yX5_told cX5_told 3) (ovKs (some .int) ov_S0 (ovKi k)) (0, 0) ov_S0 pc L st σ
def F_X5_told (x1 : Int32) (x2 : Int32) (σ : ovSt) (k : Int32 → ovSt → Prop) : Prop := (F_X3_has 21 x1 σ (fun v1 σ2 => (if v1 = 0 then (k (-1000000001) σ2) else (if x2 = 0 then (vp_in x1 8 ∧ (k (σ2 22 (Int32.toNatClampNeg x1)) σ2)) else (if x2 = 1 then (vp_in x1 8 ∧ (k (σ2 23 (Int32.toNatClampNeg x1)) σ2)) else (if x2 = 2 then (vp_in x1 8 ∧ (k (σ2 24 (Int32.toNatClampNeg x1)) σ2)) else (if x2 = 3 then (vp_in x1 8 ∧ (k (σ2 25 (Int32.toNatClampNeg x1)) σ2)) else (if x2 = 4 then (F_X3_tasteOf 21 x1 σ2 (fun v21 σ22 => (k v21 σ22))) else (if x2 = 5 then (F_X3_wearsOf 21 x1 σ2 (fun v19 σ20 => (k v19 σ20))) else (if x2 = 6 then (vp_in x1 8 ∧ (F_X5_worthOf (σ2 22 (Int32.toNatClampNeg x1)) (σ2 23 (Int32.toNatClampNeg x1)) σ2 (fun v17 σ18 => (k v17 σ18)))) else (if x2 = 7 then (F_X3_shareOf 21 x1 σ2 (fun v14 σ15 => (k v14 σ15))) else (if x2 = 8 then (F_X3_billOf 21 x1 σ2 (fun v12 σ13 => (k v12 σ13))) else (k (-1000000001) σ2)))))))))))))
set_option maxRecDepth 100000 in
set_option maxHeartbeats 4000000 in
theorem c_X5_told {x1 : Int32} {x2 : Int32} {σ : ovSt} {k : Int32 → ovSt → Prop} (hF : F_X5_told x1 x2 σ k) : ov_Ct 5 yX5_told cX5_told 3 (some .int) ov_S0 [.ref 0, .int x1, .int x2] σ (ovKi k) := by
  refine ov_Ct.of (by decide) (Nat.le_of_ble_eq_true rfl) ?_
  unfold F_X5_told at hF
  show vv_X5_told k 0 [(0, .ref 0), (1, .int x1), (2, .int x2)] [] σ
  refine ov_aload_n dX5_told_0 0 rfl ?_
  refine ov_getr (T := TX5) (kf := 1) dX5_told_1 qf_X5_21 sh_0 rfl (Nat.le_of_ble_eq_true rfl) rfl (by decide) ?_
  refine ov_iload_n dX5_told_4 1 rfl ?_
  refine ov_callV [.int x1] dX5_told_5 (c_X3_has hF) (Nat.le_of_ble_eq_true rfl) (Nat.le_of_ble_eq_true rfl) lk_X5_80 (ov_stk0 (by unfold ov_stk; decide)) rfl (Nat.le_of_ble_eq_true rfl) (Nat.le_refl _) (Nat.le_refl _) (fun rr σ2 hF => ?_)
  obtain ⟨v1, rfl, hF⟩ := hF
  show vv_X5_told k 8 [(0, .ref 0), (1, .int x1), (2, .int x2)] [.int v1] σ2
  refine ov_if_ne 14 dX5_told_8 (by decide) hF (fun hF => ?_) (fun hF => ?_)
  · refine ov_iload_n dX5_told_14 2 rfl ?_
    refine ov_br hF (fun z3 hF => ?_) (fun z3 hF => ?_)
    · refine ov_tin 0 49 64 dX5_told_15 z3 (by decide) (by decide) rfl (by decide) ?_
      refine ov_aload_n dX5_told_64 0 rfl ?_
      refine ov_getr (T := TX5) (kf := 1) dX5_told_65 qf_X5_21 sh_0 rfl (Nat.le_of_ble_eq_true rfl) rfl (by decide) ?_
      refine ov_getr (T := TX3) (kf := 1) dX5_told_68 qf_X5_91 (ov_stk0 (by unfold ov_stk; decide)) rfl (Nat.le_of_ble_eq_true rfl) rfl (by decide) ?_
      refine ov_iload_n dX5_told_71 1 rfl ?_
      have h26 := hF.1
      have hF := hF.2
      refine ov_iaload dX5_told_72 sh_22 h26 ?_
      exact ov_ireturn dX5_told_73 (Nat.le_refl _) (Nat.le_refl _) ⟨rfl, trivial, _, rfl, hF⟩
    · refine ov_br hF (fun z4 hF => ?_) (fun z4 hF => ?_)
      · refine ov_tin 1 59 74 dX5_told_15 z4 (by decide) (by decide) rfl (by decide) ?_
        refine ov_aload_n dX5_told_74 0 rfl ?_
        refine ov_getr (T := TX5) (kf := 1) dX5_told_75 qf_X5_21 sh_0 rfl (Nat.le_of_ble_eq_true rfl) rfl (by decide) ?_
        refine ov_getr (T := TX3) (kf := 2) dX5_told_78 qf_X5_94 (ov_stk0 (by unfold ov_stk; decide)) rfl (Nat.le_of_ble_eq_true rfl) rfl (by decide) ?_
        refine ov_iload_n dX5_told_81 1 rfl ?_
        have h25 := hF.1
        have hF := hF.2
        refine ov_iaload dX5_told_82 sh_23 h25 ?_
        exact ov_ireturn dX5_told_83 (Nat.le_refl _) (Nat.le_refl _) ⟨rfl, trivial, _, rfl, hF⟩
      · refine ov_br hF (fun z5 hF => ?_) (fun z5 hF => ?_)
        · refine ov_tin 2 69 84 dX5_told_15 z5 (by decide) (by decide) rfl (by decide) ?_
          refine ov_aload_n dX5_told_84 0 rfl ?_
          refine ov_getr (T := TX5) (kf := 1) dX5_told_85 qf_X5_21 sh_0 rfl (Nat.le_of_ble_eq_true rfl) rfl (by decide) ?_
          refine ov_getr (T := TX3) (kf := 3) dX5_told_88 qf_X5_88 (ov_stk0 (by unfold ov_stk; decide)) rfl (Nat.le_of_ble_eq_true rfl) rfl (by decide) ?_
          refine ov_iload_n dX5_told_91 1 rfl ?_
          have h24 := hF.1
          have hF := hF.2
          refine ov_iaload dX5_told_92 sh_24 h24 ?_
          exact ov_ireturn dX5_told_93 (Nat.le_refl _) (Nat.le_refl _) ⟨rfl, trivial, _, rfl, hF⟩
        · refine ov_br hF (fun z6 hF => ?_) (fun z6 hF => ?_)
          · refine ov_tin 3 79 94 dX5_told_15 z6 (by decide) (by decide) rfl (by decide) ?_
            refine ov_aload_n dX5_told_94 0 rfl ?_
            refine ov_getr (T := TX5) (kf := 1) dX5_told_95 qf_X5_21 sh_0 rfl (Nat.le_of_ble_eq_true rfl) rfl (by decide) ?_
            refine ov_getr (T := TX3) (kf := 4) dX5_told_98 qf_X5_97 (ov_stk0 (by unfold ov_stk; decide)) rfl (Nat.le_of_ble_eq_true rfl) rfl (by decide) ?_
            refine ov_iload_n dX5_told_101 1 rfl ?_
            have h23 := hF.1
            have hF := hF.2
            refine ov_iaload dX5_told_102 sh_25 h23 ?_
            exact ov_ireturn dX5_told_103 (Nat.le_refl _) (Nat.le_refl _) ⟨rfl, trivial, _, rfl, hF⟩
          · refine ov_br hF (fun z7 hF => ?_) (fun z7 hF => ?_)
            · refine ov_tin 4 89 104 dX5_told_15 z7 (by decide) (by decide) rfl (by decide) ?_
              refine ov_aload_n dX5_told_104 0 rfl ?_
              refine ov_getr (T := TX5) (kf := 1) dX5_told_105 qf_X5_21 sh_0 rfl (Nat.le_of_ble_eq_true rfl) rfl (by decide) ?_
              refine ov_iload_n dX5_told_108 1 rfl ?_
              refine ov_callV [.int x1] dX5_told_109 (c_X3_tasteOf hF) (Nat.le_of_ble_eq_true rfl) (Nat.le_of_ble_eq_true rfl) lk_X5_100 (ov_stk0 (by unfold ov_stk; decide)) rfl (Nat.le_of_ble_eq_true rfl) (Nat.le_refl _) (Nat.le_refl _) (fun rr σ22 hF => ?_)
              obtain ⟨v21, rfl, hF⟩ := hF
              show vv_X5_told k 112 [(0, .ref 0), (1, .int x1), (2, .int x2)] [.int v21] σ22
              exact ov_ireturn dX5_told_112 (Nat.le_refl _) (Nat.le_refl _) ⟨rfl, trivial, _, rfl, hF⟩
            · refine ov_br hF (fun z8 hF => ?_) (fun z8 hF => ?_)
              · refine ov_tin 5 98 113 dX5_told_15 z8 (by decide) (by decide) rfl (by decide) ?_
                refine ov_aload_n dX5_told_113 0 rfl ?_
                refine ov_getr (T := TX5) (kf := 1) dX5_told_114 qf_X5_21 sh_0 rfl (Nat.le_of_ble_eq_true rfl) rfl (by decide) ?_
                refine ov_iload_n dX5_told_117 1 rfl ?_
                refine ov_callV [.int x1] dX5_told_118 (c_X3_wearsOf hF) (Nat.le_of_ble_eq_true rfl) (Nat.le_of_ble_eq_true rfl) lk_X5_104 (ov_stk0 (by unfold ov_stk; decide)) rfl (Nat.le_of_ble_eq_true rfl) (Nat.le_refl _) (Nat.le_refl _) (fun rr σ20 hF => ?_)
                obtain ⟨v19, rfl, hF⟩ := hF
                show vv_X5_told k 121 [(0, .ref 0), (1, .int x1), (2, .int x2)] [.int v19] σ20
                exact ov_ireturn dX5_told_121 (Nat.le_refl _) (Nat.le_refl _) ⟨rfl, trivial, _, rfl, hF⟩
              · refine ov_br hF (fun z9 hF => ?_) (fun z9 hF => ?_)
                · refine ov_tin 6 107 122 dX5_told_15 z9 (by decide) (by decide) rfl (by decide) ?_
                  refine ov_aload_n dX5_told_122 0 rfl ?_
                  refine ov_getr (T := TX5) (kf := 1) dX5_told_123 qf_X5_21 sh_0 rfl (Nat.le_of_ble_eq_true rfl) rfl (by decide) ?_
                  refine ov_getr (T := TX3) (kf := 1) dX5_told_126 qf_X5_91 (ov_stk0 (by unfold ov_stk; decide)) rfl (Nat.le_of_ble_eq_true rfl) rfl (by decide) ?_
                  refine ov_iload_n dX5_told_129 1 rfl ?_
                  have h16 := hF.1
                  have hF := hF.2
                  refine ov_iaload dX5_told_130 sh_22 h16 ?_
                  refine ov_aload_n dX5_told_131 0 rfl ?_
                  refine ov_getr (T := TX5) (kf := 1) dX5_told_132 qf_X5_21 sh_0 rfl (Nat.le_of_ble_eq_true rfl) rfl (by decide) ?_
                  refine ov_getr (T := TX3) (kf := 2) dX5_told_135 qf_X5_94 (ov_stk0 (by unfold ov_stk; decide)) rfl (Nat.le_of_ble_eq_true rfl) rfl (by decide) ?_
                  refine ov_iload_n dX5_told_138 1 rfl ?_
                  refine ov_iaload dX5_told_139 sh_23 h16 ?_
                  refine ov_callS [.int (σ2 22 (Int32.toNatClampNeg x1)), .int (σ2 23 (Int32.toNatClampNeg x1))] dX5_told_140 (c_X5_worthOf hF) (Nat.le_of_ble_eq_true rfl) (Nat.le_of_ble_eq_true rfl) lk_X5_107 (Nat.le_of_ble_eq_true rfl) (Nat.le_refl _) (Nat.le_refl _) (fun rr σ18 hF => ?_)
                  obtain ⟨v17, rfl, hF⟩ := hF
                  show vv_X5_told k 143 [(0, .ref 0), (1, .int x1), (2, .int x2)] [.int v17] σ18
                  exact ov_ireturn dX5_told_143 (Nat.le_refl _) (Nat.le_refl _) ⟨rfl, trivial, _, rfl, hF⟩
                · refine ov_br hF (fun z10 hF => ?_) (fun z10 hF => ?_)
                  · refine ov_tin 7 129 144 dX5_told_15 z10 (by decide) (by decide) rfl (by decide) ?_
                    refine ov_aload_n dX5_told_144 0 rfl ?_
                    refine ov_getr (T := TX5) (kf := 1) dX5_told_145 qf_X5_21 sh_0 rfl (Nat.le_of_ble_eq_true rfl) rfl (by decide) ?_
                    refine ov_iload_n dX5_told_148 1 rfl ?_
                    refine ov_callV [.int x1] dX5_told_149 (c_X3_shareOf hF) (Nat.le_of_ble_eq_true rfl) (Nat.le_of_ble_eq_true rfl) lk_X5_111 (ov_stk0 (by unfold ov_stk; decide)) rfl (Nat.le_of_ble_eq_true rfl) (Nat.le_refl _) (Nat.le_refl _) (fun rr σ15 hF => ?_)
                    obtain ⟨v14, rfl, hF⟩ := hF
                    show vv_X5_told k 152 [(0, .ref 0), (1, .int x1), (2, .int x2)] [.int v14] σ15
                    exact ov_ireturn dX5_told_152 (Nat.le_refl _) (Nat.le_refl _) ⟨rfl, trivial, _, rfl, hF⟩
                  · refine ov_br hF (fun z11 hF => ?_) (fun z11 hF => ?_)
                    · refine ov_tin 8 138 153 dX5_told_15 z11 (by decide) (by decide) rfl (by decide) ?_
                      refine ov_aload_n dX5_told_153 0 rfl ?_
                      refine ov_getr (T := TX5) (kf := 1) dX5_told_154 qf_X5_21 sh_0 rfl (Nat.le_of_ble_eq_true rfl) rfl (by decide) ?_
                      refine ov_iload_n dX5_told_157 1 rfl ?_
                      refine ov_callV [.int x1] dX5_told_158 (c_X3_billOf hF) (Nat.le_of_ble_eq_true rfl) (Nat.le_of_ble_eq_true rfl) lk_X5_114 (ov_stk0 (by unfold ov_stk; decide)) rfl (Nat.le_of_ble_eq_true rfl) (Nat.le_refl _) (Nat.le_refl _) (fun rr σ13 hF => ?_)
                      obtain ⟨v12, rfl, hF⟩ := hF
                      show vv_X5_told k 161 [(0, .ref 0), (1, .int x1), (2, .int x2)] [.int v12] σ13
                      exact ov_ireturn dX5_told_161 (Nat.le_refl _) (Nat.le_refl _) ⟨rfl, trivial, _, rfl, hF⟩
                    · refine ov_tout 162 dX5_told_15 (by have q0 := lv_neT (k := 0) (a := 0) z3 rfl; have q1 := lv_neT (k := 1) (a := 1) z4 rfl; have q2 := lv_neT (k := 2) (a := 2) z5 rfl; have q3 := lv_neT (k := 3) (a := 3) z6 rfl; have q4 := lv_neT (k := 4) (a := 4) z7 rfl; have q5 := lv_neT (k := 5) (a := 5) z8 rfl; have q6 := lv_neT (k := 6) (a := 6) z9 rfl; have q7 := lv_neT (k := 7) (a := 7) z10 rfl; have q8 := lv_neT (k := 8) (a := 8) z11 rfl; omega) (by decide) ?_
                      refine ov_ldc dX5_told_162 qc_X5_71 ?_
                      exact ov_ireturn dX5_told_164 (Nat.le_refl _) (Nat.le_refl _) ⟨rfl, trivial, _, rfl, hF⟩
  · refine ov_ldc dX5_told_11 qc_X5_71 ?_
    exact ov_ireturn dX5_told_13 (Nat.le_refl _) (Nat.le_refl _) ⟨rfl, trivial, _, rfl, hF⟩
/-! X5_isOfKind -/
abbrev vv_X5_isOfKind (k : Int32 → ovSt → Prop) (pc : Nat) (L : List (Nat × Value)) (st : List Value) (σ : ovSt) : Prop := ov_V (ovZs 1 yX5_isOfKind cX5_isOfKind 4) (ovKs (some .boolean) ov_S0 (ovKi k)) (0, 0) ov_S0 pc L st σ
def F_X5_isOfKind_38 (k : Int32 → ovSt → Prop) (σ : ovSt) : Prop := (k 0 σ)
set_option maxRecDepth 100000 in
set_option maxHeartbeats 4000000 in
theorem V_X5_isOfKind_38 {k : Int32 → ovSt → Prop} (σ : ovSt) (hF : F_X5_isOfKind_38 k σ) : vv_X5_isOfKind k 38 [] [] σ := by
  unfold F_X5_isOfKind_38 at hF
  refine ov_iconst 0 (by decide) dX5_isOfKind_38 ?_
  exact ov_ireturn dX5_isOfKind_39 (Nat.le_refl _) (Nat.le_refl _) ⟨rfl, ov_bl0, _, rfl, hF⟩
def F_X5_isOfKind_4 (k : Int32 → ovSt → Prop) : Nat → Int32 → Int32 → Int32 → ovSt → Prop
  | 0 => fun _ _ _ _ => False
  | n + 1 => fun x1 x2 x3 σ => (if (6 : Int32) ≤ x3 then (F_X5_isOfKind_38 k σ) else (F_X5_within x2 0 5 σ (fun v1 σ2 => (if v1 = 0 then (F_X5_isOfKind_38 k σ2) else (if x2 = x1 then (k 1 σ2) else (vp_in x2 6 ∧ (∀ v4 : Int32, v4 = (ov_abv (Int32.toNatClampNeg x2)) → F_X5_isOfKind_4 k n x1 v4 (x3 + 1) σ2)))))))
set_option maxRecDepth 100000 in
set_option maxHeartbeats 4000000 in
theorem V_X5_isOfKind_4 {k : Int32 → ovSt → Prop} : ∀ (n : Nat) (x1 : Int32) (x2 : Int32) (x3 : Int32) (σ : ovSt), F_X5_isOfKind_4 k n x1 x2 x3 σ → vv_X5_isOfKind k 4 [(1, .int x1), (2, .int x2), (3, .int x3)] [] σ := by
  intro n
  induction n with
  | zero => intro x1 x2 x3 σ hF; exact hF.elim
  | succ n ih =>
    intro x1 x2 x3 σ hF
    unfold F_X5_isOfKind_4 at hF
    refine ov_iload_n dX5_isOfKind_4 2 rfl ?_
    refine ov_bipush 6 (by decide) dX5_isOfKind_5 ?_
    refine ov_icmp_ge 38 dX5_isOfKind_7 (by decide) hF (fun hF => ?_) (fun hF => ?_)
    · refine ov_pick [] [] rfl ?_
      exact V_X5_isOfKind_38 σ hF
    · refine ov_iload_n dX5_isOfKind_10 1 rfl ?_
      refine ov_iconst 0 (by decide) dX5_isOfKind_11 ?_
      refine ov_iconst 5 (by decide) dX5_isOfKind_12 ?_
      refine ov_callS [.int x2, .int 0, .int 5] dX5_isOfKind_13 (c_X5_within hF) (Nat.le_of_ble_eq_true rfl) (Nat.le_of_ble_eq_true rfl) lk_X5_67 (Nat.le_of_ble_eq_true rfl) (Nat.le_refl _) (Nat.le_refl _) (fun rr σ2 hF => ?_)
      obtain ⟨v1, rfl, hF⟩ := hF
      show vv_X5_isOfKind k 16 [(1, .int x1), (2, .int x2), (3, .int x3)] [.int v1] σ2
      refine ov_if_eq 38 dX5_isOfKind_16 (by decide) hF (fun hF => ?_) (fun hF => ?_)
      · refine ov_pick [] [] rfl ?_
        exact V_X5_isOfKind_38 σ2 hF
      · refine ov_iload_n dX5_isOfKind_19 1 rfl ?_
        refine ov_iload_n dX5_isOfKind_20 0 rfl ?_
        refine ov_icmp_ne 26 dX5_isOfKind_21 (by decide) hF (fun hF => ?_) (fun hF => ?_)
        · refine ov_above dX5_isOfKind_26 qf_X5_303 ?_
          refine ov_iload_n dX5_isOfKind_29 1 rfl ?_
          have h3 := hF.1
          have hF := hF.2
          refine ov_aboveld dX5_isOfKind_30 h3 ?_
          refine ov_nmI (fun v4 ev4 => ?_)
          have hF := hF v4 ev4
          refine ov_istore_n dX5_isOfKind_31 (Nat.le_of_ble_eq_true rfl) [(2, .int v4), (1, .int x1), (3, .int x3)] rfl ?_
          refine ov_iinc dX5_isOfKind_32 2 rfl (x3 + 1) rfl (Nat.le_of_ble_eq_true rfl) [(3, .int (x3 + 1)), (2, .int v4), (1, .int x1)] rfl ?_
          refine ov_goto 4 dX5_isOfKind_35 (by decide) ?_
          refine ov_pick [2, 1, 0] [(1, .int x1), (2, .int v4), (3, .int (x3 + 1))] rfl ?_
          exact ih x1 v4 (x3 + 1) σ2 hF
        · refine ov_iconst 1 (by decide) dX5_isOfKind_24 ?_
          exact ov_ireturn dX5_isOfKind_25 (Nat.le_refl _) (Nat.le_refl _) ⟨rfl, ov_bl1, _, rfl, hF⟩
def F_X5_isOfKind (x0 : Int32) (x1 : Int32) (σ : ovSt) (k : Int32 → ovSt → Prop) : Prop := (∃ n5, F_X5_isOfKind_4 k n5 x1 x0 0 σ)
set_option maxRecDepth 100000 in
set_option maxHeartbeats 4000000 in
theorem c_X5_isOfKind {x0 : Int32} {x1 : Int32} {σ : ovSt} {k : Int32 → ovSt → Prop} (hF : F_X5_isOfKind x0 x1 σ k) : ov_Ct 1 yX5_isOfKind cX5_isOfKind 4 (some .boolean) ov_S0 [.int x0, .int x1] σ (ovKi k) := by
  refine ov_Ct.of (by decide) (Nat.le_of_ble_eq_true rfl) ?_
  unfold F_X5_isOfKind at hF
  show vv_X5_isOfKind k 0 [(0, .int x0), (1, .int x1)] [] σ
  refine ov_iload_n dX5_isOfKind_0 0 rfl ?_
  refine ov_istore_n dX5_isOfKind_1 (Nat.le_of_ble_eq_true rfl) [(2, .int x0), (0, .int x0), (1, .int x1)] rfl ?_
  refine ov_iconst 0 (by decide) dX5_isOfKind_2 ?_
  refine ov_istore_n dX5_isOfKind_3 (Nat.le_of_ble_eq_true rfl) [(3, .int 0), (2, .int x0), (0, .int x0), (1, .int x1)] rfl ?_
  refine ov_pick [3, 1, 0] [(1, .int x1), (2, .int x0), (3, .int 0)] rfl ?_
  obtain ⟨n5, hF⟩ := hF
  exact V_X5_isOfKind_4 n5 x1 x0 0 σ hF
/-! X5_as -/
abbrev vv_X5_as (k : Int32 → ovSt → Prop) (pc : Nat) (L : List (Nat × Value)) (st : List Value) (σ : ovSt) : Prop := ov_V (ovZs 2 yX5_as cX5_as 3) (ovKs (some .int) ov_S0 (ovKi k)) (0, 0) ov_S0 pc L st σ
def F_X5_as_20 (k : Int32 → ovSt → Prop) (σ : ovSt) : Prop := (k (-1000000001) σ)
set_option maxRecDepth 100000 in
set_option maxHeartbeats 4000000 in
theorem V_X5_as_20 {k : Int32 → ovSt → Prop} (σ : ovSt) (hF : F_X5_as_20 k σ) : vv_X5_as k 20 [] [] σ := by
  unfold F_X5_as_20 at hF
  refine ov_ldc dX5_as_20 qc_X5_71 ?_
  exact ov_ireturn dX5_as_22 (Nat.le_refl _) (Nat.le_refl _) ⟨rfl, trivial, _, rfl, hF⟩
def F_X5_as_53 (k : Int32 → ovSt → Prop) (t0 : Int32) (σ : ovSt) : Prop := (k t0 σ)
set_option maxRecDepth 100000 in
set_option maxHeartbeats 4000000 in
theorem V_X5_as_53 {k : Int32 → ovSt → Prop} (t0 : Int32) (σ : ovSt) (hF : F_X5_as_53 k t0 σ) : vv_X5_as k 53 [] [.int t0] σ := by
  unfold F_X5_as_53 at hF
  exact ov_ireturn dX5_as_53 (Nat.le_refl _) (Nat.le_refl _) ⟨rfl, trivial, _, rfl, hF⟩
def F_X5_as (x1 : Int32) (x2 : Int32) (σ : ovSt) (k : Int32 → ovSt → Prop) : Prop := (F_X3_has 21 x1 σ (fun v1 σ2 => (if v1 = 0 then (F_X5_as_20 k σ2) else (F_X5_within x2 0 5 σ2 (fun v3 σ4 => (if v3 = 0 then (F_X5_as_20 k σ4) else (vp_in x1 8 ∧ (F_X5_isOfKind (σ4 22 (Int32.toNatClampNeg x1)) x2 σ4 (fun v6 σ7 => (if v6 = 0 then (F_X5_as_53 k (-1000000012) σ7) else (F_X5_as_53 k (σ7 23 (Int32.toNatClampNeg x1)) σ7)))))))))))
set_option maxRecDepth 100000 in
set_option maxHeartbeats 4000000 in
theorem c_X5_as {x1 : Int32} {x2 : Int32} {σ : ovSt} {k : Int32 → ovSt → Prop} (hF : F_X5_as x1 x2 σ k) : ov_Ct 2 yX5_as cX5_as 3 (some .int) ov_S0 [.ref 0, .int x1, .int x2] σ (ovKi k) := by
  refine ov_Ct.of (by decide) (Nat.le_of_ble_eq_true rfl) ?_
  unfold F_X5_as at hF
  show vv_X5_as k 0 [(0, .ref 0), (1, .int x1), (2, .int x2)] [] σ
  refine ov_aload_n dX5_as_0 0 rfl ?_
  refine ov_getr (T := TX5) (kf := 1) dX5_as_1 qf_X5_21 sh_0 rfl (Nat.le_of_ble_eq_true rfl) rfl (by decide) ?_
  refine ov_iload_n dX5_as_4 1 rfl ?_
  refine ov_callV [.int x1] dX5_as_5 (c_X3_has hF) (Nat.le_of_ble_eq_true rfl) (Nat.le_of_ble_eq_true rfl) lk_X5_80 (ov_stk0 (by unfold ov_stk; decide)) rfl (Nat.le_of_ble_eq_true rfl) (Nat.le_refl _) (Nat.le_refl _) (fun rr σ2 hF => ?_)
  obtain ⟨v1, rfl, hF⟩ := hF
  show vv_X5_as k 8 [(0, .ref 0), (1, .int x1), (2, .int x2)] [.int v1] σ2
  refine ov_if_eq 20 dX5_as_8 (by decide) hF (fun hF => ?_) (fun hF => ?_)
  · refine ov_pick [] [] rfl ?_
    exact V_X5_as_20 σ2 hF
  · refine ov_iload_n dX5_as_11 2 rfl ?_
    refine ov_iconst 0 (by decide) dX5_as_12 ?_
    refine ov_iconst 5 (by decide) dX5_as_13 ?_
    refine ov_callS [.int x2, .int 0, .int 5] dX5_as_14 (c_X5_within hF) (Nat.le_of_ble_eq_true rfl) (Nat.le_of_ble_eq_true rfl) lk_X5_67 (Nat.le_of_ble_eq_true rfl) (Nat.le_refl _) (Nat.le_refl _) (fun rr σ4 hF => ?_)
    obtain ⟨v3, rfl, hF⟩ := hF
    show vv_X5_as k 17 [(0, .ref 0), (1, .int x1), (2, .int x2)] [.int v3] σ4
    refine ov_if_ne 23 dX5_as_17 (by decide) hF (fun hF => ?_) (fun hF => ?_)
    · refine ov_aload_n dX5_as_23 0 rfl ?_
      refine ov_getr (T := TX5) (kf := 1) dX5_as_24 qf_X5_21 sh_0 rfl (Nat.le_of_ble_eq_true rfl) rfl (by decide) ?_
      refine ov_getr (T := TX3) (kf := 1) dX5_as_27 qf_X5_91 (ov_stk0 (by unfold ov_stk; decide)) rfl (Nat.le_of_ble_eq_true rfl) rfl (by decide) ?_
      refine ov_iload_n dX5_as_30 1 rfl ?_
      have h5 := hF.1
      have hF := hF.2
      refine ov_iaload dX5_as_31 sh_22 h5 ?_
      refine ov_iload_n dX5_as_32 2 rfl ?_
      refine ov_callS [.int (σ4 22 (Int32.toNatClampNeg x1)), .int x2] dX5_as_33 (c_X5_isOfKind hF) (Nat.le_of_ble_eq_true rfl) (Nat.le_of_ble_eq_true rfl) lk_X5_117 (Nat.le_of_ble_eq_true rfl) (Nat.le_refl _) (Nat.le_refl _) (fun rr σ7 hF => ?_)
      obtain ⟨v6, rfl, hF⟩ := hF
      show vv_X5_as k 36 [(0, .ref 0), (1, .int x1), (2, .int x2)] [.int v6] σ7
      refine ov_if_eq 51 dX5_as_36 (by decide) hF (fun hF => ?_) (fun hF => ?_)
      · refine ov_ldc dX5_as_51 qc_X5_121 ?_
        refine ov_pick [] [] rfl ?_
        exact V_X5_as_53 (-1000000012) σ7 hF
      · refine ov_aload_n dX5_as_39 0 rfl ?_
        refine ov_getr (T := TX5) (kf := 1) dX5_as_40 qf_X5_21 sh_0 rfl (Nat.le_of_ble_eq_true rfl) rfl (by decide) ?_
        refine ov_getr (T := TX3) (kf := 2) dX5_as_43 qf_X5_94 (ov_stk0 (by unfold ov_stk; decide)) rfl (Nat.le_of_ble_eq_true rfl) rfl (by decide) ?_
        refine ov_iload_n dX5_as_46 1 rfl ?_
        refine ov_iaload dX5_as_47 sh_23 h5 ?_
        refine ov_goto 53 dX5_as_48 (by decide) ?_
        refine ov_pick [] [] rfl ?_
        exact V_X5_as_53 (σ7 23 (Int32.toNatClampNeg x1)) σ7 hF
    · refine ov_pick [] [] rfl ?_
      exact V_X5_as_20 σ4 hF
/-! X5_turns -/
abbrev vv_X5_turns (k : Int32 → ovSt → Prop) (pc : Nat) (L : List (Nat × Value)) (st : List Value) (σ : ovSt) : Prop := ov_V (ovZs 1 yX5_turns cX5_turns 4) (ovKs (some .int) ov_S0 (ovKi k)) (0, 0) ov_S0 pc L st σ
def F_X5_turns_20 (k : Int32 → ovSt → Prop) (σ : ovSt) : Prop := (k (-1000000001) σ)
set_option maxRecDepth 100000 in
set_option maxHeartbeats 4000000 in
theorem V_X5_turns_20 {k : Int32 → ovSt → Prop} (σ : ovSt) (hF : F_X5_turns_20 k σ) : vv_X5_turns k 20 [] [] σ := by
  unfold F_X5_turns_20 at hF
  refine ov_ldc dX5_turns_20 qc_X5_71 ?_
  exact ov_ireturn dX5_turns_22 (Nat.le_refl _) (Nat.le_refl _) ⟨rfl, trivial, _, rfl, hF⟩
def F_X5_turns (x1 : Int32) (x2 : Int32) (σ : ovSt) (k : Int32 → ovSt → Prop) : Prop := (F_X3_has 21 x1 σ (fun v1 σ2 => (if v1 = 0 then (F_X5_turns_20 k σ2) else (F_X5_within x2 0 5 σ2 (fun v3 σ4 => (if v3 = 0 then (F_X5_turns_20 k σ4) else (vp_in x1 8 ∧ (∀ v6 : Int32, v6 = (σ4 22 (Int32.toNatClampNeg x1)) → (∀ σ7 : ovSt, σ7 = ov_up σ4 22 (Int32.toNatClampNeg x1) x2 → (k v6 σ7))))))))))
set_option maxRecDepth 100000 in
set_option maxHeartbeats 4000000 in
theorem c_X5_turns {x1 : Int32} {x2 : Int32} {σ : ovSt} {k : Int32 → ovSt → Prop} (hF : F_X5_turns x1 x2 σ k) : ov_Ct 1 yX5_turns cX5_turns 4 (some .int) ov_S0 [.ref 0, .int x1, .int x2] σ (ovKi k) := by
  refine ov_Ct.of (by decide) (Nat.le_of_ble_eq_true rfl) ?_
  unfold F_X5_turns at hF
  show vv_X5_turns k 0 [(0, .ref 0), (1, .int x1), (2, .int x2)] [] σ
  refine ov_aload_n dX5_turns_0 0 rfl ?_
  refine ov_getr (T := TX5) (kf := 1) dX5_turns_1 qf_X5_21 sh_0 rfl (Nat.le_of_ble_eq_true rfl) rfl (by decide) ?_
  refine ov_iload_n dX5_turns_4 1 rfl ?_
  refine ov_callV [.int x1] dX5_turns_5 (c_X3_has hF) (Nat.le_of_ble_eq_true rfl) (Nat.le_of_ble_eq_true rfl) lk_X5_80 (ov_stk0 (by unfold ov_stk; decide)) rfl (Nat.le_of_ble_eq_true rfl) (Nat.le_refl _) (Nat.le_refl _) (fun rr σ2 hF => ?_)
  obtain ⟨v1, rfl, hF⟩ := hF
  show vv_X5_turns k 8 [(0, .ref 0), (1, .int x1), (2, .int x2)] [.int v1] σ2
  refine ov_if_eq 20 dX5_turns_8 (by decide) hF (fun hF => ?_) (fun hF => ?_)
  · refine ov_pick [] [] rfl ?_
    exact V_X5_turns_20 σ2 hF
  · refine ov_iload_n dX5_turns_11 2 rfl ?_
    refine ov_iconst 0 (by decide) dX5_turns_12 ?_
    refine ov_iconst 5 (by decide) dX5_turns_13 ?_
    refine ov_callS [.int x2, .int 0, .int 5] dX5_turns_14 (c_X5_within hF) (Nat.le_of_ble_eq_true rfl) (Nat.le_of_ble_eq_true rfl) lk_X5_67 (Nat.le_of_ble_eq_true rfl) (Nat.le_refl _) (Nat.le_refl _) (fun rr σ4 hF => ?_)
    obtain ⟨v3, rfl, hF⟩ := hF
    show vv_X5_turns k 17 [(0, .ref 0), (1, .int x1), (2, .int x2)] [.int v3] σ4
    refine ov_if_ne 23 dX5_turns_17 (by decide) hF (fun hF => ?_) (fun hF => ?_)
    · refine ov_aload_n dX5_turns_23 0 rfl ?_
      refine ov_getr (T := TX5) (kf := 1) dX5_turns_24 qf_X5_21 sh_0 rfl (Nat.le_of_ble_eq_true rfl) rfl (by decide) ?_
      refine ov_getr (T := TX3) (kf := 1) dX5_turns_27 qf_X5_91 (ov_stk0 (by unfold ov_stk; decide)) rfl (Nat.le_of_ble_eq_true rfl) rfl (by decide) ?_
      refine ov_iload_n dX5_turns_30 1 rfl ?_
      have h5 := hF.1
      have hF := hF.2
      refine ov_iaload dX5_turns_31 sh_22 h5 ?_
      refine ov_nmI (fun v6 ev6 => ?_)
      have hF := hF v6 ev6
      refine ov_istore_n dX5_turns_32 (Nat.le_of_ble_eq_true rfl) [(3, .int v6), (0, .ref 0), (1, .int x1), (2, .int x2)] rfl ?_
      refine ov_aload_n dX5_turns_33 1 rfl ?_
      refine ov_getr (T := TX5) (kf := 1) dX5_turns_34 qf_X5_21 sh_0 rfl (Nat.le_of_ble_eq_true rfl) rfl (by decide) ?_
      refine ov_getr (T := TX3) (kf := 1) dX5_turns_37 qf_X5_91 (ov_stk0 (by unfold ov_stk; decide)) rfl (Nat.le_of_ble_eq_true rfl) rfl (by decide) ?_
      refine ov_iload_n dX5_turns_40 2 rfl ?_
      refine ov_iload_n dX5_turns_41 3 rfl ?_
      refine ov_iastore dX5_turns_42 sh_22 h5 ?_
      refine ov_nmS (fun σ7 es7 => ?_)
      have hF := hF σ7 es7
      refine ov_iload_n dX5_turns_43 0 rfl ?_
      exact ov_ireturn dX5_turns_44 (Nat.le_refl _) (Nat.le_refl _) ⟨rfl, trivial, _, rfl, hF⟩
    · refine ov_pick [] [] rfl ?_
      exact V_X5_turns_20 σ4 hF
/-! X5_exchange -/
abbrev vv_X5_exchange (k : Int32 → ovSt → Prop) (pc : Nat) (L : List (Nat × Value)) (st : List Value) (σ : ovSt) : Prop := ov_V (ovZs 0 yX5_exchange cX5_exchange 4) (ovKs (some .int) ov_S0 (ovKi k)) (0, 0) ov_S0 pc L st σ
def F_X5_exchange (a0 : Nat) (x1 : Int32) (x2 : Int32) (σ : ovSt) (k : Int32 → ovSt → Prop) : Prop := (ov_S0[a0]? = some (9, 8, []) ∧ (vp_in x1 8 ∧ (∀ v2 : Int32, v2 = (σ a0 (Int32.toNatClampNeg x1)) → (∀ σ3 : ovSt, σ3 = ov_up σ a0 (Int32.toNatClampNeg x1) x2 → (k v2 σ3)))))
set_option maxRecDepth 100000 in
set_option maxHeartbeats 4000000 in
theorem c_X5_exchange {a0 : Nat} {x1 : Int32} {x2 : Int32} {σ : ovSt} {k : Int32 → ovSt → Prop} (hF : F_X5_exchange a0 x1 x2 σ k) : ov_Ct 0 yX5_exchange cX5_exchange 4 (some .int) ov_S0 [.ref a0, .int x1, .int x2] σ (ovKi k) := by
  refine ov_Ct.of (by decide) (Nat.le_of_ble_eq_true rfl) ?_
  unfold F_X5_exchange at hF
  have ha0 := hF.1
  have hF := hF.2
  show vv_X5_exchange k 0 [(0, .ref a0), (1, .int x1), (2, .int x2)] [] σ
  refine ov_aload_n dX5_exchange_0 0 rfl ?_
  refine ov_iload_n dX5_exchange_1 1 rfl ?_
  have h1 := hF.1
  have hF := hF.2
  refine ov_iaload dX5_exchange_2 ha0 h1 ?_
  refine ov_nmI (fun v2 ev2 => ?_)
  have hF := hF v2 ev2
  refine ov_istore_n dX5_exchange_3 (Nat.le_of_ble_eq_true rfl) [(3, .int v2), (0, .ref a0), (1, .int x1), (2, .int x2)] rfl ?_
  refine ov_aload_n dX5_exchange_4 1 rfl ?_
  refine ov_iload_n dX5_exchange_5 2 rfl ?_
  refine ov_iload_n dX5_exchange_6 3 rfl ?_
  refine ov_iastore dX5_exchange_7 ha0 h1 ?_
  refine ov_nmS (fun σ3 es3 => ?_)
  have hF := hF σ3 es3
  refine ov_iload_n dX5_exchange_8 0 rfl ?_
  exact ov_ireturn dX5_exchange_9 (Nat.le_refl _) (Nat.le_refl _) ⟨rfl, trivial, _, rfl, hF⟩
/-! X5_set -/
abbrev vv_X5_set (k : Int32 → ovSt → Prop) (pc : Nat) (L : List (Nat × Value)) (st : List Value) (σ : ovSt) : Prop := ov_V (ovZs 1 yX5_set cX5_set 4) (ovKs (some .int) ov_S0 (ovKi k)) (0, 0) ov_S0 pc L st σ
def F_X5_set_67 (k : Int32 → ovSt → Prop) (t0 : Int32) (σ : ovSt) : Prop := (k t0 σ)
set_option maxRecDepth 100000 in
set_option maxHeartbeats 4000000 in
theorem V_X5_set_67 {k : Int32 → ovSt → Prop} (t0 : Int32) (σ : ovSt) (hF : F_X5_set_67 k t0 σ) : vv_X5_set k 67 [] [.int t0] σ := by
  unfold F_X5_set_67 at hF
  exact ov_ireturn dX5_set_67 (Nat.le_refl _) (Nat.le_refl _) ⟨rfl, trivial, _, rfl, hF⟩
def F_X5_set_95 (k : Int32 → ovSt → Prop) (t0 : Int32) (σ : ovSt) : Prop := (k t0 σ)
set_option maxRecDepth 100000 in
set_option maxHeartbeats 4000000 in
theorem V_X5_set_95 {k : Int32 → ovSt → Prop} (t0 : Int32) (σ : ovSt) (hF : F_X5_set_95 k t0 σ) : vv_X5_set k 95 [] [.int t0] σ := by
  unfold F_X5_set_95 at hF
  exact ov_ireturn dX5_set_95 (Nat.le_refl _) (Nat.le_refl _) ⟨rfl, trivial, _, rfl, hF⟩
def F_X5_set_124 (k : Int32 → ovSt → Prop) (t0 : Int32) (σ : ovSt) : Prop := (k t0 σ)
set_option maxRecDepth 100000 in
set_option maxHeartbeats 4000000 in
theorem V_X5_set_124 {k : Int32 → ovSt → Prop} (t0 : Int32) (σ : ovSt) (hF : F_X5_set_124 k t0 σ) : vv_X5_set k 124 [] [.int t0] σ := by
  unfold F_X5_set_124 at hF
  exact ov_ireturn dX5_set_124 (Nat.le_refl _) (Nat.le_refl _) ⟨rfl, trivial, _, rfl, hF⟩
def F_X5_set (x1 : Int32) (x2 : Int32) (x3 : Int32) (σ : ovSt) (k : Int32 → ovSt → Prop) : Prop := (F_X3_has 21 x1 σ (fun v1 σ2 => (if v1 = 0 then (k (-1000000001) σ2) else (if x2 = 1 then (F_X5_within x3 1 9 σ2 (fun v14 σ15 => (if v14 = 0 then (F_X5_set_67 k (-1000000001) σ15) else (F_X5_exchange 23 x1 x3 σ15 (fun v16 σ17 => (F_X5_set_67 k v16 σ17)))))) else (if x2 = 2 then (F_X5_within x3 0 99999 σ2 (fun v10 σ11 => (if v10 = 0 then (F_X5_set_95 k (-1000000001) σ11) else (F_X5_exchange 24 x1 x3 σ11 (fun v12 σ13 => (F_X5_set_95 k v12 σ13)))))) else (if x2 = 3 then (F_X5_within x3 0 9999 σ2 (fun v6 σ7 => (if v6 = 0 then (F_X5_set_124 k (-1000000001) σ7) else (F_X5_exchange 25 x1 x3 σ7 (fun v8 σ9 => (F_X5_set_124 k v8 σ9)))))) else (k (-1000000001) σ2)))))))
set_option maxRecDepth 100000 in
set_option maxHeartbeats 4000000 in
theorem c_X5_set {x1 : Int32} {x2 : Int32} {x3 : Int32} {σ : ovSt} {k : Int32 → ovSt → Prop} (hF : F_X5_set x1 x2 x3 σ k) : ov_Ct 1 yX5_set cX5_set 4 (some .int) ov_S0 [.ref 0, .int x1, .int x2, .int x3] σ (ovKi k) := by
  refine ov_Ct.of (by decide) (Nat.le_of_ble_eq_true rfl) ?_
  unfold F_X5_set at hF
  show vv_X5_set k 0 [(0, .ref 0), (1, .int x1), (2, .int x2), (3, .int x3)] [] σ
  refine ov_aload_n dX5_set_0 0 rfl ?_
  refine ov_getr (T := TX5) (kf := 1) dX5_set_1 qf_X5_21 sh_0 rfl (Nat.le_of_ble_eq_true rfl) rfl (by decide) ?_
  refine ov_iload_n dX5_set_4 1 rfl ?_
  refine ov_callV [.int x1] dX5_set_5 (c_X3_has hF) (Nat.le_of_ble_eq_true rfl) (Nat.le_of_ble_eq_true rfl) lk_X5_80 (ov_stk0 (by unfold ov_stk; decide)) rfl (Nat.le_of_ble_eq_true rfl) (Nat.le_refl _) (Nat.le_refl _) (fun rr σ2 hF => ?_)
  obtain ⟨v1, rfl, hF⟩ := hF
  show vv_X5_set k 8 [(0, .ref 0), (1, .int x1), (2, .int x2), (3, .int x3)] [.int v1] σ2
  refine ov_if_ne 14 dX5_set_8 (by decide) hF (fun hF => ?_) (fun hF => ?_)
  · refine ov_iload_n dX5_set_14 2 rfl ?_
    refine ov_br hF (fun z3 hF => ?_) (fun z3 hF => ?_)
    · refine ov_tin 1 25 40 dX5_set_15 z3 (by decide) (by decide) rfl (by decide) ?_
      refine ov_iload_n dX5_set_40 3 rfl ?_
      refine ov_iconst 1 (by decide) dX5_set_41 ?_
      refine ov_bipush 9 (by decide) dX5_set_42 ?_
      refine ov_callS [.int x3, .int 1, .int 9] dX5_set_44 (c_X5_within hF) (Nat.le_of_ble_eq_true rfl) (Nat.le_of_ble_eq_true rfl) lk_X5_67 (Nat.le_of_ble_eq_true rfl) (Nat.le_refl _) (Nat.le_refl _) (fun rr σ15 hF => ?_)
      obtain ⟨v14, rfl, hF⟩ := hF
      show vv_X5_set k 47 [(0, .ref 0), (1, .int x1), (2, .int x2), (3, .int x3)] [.int v14] σ15
      refine ov_if_eq 65 dX5_set_47 (by decide) hF (fun hF => ?_) (fun hF => ?_)
      · refine ov_ldc dX5_set_65 qc_X5_71 ?_
        refine ov_pick [] [] rfl ?_
        exact V_X5_set_67 (-1000000001) σ15 hF
      · refine ov_aload_n dX5_set_50 0 rfl ?_
        refine ov_getr (T := TX5) (kf := 1) dX5_set_51 qf_X5_21 sh_0 rfl (Nat.le_of_ble_eq_true rfl) rfl (by decide) ?_
        refine ov_getr (T := TX3) (kf := 2) dX5_set_54 qf_X5_94 (ov_stk0 (by unfold ov_stk; decide)) rfl (Nat.le_of_ble_eq_true rfl) rfl (by decide) ?_
        refine ov_iload_n dX5_set_57 1 rfl ?_
        refine ov_iload_n dX5_set_58 3 rfl ?_
        refine ov_callS [.ref 23, .int x1, .int x3] dX5_set_59 (c_X5_exchange hF) (Nat.le_of_ble_eq_true rfl) (Nat.le_of_ble_eq_true rfl) lk_X5_122 (Nat.le_of_ble_eq_true rfl) (Nat.le_refl _) (Nat.le_refl _) (fun rr σ17 hF => ?_)
        obtain ⟨v16, rfl, hF⟩ := hF
        show vv_X5_set k 62 [(0, .ref 0), (1, .int x1), (2, .int x2), (3, .int x3)] [.int v16] σ17
        refine ov_goto 67 dX5_set_62 (by decide) ?_
        refine ov_pick [] [] rfl ?_
        exact V_X5_set_67 v16 σ17 hF
    · refine ov_br hF (fun z4 hF => ?_) (fun z4 hF => ?_)
      · refine ov_tin 2 53 68 dX5_set_15 z4 (by decide) (by decide) rfl (by decide) ?_
        refine ov_iload_n dX5_set_68 3 rfl ?_
        refine ov_iconst 0 (by decide) dX5_set_69 ?_
        refine ov_ldc dX5_set_70 qc_X5_126 ?_
        refine ov_callS [.int x3, .int 0, .int 99999] dX5_set_72 (c_X5_within hF) (Nat.le_of_ble_eq_true rfl) (Nat.le_of_ble_eq_true rfl) lk_X5_67 (Nat.le_of_ble_eq_true rfl) (Nat.le_refl _) (Nat.le_refl _) (fun rr σ11 hF => ?_)
        obtain ⟨v10, rfl, hF⟩ := hF
        show vv_X5_set k 75 [(0, .ref 0), (1, .int x1), (2, .int x2), (3, .int x3)] [.int v10] σ11
        refine ov_if_eq 93 dX5_set_75 (by decide) hF (fun hF => ?_) (fun hF => ?_)
        · refine ov_ldc dX5_set_93 qc_X5_71 ?_
          refine ov_pick [] [] rfl ?_
          exact V_X5_set_95 (-1000000001) σ11 hF
        · refine ov_aload_n dX5_set_78 0 rfl ?_
          refine ov_getr (T := TX5) (kf := 1) dX5_set_79 qf_X5_21 sh_0 rfl (Nat.le_of_ble_eq_true rfl) rfl (by decide) ?_
          refine ov_getr (T := TX3) (kf := 3) dX5_set_82 qf_X5_88 (ov_stk0 (by unfold ov_stk; decide)) rfl (Nat.le_of_ble_eq_true rfl) rfl (by decide) ?_
          refine ov_iload_n dX5_set_85 1 rfl ?_
          refine ov_iload_n dX5_set_86 3 rfl ?_
          refine ov_callS [.ref 24, .int x1, .int x3] dX5_set_87 (c_X5_exchange hF) (Nat.le_of_ble_eq_true rfl) (Nat.le_of_ble_eq_true rfl) lk_X5_122 (Nat.le_of_ble_eq_true rfl) (Nat.le_refl _) (Nat.le_refl _) (fun rr σ13 hF => ?_)
          obtain ⟨v12, rfl, hF⟩ := hF
          show vv_X5_set k 90 [(0, .ref 0), (1, .int x1), (2, .int x2), (3, .int x3)] [.int v12] σ13
          refine ov_goto 95 dX5_set_90 (by decide) ?_
          refine ov_pick [] [] rfl ?_
          exact V_X5_set_95 v12 σ13 hF
      · refine ov_br hF (fun z5 hF => ?_) (fun z5 hF => ?_)
        · refine ov_tin 3 81 96 dX5_set_15 z5 (by decide) (by decide) rfl (by decide) ?_
          refine ov_iload_n dX5_set_96 3 rfl ?_
          refine ov_iconst 0 (by decide) dX5_set_97 ?_
          refine ov_sipush 9999 (by decide) dX5_set_98 ?_
          refine ov_callS [.int x3, .int 0, .int 9999] dX5_set_101 (c_X5_within hF) (Nat.le_of_ble_eq_true rfl) (Nat.le_of_ble_eq_true rfl) lk_X5_67 (Nat.le_of_ble_eq_true rfl) (Nat.le_refl _) (Nat.le_refl _) (fun rr σ7 hF => ?_)
          obtain ⟨v6, rfl, hF⟩ := hF
          show vv_X5_set k 104 [(0, .ref 0), (1, .int x1), (2, .int x2), (3, .int x3)] [.int v6] σ7
          refine ov_if_eq 122 dX5_set_104 (by decide) hF (fun hF => ?_) (fun hF => ?_)
          · refine ov_ldc dX5_set_122 qc_X5_71 ?_
            refine ov_pick [] [] rfl ?_
            exact V_X5_set_124 (-1000000001) σ7 hF
          · refine ov_aload_n dX5_set_107 0 rfl ?_
            refine ov_getr (T := TX5) (kf := 1) dX5_set_108 qf_X5_21 sh_0 rfl (Nat.le_of_ble_eq_true rfl) rfl (by decide) ?_
            refine ov_getr (T := TX3) (kf := 4) dX5_set_111 qf_X5_97 (ov_stk0 (by unfold ov_stk; decide)) rfl (Nat.le_of_ble_eq_true rfl) rfl (by decide) ?_
            refine ov_iload_n dX5_set_114 1 rfl ?_
            refine ov_iload_n dX5_set_115 3 rfl ?_
            refine ov_callS [.ref 25, .int x1, .int x3] dX5_set_116 (c_X5_exchange hF) (Nat.le_of_ble_eq_true rfl) (Nat.le_of_ble_eq_true rfl) lk_X5_122 (Nat.le_of_ble_eq_true rfl) (Nat.le_refl _) (Nat.le_refl _) (fun rr σ9 hF => ?_)
            obtain ⟨v8, rfl, hF⟩ := hF
            show vv_X5_set k 119 [(0, .ref 0), (1, .int x1), (2, .int x2), (3, .int x3)] [.int v8] σ9
            refine ov_goto 124 dX5_set_119 (by decide) ?_
            refine ov_pick [] [] rfl ?_
            exact V_X5_set_124 v8 σ9 hF
        · refine ov_tout 125 dX5_set_15 (by have q0 := lv_neT (k := 1) (a := 1) z3 rfl; have q1 := lv_neT (k := 2) (a := 2) z4 rfl; have q2 := lv_neT (k := 3) (a := 3) z5 rfl; omega) (by decide) ?_
          refine ov_ldc dX5_set_125 qc_X5_71 ?_
          exact ov_ireturn dX5_set_127 (Nat.le_refl _) (Nat.le_refl _) ⟨rfl, trivial, _, rfl, hF⟩
  · refine ov_ldc dX5_set_11 qc_X5_71 ?_
    exact ov_ireturn dX5_set_13 (Nat.le_refl _) (Nat.le_refl _) ⟨rfl, trivial, _, rfl, hF⟩
/-! X5_deal -/
abbrev vv_X5_deal (k : Int32 → ovSt → Prop) (pc : Nat) (L : List (Nat × Value)) (st : List Value) (σ : ovSt) : Prop := ov_V (ovZs 2 yX5_deal cX5_deal 4) (ovKs (some .int) ov_S0 (ovKi k)) (0, 0) ov_S0 pc L st σ
def F_X5_deal_30 (k : Int32 → ovSt → Prop) : Nat → Int32 → Int32 → ovSt → Prop
  | 0 => fun _ _ _ => False
  | n + 1 => fun x2 x3 σ => (if x2 ≤ x3 then (k x2 σ) else (F_X3_drawThing 21 σ (fun σ2 => F_X5_deal_30 k n x2 (x3 + 1) σ2)))
set_option maxRecDepth 100000 in
set_option maxHeartbeats 4000000 in
theorem V_X5_deal_30 {k : Int32 → ovSt → Prop} : ∀ (n : Nat) (x2 : Int32) (x3 : Int32) (σ : ovSt), F_X5_deal_30 k n x2 x3 σ → vv_X5_deal k 30 [(0, .ref 0), (2, .int x2), (3, .int x3)] [] σ := by
  intro n
  induction n with
  | zero => intro x2 x3 σ hF; exact hF.elim
  | succ n ih =>
    intro x2 x3 σ hF
    unfold F_X5_deal_30 at hF
    refine ov_iload_n dX5_deal_30 2 rfl ?_
    refine ov_iload_n dX5_deal_31 1 rfl ?_
    refine ov_icmp_ge 48 dX5_deal_32 (by decide) hF (fun hF => ?_) (fun hF => ?_)
    · refine ov_iload_n dX5_deal_48 1 rfl ?_
      exact ov_ireturn dX5_deal_49 (Nat.le_refl _) (Nat.le_refl _) ⟨rfl, trivial, _, rfl, hF⟩
    · refine ov_aload_n dX5_deal_35 0 rfl ?_
      refine ov_getr (T := TX5) (kf := 1) dX5_deal_36 qf_X5_21 sh_0 rfl (Nat.le_of_ble_eq_true rfl) rfl (by decide) ?_
      refine ov_callV [] dX5_deal_39 (c_X3_drawThing hF) (Nat.le_of_ble_eq_true rfl) (Nat.le_of_ble_eq_true rfl) lk_X5_132 (ov_stk0 (by unfold ov_stk; decide)) rfl (Nat.le_of_ble_eq_true rfl) (Nat.le_refl _) (Nat.le_refl _) (fun rr σ2 hF => ?_)
      obtain ⟨rfl, hF⟩ := hF
      show vv_X5_deal k 42 [(0, .ref 0), (2, .int x2), (3, .int x3)] [] σ2
      refine ov_iinc dX5_deal_42 2 rfl (x3 + 1) rfl (Nat.le_of_ble_eq_true rfl) [(3, .int (x3 + 1)), (0, .ref 0), (2, .int x2)] rfl ?_
      refine ov_goto 30 dX5_deal_45 (by decide) ?_
      refine ov_pick [1, 2, 0] [(0, .ref 0), (2, .int x2), (3, .int (x3 + 1))] rfl ?_
      exact ih x2 (x3 + 1) σ2 hF
def F_X5_deal (x1 : Int32) (σ : ovSt) (k : Int32 → ovSt → Prop) : Prop := (F_X5_within x1 1 8 σ (fun v3 σ4 => (if v3 = 0 then (k (-1000000001) σ4) else (∀ v5 : Int32, v5 = (ov_min x1 (8 - (σ4 21 6))) → (∃ n6, F_X5_deal_30 k n6 v5 0 σ4)))))
set_option maxRecDepth 100000 in
set_option maxHeartbeats 4000000 in
theorem c_X5_deal {x1 : Int32} {σ : ovSt} {k : Int32 → ovSt → Prop} (hF : F_X5_deal x1 σ k) : ov_Ct 2 yX5_deal cX5_deal 4 (some .int) ov_S0 [.ref 0, .int x1] σ (ovKi k) := by
  refine ov_Ct.of (by decide) (Nat.le_of_ble_eq_true rfl) ?_
  unfold F_X5_deal at hF
  show vv_X5_deal k 0 [(0, .ref 0), (1, .int x1)] [] σ
  refine ov_iload_n dX5_deal_0 1 rfl ?_
  refine ov_iconst 1 (by decide) dX5_deal_1 ?_
  refine ov_bipush 8 (by decide) dX5_deal_2 ?_
  refine ov_callS [.int x1, .int 1, .int 8] dX5_deal_4 (c_X5_within hF) (Nat.le_of_ble_eq_true rfl) (Nat.le_of_ble_eq_true rfl) lk_X5_67 (Nat.le_of_ble_eq_true rfl) (Nat.le_refl _) (Nat.le_refl _) (fun rr σ4 hF => ?_)
  obtain ⟨v3, rfl, hF⟩ := hF
  show vv_X5_deal k 7 [(0, .ref 0), (1, .int x1)] [.int v3] σ4
  refine ov_if_ne 13 dX5_deal_7 (by decide) hF (fun hF => ?_) (fun hF => ?_)
  · refine ov_iload_n dX5_deal_13 1 rfl ?_
    refine ov_bipush 8 (by decide) dX5_deal_14 ?_
    refine ov_aload_n dX5_deal_16 0 rfl ?_
    refine ov_getr (T := TX5) (kf := 1) dX5_deal_17 qf_X5_21 sh_0 rfl (Nat.le_of_ble_eq_true rfl) rfl (by decide) ?_
    refine ov_geti (T := TX3) (kf := 6) dX5_deal_20 qf_X5_72 (ov_stk0 (by unfold ov_stk; decide)) rfl (Nat.le_of_ble_eq_true rfl) rfl ?_
    refine ov_isub dX5_deal_23 ?_
    refine ov_mmin dX5_deal_24 lk_X5_127 (Nat.le_of_ble_eq_true rfl) (Nat.le_of_ble_eq_true rfl) (Nat.le_refl _) (Nat.le_refl _) ?_
    refine ov_nmI (fun v5 ev5 => ?_)
    have hF := hF v5 ev5
    refine ov_istore_n dX5_deal_27 (Nat.le_of_ble_eq_true rfl) [(2, .int v5), (0, .ref 0), (1, .int x1)] rfl ?_
    refine ov_iconst 0 (by decide) dX5_deal_28 ?_
    refine ov_istore_n dX5_deal_29 (Nat.le_of_ble_eq_true rfl) [(3, .int 0), (2, .int v5), (0, .ref 0), (1, .int x1)] rfl ?_
    refine ov_pick [2, 1, 0] [(0, .ref 0), (2, .int v5), (3, .int 0)] rfl ?_
    obtain ⟨n6, hF⟩ := hF
    exact V_X5_deal_30 n6 v5 0 σ4 hF
  · refine ov_ldc dX5_deal_10 qc_X5_71 ?_
    exact ov_ireturn dX5_deal_12 (Nat.le_refl _) (Nat.le_refl _) ⟨rfl, trivial, _, rfl, hF⟩
/-! X5_seed -/
abbrev vv_X5_seed (k : Int32 → ovSt → Prop) (pc : Nat) (L : List (Nat × Value)) (st : List Value) (σ : ovSt) : Prop := ov_V (ovZs 0 yX5_seed cX5_seed 3) (ovKs (some .int) ov_S0 (ovKi k)) (0, 0) ov_S0 pc L st σ
def F_X5_seed (x1 : Int32) (σ : ovSt) (k : Int32 → ovSt → Prop) : Prop := (∀ v1 : Int32, v1 = (σ 21 12) → (∀ σ2 : ovSt, σ2 = ov_up σ 21 12 x1 → (k v1 σ2)))
set_option maxRecDepth 100000 in
set_option maxHeartbeats 4000000 in
theorem c_X5_seed {x1 : Int32} {σ : ovSt} {k : Int32 → ovSt → Prop} (hF : F_X5_seed x1 σ k) : ov_Ct 0 yX5_seed cX5_seed 3 (some .int) ov_S0 [.ref 0, .int x1] σ (ovKi k) := by
  refine ov_Ct.of (by decide) (Nat.le_of_ble_eq_true rfl) ?_
  unfold F_X5_seed at hF
  show vv_X5_seed k 0 [(0, .ref 0), (1, .int x1)] [] σ
  refine ov_aload_n dX5_seed_0 0 rfl ?_
  refine ov_getr (T := TX5) (kf := 1) dX5_seed_1 qf_X5_21 sh_0 rfl (Nat.le_of_ble_eq_true rfl) rfl (by decide) ?_
  refine ov_geti (T := TX3) (kf := 12) dX5_seed_4 qf_X5_135 (ov_stk0 (by unfold ov_stk; decide)) rfl (Nat.le_of_ble_eq_true rfl) rfl ?_
  refine ov_nmI (fun v1 ev1 => ?_)
  have hF := hF v1 ev1
  refine ov_istore_n dX5_seed_7 (Nat.le_of_ble_eq_true rfl) [(2, .int v1), (0, .ref 0), (1, .int x1)] rfl ?_
  refine ov_aload_n dX5_seed_8 1 rfl ?_
  refine ov_getr (T := TX5) (kf := 1) dX5_seed_9 qf_X5_21 sh_0 rfl (Nat.le_of_ble_eq_true rfl) rfl (by decide) ?_
  refine ov_iload_n dX5_seed_12 2 rfl ?_
  refine ov_puti (T := TX3) (kf := 12) dX5_seed_13 qf_X5_135 (ov_stk0 (by unfold ov_stk; decide)) rfl (Nat.le_of_ble_eq_true rfl) rfl rfl (by decide +kernel) ?_
  refine ov_nmS (fun σ2 es2 => ?_)
  have hF := hF σ2 es2
  refine ov_iload_n dX5_seed_16 0 rfl ?_
  exact ov_ireturn dX5_seed_17 (Nat.le_refl _) (Nat.le_refl _) ⟨rfl, trivial, _, rfl, hF⟩
/-! X5_pot -/
abbrev vv_X5_pot (k : Int32 → ovSt → Prop) (pc : Nat) (L : List (Nat × Value)) (st : List Value) (σ : ovSt) : Prop := ov_V (ovZs 1 yX5_pot cX5_pot 4) (ovKs (some .int) ov_S0 (ovKi k)) (0, 0) ov_S0 pc L st σ
def F_X5_pot_72 (k : Int32 → ovSt → Prop) (x3 : Int32) (σ : ovSt) : Prop := (k x3 σ)
set_option maxRecDepth 100000 in
set_option maxHeartbeats 4000000 in
theorem V_X5_pot_72 {k : Int32 → ovSt → Prop} (x3 : Int32) (σ : ovSt) (hF : F_X5_pot_72 k x3 σ) : vv_X5_pot k 72 [(3, .int x3)] [] σ := by
  unfold F_X5_pot_72 at hF
  refine ov_iload_n dX5_pot_72 0 rfl ?_
  exact ov_ireturn dX5_pot_73 (Nat.le_refl _) (Nat.le_refl _) ⟨rfl, trivial, _, rfl, hF⟩
def F_X5_pot_69 (k : Int32 → ovSt → Prop) (σ : ovSt) : Prop := (F_X5_pot_72 k (-1000000001) σ)
set_option maxRecDepth 100000 in
set_option maxHeartbeats 4000000 in
theorem V_X5_pot_69 {k : Int32 → ovSt → Prop} (σ : ovSt) (hF : F_X5_pot_69 k σ) : vv_X5_pot k 69 [] [] σ := by
  unfold F_X5_pot_69 at hF
  refine ov_ldc dX5_pot_69 qc_X5_71 ?_
  refine ov_istore_n dX5_pot_71 (Nat.le_of_ble_eq_true rfl) [(3, .int (-1000000001))] rfl ?_
  exact V_X5_pot_72 (-1000000001) σ hF
def F_X5_pot_34 (k : Int32 → ovSt → Prop) (x1 : Int32) (x2 : Int32) (σ : ovSt) : Prop := (if x1 = (1 : Int32) then (F_X5_within x2 0 999 σ (fun v1 σ2 => (if v1 = 0 then (F_X5_pot_69 k σ2) else (∀ v3 : Int32, v3 = (σ2 21 8) → (∀ σ4 : ovSt, σ4 = ov_up σ2 21 8 x2 → (F_X5_pot_72 k v3 σ4)))))) else (F_X5_pot_69 k σ))
set_option maxRecDepth 100000 in
set_option maxHeartbeats 4000000 in
theorem V_X5_pot_34 {k : Int32 → ovSt → Prop} (x1 : Int32) (x2 : Int32) (σ : ovSt) (hF : F_X5_pot_34 k x1 x2 σ) : vv_X5_pot k 34 [(0, .ref 0), (1, .int x1), (2, .int x2)] [] σ := by
  unfold F_X5_pot_34 at hF
  refine ov_iload_n dX5_pot_34 1 rfl ?_
  refine ov_iconst 1 (by decide) dX5_pot_35 ?_
  refine ov_icmp_ne 69 dX5_pot_36 (by decide) hF (fun hF => ?_) (fun hF => ?_)
  · refine ov_pick [] [] rfl ?_
    exact V_X5_pot_69 σ hF
  · refine ov_iload_n dX5_pot_39 2 rfl ?_
    refine ov_iconst 0 (by decide) dX5_pot_40 ?_
    refine ov_sipush 999 (by decide) dX5_pot_41 ?_
    refine ov_callS [.int x2, .int 0, .int 999] dX5_pot_44 (c_X5_within hF) (Nat.le_of_ble_eq_true rfl) (Nat.le_of_ble_eq_true rfl) lk_X5_67 (Nat.le_of_ble_eq_true rfl) (Nat.le_refl _) (Nat.le_refl _) (fun rr σ2 hF => ?_)
    obtain ⟨v1, rfl, hF⟩ := hF
    show vv_X5_pot k 47 [(0, .ref 0), (1, .int x1), (2, .int x2)] [.int v1] σ2
    refine ov_if_eq 69 dX5_pot_47 (by decide) hF (fun hF => ?_) (fun hF => ?_)
    · refine ov_pick [] [] rfl ?_
      exact V_X5_pot_69 σ2 hF
    · refine ov_aload_n dX5_pot_50 0 rfl ?_
      refine ov_getr (T := TX5) (kf := 1) dX5_pot_51 qf_X5_21 sh_0 rfl (Nat.le_of_ble_eq_true rfl) rfl (by decide) ?_
      refine ov_geti (T := TX3) (kf := 8) dX5_pot_54 qf_X5_141 (ov_stk0 (by unfold ov_stk; decide)) rfl (Nat.le_of_ble_eq_true rfl) rfl ?_
      refine ov_nmI (fun v3 ev3 => ?_)
      have hF := hF v3 ev3
      refine ov_istore_n dX5_pot_57 (Nat.le_of_ble_eq_true rfl) [(3, .int v3), (0, .ref 0), (1, .int x1), (2, .int x2)] rfl ?_
      refine ov_aload_n dX5_pot_58 1 rfl ?_
      refine ov_getr (T := TX5) (kf := 1) dX5_pot_59 qf_X5_21 sh_0 rfl (Nat.le_of_ble_eq_true rfl) rfl (by decide) ?_
      refine ov_iload_n dX5_pot_62 3 rfl ?_
      refine ov_puti (T := TX3) (kf := 8) dX5_pot_63 qf_X5_141 (ov_stk0 (by unfold ov_stk; decide)) rfl (Nat.le_of_ble_eq_true rfl) rfl rfl (by decide +kernel) ?_
      refine ov_nmS (fun σ4 es4 => ?_)
      have hF := hF σ4 es4
      refine ov_goto 72 dX5_pot_66 (by decide) ?_
      refine ov_pick [0] [(3, .int v3)] rfl ?_
      exact V_X5_pot_72 v3 σ4 hF
def F_X5_pot (x1 : Int32) (x2 : Int32) (σ : ovSt) (k : Int32 → ovSt → Prop) : Prop := (if x1 = 0 then (F_X5_within x2 1 999 σ (fun v5 σ6 => (if v5 = 0 then (F_X5_pot_34 k x1 x2 σ6) else (∀ v7 : Int32, v7 = (σ6 21 7) → (∀ σ8 : ovSt, σ8 = ov_up σ6 21 7 x2 → (F_X5_pot_72 k v7 σ8)))))) else (F_X5_pot_34 k x1 x2 σ))
set_option maxRecDepth 100000 in
set_option maxHeartbeats 4000000 in
theorem c_X5_pot {x1 : Int32} {x2 : Int32} {σ : ovSt} {k : Int32 → ovSt → Prop} (hF : F_X5_pot x1 x2 σ k) : ov_Ct 1 yX5_pot cX5_pot 4 (some .int) ov_S0 [.ref 0, .int x1, .int x2] σ (ovKi k) := by
  refine ov_Ct.of (by decide) (Nat.le_of_ble_eq_true rfl) ?_
  unfold F_X5_pot at hF
  show vv_X5_pot k 0 [(0, .ref 0), (1, .int x1), (2, .int x2)] [] σ
  refine ov_iload_n dX5_pot_0 1 rfl ?_
  refine ov_if_ne 34 dX5_pot_1 (by decide) hF (fun hF => ?_) (fun hF => ?_)
  · exact V_X5_pot_34 x1 x2 σ hF
  · refine ov_iload_n dX5_pot_4 2 rfl ?_
    refine ov_iconst 1 (by decide) dX5_pot_5 ?_
    refine ov_sipush 999 (by decide) dX5_pot_6 ?_
    refine ov_callS [.int x2, .int 1, .int 999] dX5_pot_9 (c_X5_within hF) (Nat.le_of_ble_eq_true rfl) (Nat.le_of_ble_eq_true rfl) lk_X5_67 (Nat.le_of_ble_eq_true rfl) (Nat.le_refl _) (Nat.le_refl _) (fun rr σ6 hF => ?_)
    obtain ⟨v5, rfl, hF⟩ := hF
    show vv_X5_pot k 12 [(0, .ref 0), (1, .int x1), (2, .int x2)] [.int v5] σ6
    refine ov_if_eq 34 dX5_pot_12 (by decide) hF (fun hF => ?_) (fun hF => ?_)
    · exact V_X5_pot_34 x1 x2 σ6 hF
    · refine ov_aload_n dX5_pot_15 0 rfl ?_
      refine ov_getr (T := TX5) (kf := 1) dX5_pot_16 qf_X5_21 sh_0 rfl (Nat.le_of_ble_eq_true rfl) rfl (by decide) ?_
      refine ov_geti (T := TX3) (kf := 7) dX5_pot_19 qf_X5_138 (ov_stk0 (by unfold ov_stk; decide)) rfl (Nat.le_of_ble_eq_true rfl) rfl ?_
      refine ov_nmI (fun v7 ev7 => ?_)
      have hF := hF v7 ev7
      refine ov_istore_n dX5_pot_22 (Nat.le_of_ble_eq_true rfl) [(3, .int v7), (0, .ref 0), (1, .int x1), (2, .int x2)] rfl ?_
      refine ov_aload_n dX5_pot_23 1 rfl ?_
      refine ov_getr (T := TX5) (kf := 1) dX5_pot_24 qf_X5_21 sh_0 rfl (Nat.le_of_ble_eq_true rfl) rfl (by decide) ?_
      refine ov_iload_n dX5_pot_27 3 rfl ?_
      refine ov_puti (T := TX3) (kf := 7) dX5_pot_28 qf_X5_138 (ov_stk0 (by unfold ov_stk; decide)) rfl (Nat.le_of_ble_eq_true rfl) rfl rfl (by decide +kernel) ?_
      refine ov_nmS (fun σ8 es8 => ?_)
      have hF := hF σ8 es8
      refine ov_goto 72 dX5_pot_31 (by decide) ?_
      refine ov_pick [0] [(3, .int v7)] rfl ?_
      exact V_X5_pot_72 v7 σ8 hF
/-! X5_days -/
abbrev vv_X5_days (k : Int32 → ovSt → Prop) (pc : Nat) (L : List (Nat × Value)) (st : List Value) (σ : ovSt) : Prop := ov_V (ovZs 6 yX5_days cX5_days 2) (ovKs (some .int) ov_S0 (ovKi k)) (0, 0) ov_S0 pc L st σ
def F_X5_days (x1 : Int32) (σ : ovSt) (k : Int32 → ovSt → Prop) : Prop := (F_X5_within x1 1 300 σ (fun v1 σ2 => (if v1 = 0 then (k (-1000000001) σ2) else (F_X3_passDays 21 (ov_min x1 (9999 - (σ2 21 9))) σ2 (fun σ4 => (F_X3_tasteOfAll 21 σ4 (fun v5 σ6 => (k v5 σ6))))))))
set_option maxRecDepth 100000 in
set_option maxHeartbeats 4000000 in
theorem c_X5_days {x1 : Int32} {σ : ovSt} {k : Int32 → ovSt → Prop} (hF : F_X5_days x1 σ k) : ov_Ct 6 yX5_days cX5_days 2 (some .int) ov_S0 [.ref 0, .int x1] σ (ovKi k) := by
  refine ov_Ct.of (by decide) (Nat.le_of_ble_eq_true rfl) ?_
  unfold F_X5_days at hF
  show vv_X5_days k 0 [(0, .ref 0), (1, .int x1)] [] σ
  refine ov_iload_n dX5_days_0 1 rfl ?_
  refine ov_iconst 1 (by decide) dX5_days_1 ?_
  refine ov_sipush 300 (by decide) dX5_days_2 ?_
  refine ov_callS [.int x1, .int 1, .int 300] dX5_days_5 (c_X5_within hF) (Nat.le_of_ble_eq_true rfl) (Nat.le_of_ble_eq_true rfl) lk_X5_67 (Nat.le_of_ble_eq_true rfl) (Nat.le_refl _) (Nat.le_refl _) (fun rr σ2 hF => ?_)
  obtain ⟨v1, rfl, hF⟩ := hF
  show vv_X5_days k 8 [(0, .ref 0), (1, .int x1)] [.int v1] σ2
  refine ov_if_ne 14 dX5_days_8 (by decide) hF (fun hF => ?_) (fun hF => ?_)
  · refine ov_aload_n dX5_days_14 0 rfl ?_
    refine ov_getr (T := TX5) (kf := 1) dX5_days_15 qf_X5_21 sh_0 rfl (Nat.le_of_ble_eq_true rfl) rfl (by decide) ?_
    refine ov_iload_n dX5_days_18 1 rfl ?_
    refine ov_sipush 9999 (by decide) dX5_days_19 ?_
    refine ov_aload_n dX5_days_22 0 rfl ?_
    refine ov_getr (T := TX5) (kf := 1) dX5_days_23 qf_X5_21 sh_0 rfl (Nat.le_of_ble_eq_true rfl) rfl (by decide) ?_
    refine ov_geti (T := TX3) (kf := 9) dX5_days_26 qf_X5_144 (ov_stk0 (by unfold ov_stk; decide)) rfl (Nat.le_of_ble_eq_true rfl) rfl ?_
    refine ov_isub dX5_days_29 ?_
    refine ov_mmin dX5_days_30 lk_X5_127 (Nat.le_of_ble_eq_true rfl) (Nat.le_of_ble_eq_true rfl) (Nat.le_refl _) (Nat.le_refl _) ?_
    refine ov_callV [.int (ov_min x1 (9999 - (σ2 21 9)))] dX5_days_33 (c_X3_passDays hF) (Nat.le_of_ble_eq_true rfl) (Nat.le_of_ble_eq_true rfl) lk_X5_147 (ov_stk0 (by unfold ov_stk; decide)) rfl (Nat.le_of_ble_eq_true rfl) (Nat.le_refl _) (Nat.le_refl _) (fun rr σ4 hF => ?_)
    obtain ⟨rfl, hF⟩ := hF
    show vv_X5_days k 36 [(0, .ref 0), (1, .int x1)] [] σ4
    refine ov_aload_n dX5_days_36 0 rfl ?_
    refine ov_getr (T := TX5) (kf := 1) dX5_days_37 qf_X5_21 sh_0 rfl (Nat.le_of_ble_eq_true rfl) rfl (by decide) ?_
    refine ov_callV [] dX5_days_40 (c_X3_tasteOfAll hF) (Nat.le_of_ble_eq_true rfl) (Nat.le_of_ble_eq_true rfl) lk_X5_151 (ov_stk0 (by unfold ov_stk; decide)) rfl (Nat.le_of_ble_eq_true rfl) (Nat.le_refl _) (Nat.le_refl _) (fun rr σ6 hF => ?_)
    obtain ⟨v5, rfl, hF⟩ := hF
    show vv_X5_days k 43 [(0, .ref 0), (1, .int x1)] [.int v5] σ6
    exact ov_ireturn dX5_days_43 (Nat.le_refl _) (Nat.le_refl _) ⟨rfl, trivial, _, rfl, hF⟩
  · refine ov_ldc dX5_days_11 qc_X5_71 ?_
    exact ov_ireturn dX5_days_13 (Nat.le_refl _) (Nat.le_refl _) ⟨rfl, trivial, _, rfl, hF⟩
/-! X5_taste -/
abbrev vv_X5_taste (k : Int32 → ovSt → Prop) (pc : Nat) (L : List (Nat × Value)) (st : List Value) (σ : ovSt) : Prop := ov_V (ovZs 5 yX5_taste cX5_taste 1) (ovKs (some .int) ov_S0 (ovKi k)) (0, 0) ov_S0 pc L st σ
def F_X5_taste (σ : ovSt) (k : Int32 → ovSt → Prop) : Prop := (F_X3_tasteOfAll 21 σ (fun v1 σ2 => (k v1 σ2)))
set_option maxRecDepth 100000 in
set_option maxHeartbeats 4000000 in
theorem c_X5_taste {σ : ovSt} {k : Int32 → ovSt → Prop} (hF : F_X5_taste σ k) : ov_Ct 5 yX5_taste cX5_taste 1 (some .int) ov_S0 [.ref 0] σ (ovKi k) := by
  refine ov_Ct.of (by decide) (Nat.le_of_ble_eq_true rfl) ?_
  unfold F_X5_taste at hF
  show vv_X5_taste k 0 [(0, .ref 0)] [] σ
  refine ov_aload_n dX5_taste_0 0 rfl ?_
  refine ov_getr (T := TX5) (kf := 1) dX5_taste_1 qf_X5_21 sh_0 rfl (Nat.le_of_ble_eq_true rfl) rfl (by decide) ?_
  refine ov_callV [] dX5_taste_4 (c_X3_tasteOfAll hF) (Nat.le_of_ble_eq_true rfl) (Nat.le_of_ble_eq_true rfl) lk_X5_151 (ov_stk0 (by unfold ov_stk; decide)) rfl (Nat.le_of_ble_eq_true rfl) (Nat.le_refl _) (Nat.le_refl _) (fun rr σ2 hF => ?_)
  obtain ⟨v1, rfl, hF⟩ := hF
  show vv_X5_taste k 7 [(0, .ref 0)] [.int v1] σ2
  exact ov_ireturn dX5_taste_7 (Nat.le_refl _) (Nat.le_refl _) ⟨rfl, trivial, _, rfl, hF⟩
/-! X5_grams -/
abbrev vv_X5_grams (k : Int32 → ovSt → Prop) (pc : Nat) (L : List (Nat × Value)) (st : List Value) (σ : ovSt) : Prop := ov_V (ovZs 1 yX5_grams cX5_grams 2) (ovKs (some .int) ov_S0 (ovKi k)) (0, 0) ov_S0 pc L st σ
def F_X5_grams (x1 : Int32) (σ : ovSt) (k : Int32 → ovSt → Prop) : Prop := (if x1 = 0 then (k (σ 21 10) σ) else (if x1 = 1 then (k (σ 21 11) σ) else (if x1 = 2 then (F_X3_amountOfAll 21 σ (fun v4 σ5 => (k v4 σ5))) else (k (-1000000001) σ))))
set_option maxRecDepth 100000 in
set_option maxHeartbeats 4000000 in
theorem c_X5_grams {x1 : Int32} {σ : ovSt} {k : Int32 → ovSt → Prop} (hF : F_X5_grams x1 σ k) : ov_Ct 1 yX5_grams cX5_grams 2 (some .int) ov_S0 [.ref 0, .int x1] σ (ovKi k) := by
  refine ov_Ct.of (by decide) (Nat.le_of_ble_eq_true rfl) ?_
  unfold F_X5_grams at hF
  show vv_X5_grams k 0 [(0, .ref 0), (1, .int x1)] [] σ
  refine ov_iload_n dX5_grams_0 1 rfl ?_
  refine ov_br hF (fun z1 hF => ?_) (fun z1 hF => ?_)
  · refine ov_tin 0 27 28 dX5_grams_1 z1 (by decide) (by decide) rfl (by decide) ?_
    refine ov_aload_n dX5_grams_28 0 rfl ?_
    refine ov_getr (T := TX5) (kf := 1) dX5_grams_29 qf_X5_21 sh_0 rfl (Nat.le_of_ble_eq_true rfl) rfl (by decide) ?_
    refine ov_geti (T := TX3) (kf := 10) dX5_grams_32 qf_X5_155 (ov_stk0 (by unfold ov_stk; decide)) rfl (Nat.le_of_ble_eq_true rfl) rfl ?_
    exact ov_ireturn dX5_grams_35 (Nat.le_refl _) (Nat.le_refl _) ⟨rfl, trivial, _, rfl, hF⟩
  · refine ov_br hF (fun z2 hF => ?_) (fun z2 hF => ?_)
    · refine ov_tin 1 35 36 dX5_grams_1 z2 (by decide) (by decide) rfl (by decide) ?_
      refine ov_aload_n dX5_grams_36 0 rfl ?_
      refine ov_getr (T := TX5) (kf := 1) dX5_grams_37 qf_X5_21 sh_0 rfl (Nat.le_of_ble_eq_true rfl) rfl (by decide) ?_
      refine ov_geti (T := TX3) (kf := 11) dX5_grams_40 qf_X5_158 (ov_stk0 (by unfold ov_stk; decide)) rfl (Nat.le_of_ble_eq_true rfl) rfl ?_
      exact ov_ireturn dX5_grams_43 (Nat.le_refl _) (Nat.le_refl _) ⟨rfl, trivial, _, rfl, hF⟩
    · refine ov_br hF (fun z3 hF => ?_) (fun z3 hF => ?_)
      · refine ov_tin 2 43 44 dX5_grams_1 z3 (by decide) (by decide) rfl (by decide) ?_
        refine ov_aload_n dX5_grams_44 0 rfl ?_
        refine ov_getr (T := TX5) (kf := 1) dX5_grams_45 qf_X5_21 sh_0 rfl (Nat.le_of_ble_eq_true rfl) rfl (by decide) ?_
        refine ov_callV [] dX5_grams_48 (c_X3_amountOfAll hF) (Nat.le_of_ble_eq_true rfl) (Nat.le_of_ble_eq_true rfl) lk_X5_161 (ov_stk0 (by unfold ov_stk; decide)) rfl (Nat.le_of_ble_eq_true rfl) (Nat.le_refl _) (Nat.le_refl _) (fun rr σ5 hF => ?_)
        obtain ⟨v4, rfl, hF⟩ := hF
        show vv_X5_grams k 51 [(0, .ref 0), (1, .int x1)] [.int v4] σ5
        exact ov_ireturn dX5_grams_51 (Nat.le_refl _) (Nat.le_refl _) ⟨rfl, trivial, _, rfl, hF⟩
      · refine ov_tout 52 dX5_grams_1 (by have q0 := lv_neT (k := 0) (a := 0) z1 rfl; have q1 := lv_neT (k := 1) (a := 1) z2 rfl; have q2 := lv_neT (k := 2) (a := 2) z3 rfl; omega) (by decide) ?_
        refine ov_ldc dX5_grams_52 qc_X5_71 ?_
        exact ov_ireturn dX5_grams_54 (Nat.le_refl _) (Nat.le_refl _) ⟨rfl, trivial, _, rfl, hF⟩
/-! X5_lot -/
abbrev vv_X5_lot (k : Int32 → ovSt → Prop) (pc : Nat) (L : List (Nat × Value)) (st : List Value) (σ : ovSt) : Prop := ov_V (ovZs 5 yX5_lot cX5_lot 2) (ovKs (some .int) ov_S0 (ovKi k)) (0, 0) ov_S0 pc L st σ
def F_X5_lot_41 (k : Int32 → ovSt → Prop) (t0 : Int32) (σ : ovSt) : Prop := (k t0 σ)
set_option maxRecDepth 100000 in
set_option maxHeartbeats 4000000 in
theorem V_X5_lot_41 {k : Int32 → ovSt → Prop} (t0 : Int32) (σ : ovSt) (hF : F_X5_lot_41 k t0 σ) : vv_X5_lot k 41 [] [.int t0] σ := by
  unfold F_X5_lot_41 at hF
  exact ov_ireturn dX5_lot_41 (Nat.le_refl _) (Nat.le_refl _) ⟨rfl, trivial, _, rfl, hF⟩
def F_X5_lot (σ : ovSt) (k : Int32 → ovSt → Prop) : Prop := (vp_in 2 3 ∧ (∀ v2 : Int32, v2 = (σ 26 (Int32.toNatClampNeg 2)) → (if 0 ≤ v2 then (F_X3_tasteOfAll 21 σ (fun v3 σ4 => (F_X0_workOut v2 (σ 21 9) v3 0 σ4 (fun v5 σ6 => (F_X5_lot_41 k v5 σ6))))) else (F_X5_lot_41 k 0 σ))))
set_option maxRecDepth 100000 in
set_option maxHeartbeats 4000000 in
theorem c_X5_lot {σ : ovSt} {k : Int32 → ovSt → Prop} (hF : F_X5_lot σ k) : ov_Ct 5 yX5_lot cX5_lot 2 (some .int) ov_S0 [.ref 0] σ (ovKi k) := by
  refine ov_Ct.of (by decide) (Nat.le_of_ble_eq_true rfl) ?_
  unfold F_X5_lot at hF
  show vv_X5_lot k 0 [(0, .ref 0)] [] σ
  refine ov_aload_n dX5_lot_0 0 rfl ?_
  refine ov_getr (T := TX5) (kf := 1) dX5_lot_1 qf_X5_21 sh_0 rfl (Nat.le_of_ble_eq_true rfl) rfl (by decide) ?_
  refine ov_getr (T := TX3) (kf := 5) dX5_lot_4 qf_X5_164 (ov_stk0 (by unfold ov_stk; decide)) rfl (Nat.le_of_ble_eq_true rfl) rfl (by decide) ?_
  refine ov_iconst 2 (by decide) dX5_lot_7 ?_
  have h1 := hF.1
  have hF := hF.2
  refine ov_iaload dX5_lot_8 sh_26 h1 ?_
  refine ov_nmI (fun v2 ev2 => ?_)
  have hF := hF v2 ev2
  refine ov_istore_n dX5_lot_9 (Nat.le_of_ble_eq_true rfl) [(1, .int v2), (0, .ref 0)] rfl ?_
  refine ov_iload_n dX5_lot_10 0 rfl ?_
  refine ov_if_ge 18 dX5_lot_11 (by decide) hF (fun hF => ?_) (fun hF => ?_)
  · refine ov_aload_n dX5_lot_18 1 rfl ?_
    refine ov_getr (T := TX5) (kf := 0) dX5_lot_19 qf_X5_10 sh_0 rfl (Nat.le_of_ble_eq_true rfl) rfl (by decide) ?_
    refine ov_iload_n dX5_lot_22 0 rfl ?_
    refine ov_aload_n dX5_lot_23 1 rfl ?_
    refine ov_getr (T := TX5) (kf := 1) dX5_lot_24 qf_X5_21 sh_0 rfl (Nat.le_of_ble_eq_true rfl) rfl (by decide) ?_
    refine ov_geti (T := TX3) (kf := 9) dX5_lot_27 qf_X5_144 (ov_stk0 (by unfold ov_stk; decide)) rfl (Nat.le_of_ble_eq_true rfl) rfl ?_
    refine ov_aload_n dX5_lot_30 1 rfl ?_
    refine ov_getr (T := TX5) (kf := 1) dX5_lot_31 qf_X5_21 sh_0 rfl (Nat.le_of_ble_eq_true rfl) rfl (by decide) ?_
    refine ov_callV [] dX5_lot_34 (c_X3_tasteOfAll hF) (Nat.le_of_ble_eq_true rfl) (Nat.le_of_ble_eq_true rfl) lk_X5_151 (ov_stk0 (by unfold ov_stk; decide)) rfl (Nat.le_of_ble_eq_true rfl) (Nat.le_refl _) (Nat.le_refl _) (fun rr σ4 hF => ?_)
    obtain ⟨v3, rfl, hF⟩ := hF
    show vv_X5_lot k 37 [(1, .int v2), (0, .ref 0)] [.int v3, .int (σ 21 9), .int v2, .ref 1] σ4
    refine ov_iconst 0 (by decide) dX5_lot_37 ?_
    refine ov_callV [.int v2, .int (σ 21 9), .int v3, .int 0] dX5_lot_38 (c_X0_workOut hF) (Nat.le_of_ble_eq_true rfl) (Nat.le_of_ble_eq_true rfl) lk_X5_167 sh_1 rfl (Nat.le_of_ble_eq_true rfl) (Nat.le_refl _) (Nat.le_refl _) (fun rr σ6 hF => ?_)
    obtain ⟨v5, rfl, hF⟩ := hF
    show vv_X5_lot k 41 [(1, .int v2), (0, .ref 0)] [.int v5] σ6
    refine ov_pick [] [] rfl ?_
    exact V_X5_lot_41 v5 σ6 hF
  · refine ov_iconst 0 (by decide) dX5_lot_14 ?_
    refine ov_goto 41 dX5_lot_15 (by decide) ?_
    refine ov_pick [] [] rfl ?_
    exact V_X5_lot_41 0 σ hF
/-! X5_behind -/
abbrev vv_X5_behind (k : Int32 → ovSt → Prop) (pc : Nat) (L : List (Nat × Value)) (st : List Value) (σ : ovSt) : Prop := ov_V (ovZs 6 yX5_behind cX5_behind 4) (ovKs (some .int) ov_S0 (ovKi k)) (0, 0) ov_S0 pc L st σ
def F_X5_behind_31 (k : Int32 → ovSt → Prop) (σ : ovSt) : Prop := (k (-1000000001) σ)
set_option maxRecDepth 100000 in
set_option maxHeartbeats 4000000 in
theorem V_X5_behind_31 {k : Int32 → ovSt → Prop} (σ : ovSt) (hF : F_X5_behind_31 k σ) : vv_X5_behind k 31 [] [] σ := by
  unfold F_X5_behind_31 at hF
  refine ov_ldc dX5_behind_31 qc_X5_71 ?_
  exact ov_ireturn dX5_behind_33 (Nat.le_refl _) (Nat.le_refl _) ⟨rfl, trivial, _, rfl, hF⟩
def F_X5_behind (x1 : Int32) (x2 : Int32) (x3 : Int32) (σ : ovSt) (k : Int32 → ovSt → Prop) : Prop := (F_X3_has 21 x1 σ (fun v1 σ2 => (if v1 = 0 then (F_X5_behind_31 k σ2) else (F_X5_within x2 0 300 σ2 (fun v3 σ4 => (if v3 = 0 then (F_X5_behind_31 k σ4) else (F_X5_within x3 0 3 σ4 (fun v5 σ6 => (if v5 = 0 then (F_X5_behind_31 k σ6) else (F_X3_become 33 21 σ6 (fun σ8 => (F_X3_passDays 33 x2 σ8 (fun σ10 => (if x3 = 0 then (vp_in x1 8 ∧ (k (σ10 36 (Int32.toNatClampNeg x1)) σ10)) else (if x3 = 1 then (F_X3_tasteOf 33 x1 σ10 (fun v16 σ17 => (k v16 σ17))) else (if x3 = 2 then (F_X3_tasteOfAll 33 σ10 (fun v14 σ15 => (k v14 σ15))) else (k (σ10 33 10) σ10)))))))))))))))))
set_option maxRecDepth 100000 in
set_option maxHeartbeats 4000000 in
theorem c_X5_behind {x1 : Int32} {x2 : Int32} {x3 : Int32} {σ : ovSt} {k : Int32 → ovSt → Prop} (hF : F_X5_behind x1 x2 x3 σ k) : ov_Ct 6 yX5_behind cX5_behind 4 (some .int) ov_S0 [.ref 0, .int x1, .int x2, .int x3] σ (ovKi k) := by
  refine ov_Ct.of (by decide) (Nat.le_of_ble_eq_true rfl) ?_
  unfold F_X5_behind at hF
  show vv_X5_behind k 0 [(0, .ref 0), (1, .int x1), (2, .int x2), (3, .int x3)] [] σ
  refine ov_aload_n dX5_behind_0 0 rfl ?_
  refine ov_getr (T := TX5) (kf := 1) dX5_behind_1 qf_X5_21 sh_0 rfl (Nat.le_of_ble_eq_true rfl) rfl (by decide) ?_
  refine ov_iload_n dX5_behind_4 1 rfl ?_
  refine ov_callV [.int x1] dX5_behind_5 (c_X3_has hF) (Nat.le_of_ble_eq_true rfl) (Nat.le_of_ble_eq_true rfl) lk_X5_80 (ov_stk0 (by unfold ov_stk; decide)) rfl (Nat.le_of_ble_eq_true rfl) (Nat.le_refl _) (Nat.le_refl _) (fun rr σ2 hF => ?_)
  obtain ⟨v1, rfl, hF⟩ := hF
  show vv_X5_behind k 8 [(0, .ref 0), (1, .int x1), (2, .int x2), (3, .int x3)] [.int v1] σ2
  refine ov_if_eq 31 dX5_behind_8 (by decide) hF (fun hF => ?_) (fun hF => ?_)
  · refine ov_pick [] [] rfl ?_
    exact V_X5_behind_31 σ2 hF
  · refine ov_iload_n dX5_behind_11 2 rfl ?_
    refine ov_iconst 0 (by decide) dX5_behind_12 ?_
    refine ov_sipush 300 (by decide) dX5_behind_13 ?_
    refine ov_callS [.int x2, .int 0, .int 300] dX5_behind_16 (c_X5_within hF) (Nat.le_of_ble_eq_true rfl) (Nat.le_of_ble_eq_true rfl) lk_X5_67 (Nat.le_of_ble_eq_true rfl) (Nat.le_refl _) (Nat.le_refl _) (fun rr σ4 hF => ?_)
    obtain ⟨v3, rfl, hF⟩ := hF
    show vv_X5_behind k 19 [(0, .ref 0), (1, .int x1), (2, .int x2), (3, .int x3)] [.int v3] σ4
    refine ov_if_eq 31 dX5_behind_19 (by decide) hF (fun hF => ?_) (fun hF => ?_)
    · refine ov_pick [] [] rfl ?_
      exact V_X5_behind_31 σ4 hF
    · refine ov_iload_n dX5_behind_22 3 rfl ?_
      refine ov_iconst 0 (by decide) dX5_behind_23 ?_
      refine ov_iconst 3 (by decide) dX5_behind_24 ?_
      refine ov_callS [.int x3, .int 0, .int 3] dX5_behind_25 (c_X5_within hF) (Nat.le_of_ble_eq_true rfl) (Nat.le_of_ble_eq_true rfl) lk_X5_67 (Nat.le_of_ble_eq_true rfl) (Nat.le_refl _) (Nat.le_refl _) (fun rr σ6 hF => ?_)
      obtain ⟨v5, rfl, hF⟩ := hF
      show vv_X5_behind k 28 [(0, .ref 0), (1, .int x1), (2, .int x2), (3, .int x3)] [.int v5] σ6
      refine ov_if_ne 34 dX5_behind_28 (by decide) hF (fun hF => ?_) (fun hF => ?_)
      · refine ov_aload_n dX5_behind_34 0 rfl ?_
        refine ov_getr (T := TX5) (kf := 3) dX5_behind_35 qf_X5_28 sh_0 rfl (Nat.le_of_ble_eq_true rfl) rfl (by decide) ?_
        refine ov_aload_n dX5_behind_38 0 rfl ?_
        refine ov_getr (T := TX5) (kf := 1) dX5_behind_39 qf_X5_21 sh_0 rfl (Nat.le_of_ble_eq_true rfl) rfl (by decide) ?_
        refine ov_callV [.ref 21] dX5_behind_42 (c_X3_become hF) (Nat.le_of_ble_eq_true rfl) (Nat.le_of_ble_eq_true rfl) lk_X5_171 (ov_stk0 (by unfold ov_stk; decide)) rfl (Nat.le_of_ble_eq_true rfl) (Nat.le_refl _) (Nat.le_refl _) (fun rr σ8 hF => ?_)
        obtain ⟨rfl, hF⟩ := hF
        show vv_X5_behind k 45 [(0, .ref 0), (1, .int x1), (2, .int x2), (3, .int x3)] [] σ8
        refine ov_aload_n dX5_behind_45 0 rfl ?_
        refine ov_getr (T := TX5) (kf := 3) dX5_behind_46 qf_X5_28 sh_0 rfl (Nat.le_of_ble_eq_true rfl) rfl (by decide) ?_
        refine ov_iload_n dX5_behind_49 2 rfl ?_
        refine ov_callV [.int x2] dX5_behind_50 (c_X3_passDays hF) (Nat.le_of_ble_eq_true rfl) (Nat.le_of_ble_eq_true rfl) lk_X5_147 (ov_stk0 (by unfold ov_stk; decide)) rfl (Nat.le_of_ble_eq_true rfl) (Nat.le_refl _) (Nat.le_refl _) (fun rr σ10 hF => ?_)
        obtain ⟨rfl, hF⟩ := hF
        show vv_X5_behind k 53 [(0, .ref 0), (1, .int x1), (2, .int x2), (3, .int x3)] [] σ10
        refine ov_iload_n dX5_behind_53 3 rfl ?_
        refine ov_br hF (fun z11 hF => ?_) (fun z11 hF => ?_)
        · refine ov_tin 0 26 80 dX5_behind_54 z11 (by decide) (by decide) rfl (by decide) ?_
          refine ov_aload_n dX5_behind_80 0 rfl ?_
          refine ov_getr (T := TX5) (kf := 3) dX5_behind_81 qf_X5_28 sh_0 rfl (Nat.le_of_ble_eq_true rfl) rfl (by decide) ?_
          refine ov_getr (T := TX3) (kf := 3) dX5_behind_84 qf_X5_88 (ov_stk0 (by unfold ov_stk; decide)) rfl (Nat.le_of_ble_eq_true rfl) rfl (by decide) ?_
          refine ov_iload_n dX5_behind_87 1 rfl ?_
          have h18 := hF.1
          have hF := hF.2
          refine ov_iaload dX5_behind_88 sh_36 h18 ?_
          exact ov_ireturn dX5_behind_89 (Nat.le_refl _) (Nat.le_refl _) ⟨rfl, trivial, _, rfl, hF⟩
        · refine ov_br hF (fun z12 hF => ?_) (fun z12 hF => ?_)
          · refine ov_tin 1 36 90 dX5_behind_54 z12 (by decide) (by decide) rfl (by decide) ?_
            refine ov_aload_n dX5_behind_90 0 rfl ?_
            refine ov_getr (T := TX5) (kf := 3) dX5_behind_91 qf_X5_28 sh_0 rfl (Nat.le_of_ble_eq_true rfl) rfl (by decide) ?_
            refine ov_iload_n dX5_behind_94 1 rfl ?_
            refine ov_callV [.int x1] dX5_behind_95 (c_X3_tasteOf hF) (Nat.le_of_ble_eq_true rfl) (Nat.le_of_ble_eq_true rfl) lk_X5_100 (ov_stk0 (by unfold ov_stk; decide)) rfl (Nat.le_of_ble_eq_true rfl) (Nat.le_refl _) (Nat.le_refl _) (fun rr σ17 hF => ?_)
            obtain ⟨v16, rfl, hF⟩ := hF
            show vv_X5_behind k 98 [(0, .ref 0), (1, .int x1), (2, .int x2), (3, .int x3)] [.int v16] σ17
            exact ov_ireturn dX5_behind_98 (Nat.le_refl _) (Nat.le_refl _) ⟨rfl, trivial, _, rfl, hF⟩
          · refine ov_br hF (fun z13 hF => ?_) (fun z13 hF => ?_)
            · refine ov_tin 2 45 99 dX5_behind_54 z13 (by decide) (by decide) rfl (by decide) ?_
              refine ov_aload_n dX5_behind_99 0 rfl ?_
              refine ov_getr (T := TX5) (kf := 3) dX5_behind_100 qf_X5_28 sh_0 rfl (Nat.le_of_ble_eq_true rfl) rfl (by decide) ?_
              refine ov_callV [] dX5_behind_103 (c_X3_tasteOfAll hF) (Nat.le_of_ble_eq_true rfl) (Nat.le_of_ble_eq_true rfl) lk_X5_151 (ov_stk0 (by unfold ov_stk; decide)) rfl (Nat.le_of_ble_eq_true rfl) (Nat.le_refl _) (Nat.le_refl _) (fun rr σ15 hF => ?_)
              obtain ⟨v14, rfl, hF⟩ := hF
              show vv_X5_behind k 106 [(0, .ref 0), (1, .int x1), (2, .int x2), (3, .int x3)] [.int v14] σ15
              exact ov_ireturn dX5_behind_106 (Nat.le_refl _) (Nat.le_refl _) ⟨rfl, trivial, _, rfl, hF⟩
            · refine ov_tout 107 dX5_behind_54 (by have q0 := lv_neT (k := 0) (a := 0) z11 rfl; have q1 := lv_neT (k := 1) (a := 1) z12 rfl; have q2 := lv_neT (k := 2) (a := 2) z13 rfl; omega) (by decide) ?_
              refine ov_aload_n dX5_behind_107 0 rfl ?_
              refine ov_getr (T := TX5) (kf := 3) dX5_behind_108 qf_X5_28 sh_0 rfl (Nat.le_of_ble_eq_true rfl) rfl (by decide) ?_
              refine ov_geti (T := TX3) (kf := 10) dX5_behind_111 qf_X5_155 (ov_stk0 (by unfold ov_stk; decide)) rfl (Nat.le_of_ble_eq_true rfl) rfl ?_
              exact ov_ireturn dX5_behind_114 (Nat.le_refl _) (Nat.le_refl _) ⟨rfl, trivial, _, rfl, hF⟩
      · refine ov_pick [] [] rfl ?_
        exact V_X5_behind_31 σ6 hF
/-! X5_tasted -/
abbrev vv_X5_tasted (k : Int32 → ovSt → Prop) (pc : Nat) (L : List (Nat × Value)) (st : List Value) (σ : ovSt) : Prop := ov_V (ovZs 4 yX5_tasted cX5_tasted 3) (ovKs (some .int) ov_S0 (ovKi k)) (0, 0) ov_S0 pc L st σ
def F_X5_tasted_27 (k : Int32 → ovSt → Prop) : Nat → Int32 → Int32 → ovSt → Prop
  | 0 => fun _ _ _ => False
  | n + 1 => fun x1 x2 σ => (if (300 : Int32) < x2 then (k (-1000000005) σ) else (F_X3_tasteOf 33 x1 σ (fun v1 σ2 => (if v1 = 0 then (k x2 σ2) else (F_X3_passDayOf 33 x1 σ2 (fun σ4 => F_X5_tasted_27 k n x1 (x2 + 1) σ4))))))
set_option maxRecDepth 100000 in
set_option maxHeartbeats 4000000 in
theorem V_X5_tasted_27 {k : Int32 → ovSt → Prop} : ∀ (n : Nat) (x1 : Int32) (x2 : Int32) (σ : ovSt), F_X5_tasted_27 k n x1 x2 σ → vv_X5_tasted k 27 [(0, .ref 0), (1, .int x1), (2, .int x2)] [] σ := by
  intro n
  induction n with
  | zero => intro x1 x2 σ hF; exact hF.elim
  | succ n ih =>
    intro x1 x2 σ hF
    unfold F_X5_tasted_27 at hF
    refine ov_iload_n dX5_tasted_27 2 rfl ?_
    refine ov_sipush 300 (by decide) dX5_tasted_28 ?_
    refine ov_icmp_gt 61 dX5_tasted_31 (by decide) hF (fun hF => ?_) (fun hF => ?_)
    · refine ov_ldc dX5_tasted_61 qc_X5_178 ?_
      exact ov_ireturn dX5_tasted_63 (Nat.le_refl _) (Nat.le_refl _) ⟨rfl, trivial, _, rfl, hF⟩
    · refine ov_aload_n dX5_tasted_34 0 rfl ?_
      refine ov_getr (T := TX5) (kf := 3) dX5_tasted_35 qf_X5_28 sh_0 rfl (Nat.le_of_ble_eq_true rfl) rfl (by decide) ?_
      refine ov_iload_n dX5_tasted_38 1 rfl ?_
      refine ov_callV [.int x1] dX5_tasted_39 (c_X3_tasteOf hF) (Nat.le_of_ble_eq_true rfl) (Nat.le_of_ble_eq_true rfl) lk_X5_100 (ov_stk0 (by unfold ov_stk; decide)) rfl (Nat.le_of_ble_eq_true rfl) (Nat.le_refl _) (Nat.le_refl _) (fun rr σ2 hF => ?_)
      obtain ⟨v1, rfl, hF⟩ := hF
      show vv_X5_tasted k 42 [(0, .ref 0), (1, .int x1), (2, .int x2)] [.int v1] σ2
      refine ov_if_ne 47 dX5_tasted_42 (by decide) hF (fun hF => ?_) (fun hF => ?_)
      · refine ov_aload_n dX5_tasted_47 0 rfl ?_
        refine ov_getr (T := TX5) (kf := 3) dX5_tasted_48 qf_X5_28 sh_0 rfl (Nat.le_of_ble_eq_true rfl) rfl (by decide) ?_
        refine ov_iload_n dX5_tasted_51 1 rfl ?_
        refine ov_callV [.int x1] dX5_tasted_52 (c_X3_passDayOf hF) (Nat.le_of_ble_eq_true rfl) (Nat.le_of_ble_eq_true rfl) lk_X5_175 (ov_stk0 (by unfold ov_stk; decide)) rfl (Nat.le_of_ble_eq_true rfl) (Nat.le_refl _) (Nat.le_refl _) (fun rr σ4 hF => ?_)
        obtain ⟨rfl, hF⟩ := hF
        show vv_X5_tasted k 55 [(0, .ref 0), (1, .int x1), (2, .int x2)] [] σ4
        refine ov_iinc dX5_tasted_55 2 rfl (x2 + 1) rfl (Nat.le_of_ble_eq_true rfl) [(2, .int (x2 + 1)), (0, .ref 0), (1, .int x1)] rfl ?_
        refine ov_goto 27 dX5_tasted_58 (by decide) ?_
        refine ov_pick [1, 2, 0] [(0, .ref 0), (1, .int x1), (2, .int (x2 + 1))] rfl ?_
        exact ih x1 (x2 + 1) σ4 hF
      · refine ov_iload_n dX5_tasted_45 2 rfl ?_
        exact ov_ireturn dX5_tasted_46 (Nat.le_refl _) (Nat.le_refl _) ⟨rfl, trivial, _, rfl, hF⟩
def F_X5_tasted (x1 : Int32) (σ : ovSt) (k : Int32 → ovSt → Prop) : Prop := (F_X3_has 21 x1 σ (fun v5 σ6 => (if v5 = 0 then (k (-1000000001) σ6) else (F_X3_become 33 21 σ6 (fun σ8 => (∃ n9, F_X5_tasted_27 k n9 x1 0 σ8))))))
set_option maxRecDepth 100000 in
set_option maxHeartbeats 4000000 in
theorem c_X5_tasted {x1 : Int32} {σ : ovSt} {k : Int32 → ovSt → Prop} (hF : F_X5_tasted x1 σ k) : ov_Ct 4 yX5_tasted cX5_tasted 3 (some .int) ov_S0 [.ref 0, .int x1] σ (ovKi k) := by
  refine ov_Ct.of (by decide) (Nat.le_of_ble_eq_true rfl) ?_
  unfold F_X5_tasted at hF
  show vv_X5_tasted k 0 [(0, .ref 0), (1, .int x1)] [] σ
  refine ov_aload_n dX5_tasted_0 0 rfl ?_
  refine ov_getr (T := TX5) (kf := 1) dX5_tasted_1 qf_X5_21 sh_0 rfl (Nat.le_of_ble_eq_true rfl) rfl (by decide) ?_
  refine ov_iload_n dX5_tasted_4 1 rfl ?_
  refine ov_callV [.int x1] dX5_tasted_5 (c_X3_has hF) (Nat.le_of_ble_eq_true rfl) (Nat.le_of_ble_eq_true rfl) lk_X5_80 (ov_stk0 (by unfold ov_stk; decide)) rfl (Nat.le_of_ble_eq_true rfl) (Nat.le_refl _) (Nat.le_refl _) (fun rr σ6 hF => ?_)
  obtain ⟨v5, rfl, hF⟩ := hF
  show vv_X5_tasted k 8 [(0, .ref 0), (1, .int x1)] [.int v5] σ6
  refine ov_if_ne 14 dX5_tasted_8 (by decide) hF (fun hF => ?_) (fun hF => ?_)
  · refine ov_aload_n dX5_tasted_14 0 rfl ?_
    refine ov_getr (T := TX5) (kf := 3) dX5_tasted_15 qf_X5_28 sh_0 rfl (Nat.le_of_ble_eq_true rfl) rfl (by decide) ?_
    refine ov_aload_n dX5_tasted_18 0 rfl ?_
    refine ov_getr (T := TX5) (kf := 1) dX5_tasted_19 qf_X5_21 sh_0 rfl (Nat.le_of_ble_eq_true rfl) rfl (by decide) ?_
    refine ov_callV [.ref 21] dX5_tasted_22 (c_X3_become hF) (Nat.le_of_ble_eq_true rfl) (Nat.le_of_ble_eq_true rfl) lk_X5_171 (ov_stk0 (by unfold ov_stk; decide)) rfl (Nat.le_of_ble_eq_true rfl) (Nat.le_refl _) (Nat.le_refl _) (fun rr σ8 hF => ?_)
    obtain ⟨rfl, hF⟩ := hF
    show vv_X5_tasted k 25 [(0, .ref 0), (1, .int x1)] [] σ8
    refine ov_iconst 0 (by decide) dX5_tasted_25 ?_
    refine ov_istore_n dX5_tasted_26 (Nat.le_of_ble_eq_true rfl) [(2, .int 0), (0, .ref 0), (1, .int x1)] rfl ?_
    refine ov_pick [1, 2, 0] [(0, .ref 0), (1, .int x1), (2, .int 0)] rfl ?_
    obtain ⟨n9, hF⟩ := hF
    exact V_X5_tasted_27 n9 x1 0 σ8 hF
  · refine ov_ldc dX5_tasted_11 qc_X5_71 ?_
    exact ov_ireturn dX5_tasted_13 (Nat.le_refl _) (Nat.le_refl _) ⟨rfl, trivial, _, rfl, hF⟩
/-! X5_tasteTried -/
abbrev vv_X5_tasteTried (k : Int32 → ovSt → Prop) (pc : Nat) (L : List (Nat × Value)) (st : List Value) (σ : ovSt) : Prop := ov_V (ovZs 5 yX5_tasteTried cX5_tasteTried 4) (ovKs (some .int) ov_S0 (ovKi k)) (0, 0) ov_S0 pc L st σ
def F_X5_tasteTried (x1 : Int32) (x2 : Int32) (x3 : Int32) (σ : ovSt) (k : Int32 → ovSt → Prop) : Prop := (F_X3_resetThing 39 21 x1 σ (fun σ2 => (F_X3_throwIn 39 x1 x2 σ2 (fun σ4 => (F_X3_passDaysOf 39 x1 x3 σ4 (fun σ6 => (F_X3_tasteOf 39 x1 σ6 (fun v7 σ8 => (k v7 σ8)))))))))
set_option maxRecDepth 100000 in
set_option maxHeartbeats 4000000 in
theorem c_X5_tasteTried {x1 : Int32} {x2 : Int32} {x3 : Int32} {σ : ovSt} {k : Int32 → ovSt → Prop} (hF : F_X5_tasteTried x1 x2 x3 σ k) : ov_Ct 5 yX5_tasteTried cX5_tasteTried 4 (some .int) ov_S0 [.ref 0, .int x1, .int x2, .int x3] σ (ovKi k) := by
  refine ov_Ct.of (by decide) (Nat.le_of_ble_eq_true rfl) ?_
  unfold F_X5_tasteTried at hF
  show vv_X5_tasteTried k 0 [(0, .ref 0), (1, .int x1), (2, .int x2), (3, .int x3)] [] σ
  refine ov_aload_n dX5_tasteTried_0 0 rfl ?_
  refine ov_getr (T := TX5) (kf := 4) dX5_tasteTried_1 qf_X5_31 sh_0 rfl (Nat.le_of_ble_eq_true rfl) rfl (by decide) ?_
  refine ov_aload_n dX5_tasteTried_4 0 rfl ?_
  refine ov_getr (T := TX5) (kf := 1) dX5_tasteTried_5 qf_X5_21 sh_0 rfl (Nat.le_of_ble_eq_true rfl) rfl (by decide) ?_
  refine ov_iload_n dX5_tasteTried_8 1 rfl ?_
  refine ov_callV [.ref 21, .int x1] dX5_tasteTried_9 (c_X3_resetThing hF) (Nat.le_of_ble_eq_true rfl) (Nat.le_of_ble_eq_true rfl) lk_X5_185 (ov_stk0 (by unfold ov_stk; decide)) rfl (Nat.le_of_ble_eq_true rfl) (Nat.le_refl _) (Nat.le_refl _) (fun rr σ2 hF => ?_)
  obtain ⟨rfl, hF⟩ := hF
  show vv_X5_tasteTried k 12 [(0, .ref 0), (1, .int x1), (2, .int x2), (3, .int x3)] [] σ2
  refine ov_aload_n dX5_tasteTried_12 0 rfl ?_
  refine ov_getr (T := TX5) (kf := 4) dX5_tasteTried_13 qf_X5_31 sh_0 rfl (Nat.le_of_ble_eq_true rfl) rfl (by decide) ?_
  refine ov_iload_n dX5_tasteTried_16 1 rfl ?_
  refine ov_iload_n dX5_tasteTried_17 2 rfl ?_
  refine ov_callV [.int x1, .int x2] dX5_tasteTried_18 (c_X3_throwIn hF) (Nat.le_of_ble_eq_true rfl) (Nat.le_of_ble_eq_true rfl) lk_X5_84 (ov_stk0 (by unfold ov_stk; decide)) rfl (Nat.le_of_ble_eq_true rfl) (Nat.le_refl _) (Nat.le_refl _) (fun rr σ4 hF => ?_)
  obtain ⟨rfl, hF⟩ := hF
  show vv_X5_tasteTried k 21 [(0, .ref 0), (1, .int x1), (2, .int x2), (3, .int x3)] [] σ4
  refine ov_aload_n dX5_tasteTried_21 0 rfl ?_
  refine ov_getr (T := TX5) (kf := 4) dX5_tasteTried_22 qf_X5_31 sh_0 rfl (Nat.le_of_ble_eq_true rfl) rfl (by decide) ?_
  refine ov_iload_n dX5_tasteTried_25 1 rfl ?_
  refine ov_iload_n dX5_tasteTried_26 3 rfl ?_
  refine ov_callV [.int x1, .int x3] dX5_tasteTried_27 (c_X3_passDaysOf hF) (Nat.le_of_ble_eq_true rfl) (Nat.le_of_ble_eq_true rfl) lk_X5_189 (ov_stk0 (by unfold ov_stk; decide)) rfl (Nat.le_of_ble_eq_true rfl) (Nat.le_refl _) (Nat.le_refl _) (fun rr σ6 hF => ?_)
  obtain ⟨rfl, hF⟩ := hF
  show vv_X5_tasteTried k 30 [(0, .ref 0), (1, .int x1), (2, .int x2), (3, .int x3)] [] σ6
  refine ov_aload_n dX5_tasteTried_30 0 rfl ?_
  refine ov_getr (T := TX5) (kf := 4) dX5_tasteTried_31 qf_X5_31 sh_0 rfl (Nat.le_of_ble_eq_true rfl) rfl (by decide) ?_
  refine ov_iload_n dX5_tasteTried_34 1 rfl ?_
  refine ov_callV [.int x1] dX5_tasteTried_35 (c_X3_tasteOf hF) (Nat.le_of_ble_eq_true rfl) (Nat.le_of_ble_eq_true rfl) lk_X5_100 (ov_stk0 (by unfold ov_stk; decide)) rfl (Nat.le_of_ble_eq_true rfl) (Nat.le_refl _) (Nat.le_refl _) (fun rr σ8 hF => ?_)
  obtain ⟨v7, rfl, hF⟩ := hF
  show vv_X5_tasteTried k 38 [(0, .ref 0), (1, .int x1), (2, .int x2), (3, .int x3)] [.int v7] σ8
  exact ov_ireturn dX5_tasteTried_38 (Nat.le_refl _) (Nat.le_refl _) ⟨rfl, trivial, _, rfl, hF⟩
/-! X5_steer -/
abbrev vv_X5_steer (k : Int32 → ovSt → Prop) (pc : Nat) (L : List (Nat × Value)) (st : List Value) (σ : ovSt) : Prop := ov_V (ovZs 6 yX5_steer cX5_steer 12) (ovKs (some .int) ov_S0 (ovKi k)) (0, 0) ov_S0 pc L st σ
def F_X5_steer_29 (k : Int32 → ovSt → Prop) (σ : ovSt) : Prop := (k (-1000000001) σ)
set_option maxRecDepth 100000 in
set_option maxHeartbeats 4000000 in
theorem V_X5_steer_29 {k : Int32 → ovSt → Prop} (σ : ovSt) (hF : F_X5_steer_29 k σ) : vv_X5_steer k 29 [] [] σ := by
  unfold F_X5_steer_29 at hF
  refine ov_ldc dX5_steer_29 qc_X5_71 ?_
  exact ov_ireturn dX5_steer_31 (Nat.le_refl _) (Nat.le_refl _) ⟨rfl, trivial, _, rfl, hF⟩
def F_X5_steer_177 (R97 : Int32 → Int32 → Int32 → Int32 → Int32 → Int32 → Int32 → Int32 → ovSt → Prop) (R126 : Int32 → Int32 → Int32 → Int32 → Int32 → Int32 → Int32 → Int32 → Int32 → Int32 → ovSt → Prop) (k : Int32 → ovSt → Prop) (x1 : Int32) (x2 : Int32) (x3 : Int32) (x4 : Int32) (x5 : Int32) (x6 : Int32) (x7 : Int32) (x8 : Int32) (x9 : Int32) (x10 : Int32) (σ : ovSt) : Prop := R126 x1 x2 x3 x4 x5 x6 x7 x8 x9 (x10 + 50) σ
set_option maxRecDepth 100000 in
set_option maxHeartbeats 4000000 in
theorem V_X5_steer_177 {k : Int32 → ovSt → Prop} {R97 : Int32 → Int32 → Int32 → Int32 → Int32 → Int32 → Int32 → Int32 → ovSt → Prop} (hR97 : ∀ (x1 : Int32) (x2 : Int32) (x3 : Int32) (x4 : Int32) (x5 : Int32) (x6 : Int32) (x7 : Int32) (x8 : Int32) (σ : ovSt), R97 x1 x2 x3 x4 x5 x6 x7 x8 σ → vv_X5_steer k 97 [(0, .ref 0), (1, .int x1), (2, .int x2), (3, .int x3), (4, .int x4), (5, .int x5), (6, .int x6), (7, .int x7), (8, .int x8)] [] σ) {R126 : Int32 → Int32 → Int32 → Int32 → Int32 → Int32 → Int32 → Int32 → Int32 → Int32 → ovSt → Prop} (hR126 : ∀ (x1 : Int32) (x2 : Int32) (x3 : Int32) (x4 : Int32) (x5 : Int32) (x6 : Int32) (x7 : Int32) (x8 : Int32) (x9 : Int32) (x10 : Int32) (σ : ovSt), R126 x1 x2 x3 x4 x5 x6 x7 x8 x9 x10 σ → vv_X5_steer k 126 [(0, .ref 0), (1, .int x1), (2, .int x2), (3, .int x3), (4, .int x4), (5, .int x5), (6, .int x6), (7, .int x7), (8, .int x8), (9, .int x9), (10, .int x10)] [] σ) (x1 : Int32) (x2 : Int32) (x3 : Int32) (x4 : Int32) (x5 : Int32) (x6 : Int32) (x7 : Int32) (x8 : Int32) (x9 : Int32) (x10 : Int32) (σ : ovSt) (hF : F_X5_steer_177 R97 R126 k x1 x2 x3 x4 x5 x6 x7 x8 x9 x10 σ) : vv_X5_steer k 177 [(0, .ref 0), (1, .int x1), (2, .int x2), (3, .int x3), (4, .int x4), (5, .int x5), (6, .int x6), (7, .int x7), (8, .int x8), (9, .int x9), (10, .int x10)] [] σ := by
  unfold F_X5_steer_177 at hF
  refine ov_iinc dX5_steer_177 10 rfl (x10 + 50) rfl (Nat.le_of_ble_eq_true rfl) [(10, .int (x10 + 50)), (0, .ref 0), (1, .int x1), (2, .int x2), (3, .int x3), (4, .int x4), (5, .int x5), (6, .int x6), (7, .int x7), (8, .int x8), (9, .int x9)] rfl ?_
  refine ov_goto 126 dX5_steer_180 (by decide) ?_
  refine ov_pick [1, 2, 3, 4, 5, 6, 7, 8, 9, 10, 0] [(0, .ref 0), (1, .int x1), (2, .int x2), (3, .int x3), (4, .int x4), (5, .int x5), (6, .int x6), (7, .int x7), (8, .int x8), (9, .int x9), (10, .int (x10 + 50))] rfl ?_
  exact hR126 x1 x2 x3 x4 x5 x6 x7 x8 x9 (x10 + 50) σ hF
def F_X5_steer_126 (R97 : Int32 → Int32 → Int32 → Int32 → Int32 → Int32 → Int32 → Int32 → ovSt → Prop) (k : Int32 → ovSt → Prop) : Nat → Int32 → Int32 → Int32 → Int32 → Int32 → Int32 → Int32 → Int32 → Int32 → Int32 → ovSt → Prop
  | 0 => fun _ _ _ _ _ _ _ _ _ _ _ => False
  | n + 1 => fun x1 x2 x3 x4 x5 x6 x7 x8 x9 x10 σ => (if (1000 : Int32) < x10 then R97 x1 x2 x3 x4 x5 x6 x7 (x8 + 1) σ else (F_X5_tasteTried x8 x10 x2 σ (fun v1 σ2 => (∀ v3 : Int32, v3 = (x9 + v1) → (if (ov_abs (x7 - x1)) ≤ (ov_abs (v3 - x1)) then (F_X5_steer_177 R97 (F_X5_steer_126 R97 k n) k x1 x2 x3 x4 x5 x6 x7 x8 x9 x10 σ2) else (F_X5_steer_177 R97 (F_X5_steer_126 R97 k n) k x1 x2 x3 x4 x8 x10 v3 x8 x9 x10 σ2))))))
set_option maxRecDepth 100000 in
set_option maxHeartbeats 4000000 in
theorem V_X5_steer_126 {k : Int32 → ovSt → Prop} {R97 : Int32 → Int32 → Int32 → Int32 → Int32 → Int32 → Int32 → Int32 → ovSt → Prop} (hR97 : ∀ (x1 : Int32) (x2 : Int32) (x3 : Int32) (x4 : Int32) (x5 : Int32) (x6 : Int32) (x7 : Int32) (x8 : Int32) (σ : ovSt), R97 x1 x2 x3 x4 x5 x6 x7 x8 σ → vv_X5_steer k 97 [(0, .ref 0), (1, .int x1), (2, .int x2), (3, .int x3), (4, .int x4), (5, .int x5), (6, .int x6), (7, .int x7), (8, .int x8)] [] σ) : ∀ (n : Nat) (x1 : Int32) (x2 : Int32) (x3 : Int32) (x4 : Int32) (x5 : Int32) (x6 : Int32) (x7 : Int32) (x8 : Int32) (x9 : Int32) (x10 : Int32) (σ : ovSt), F_X5_steer_126 R97 k n x1 x2 x3 x4 x5 x6 x7 x8 x9 x10 σ → vv_X5_steer k 126 [(0, .ref 0), (1, .int x1), (2, .int x2), (3, .int x3), (4, .int x4), (5, .int x5), (6, .int x6), (7, .int x7), (8, .int x8), (9, .int x9), (10, .int x10)] [] σ := by
  intro n
  induction n with
  | zero => intro x1 x2 x3 x4 x5 x6 x7 x8 x9 x10 σ hF; exact hF.elim
  | succ n ih =>
    intro x1 x2 x3 x4 x5 x6 x7 x8 x9 x10 σ hF
    unfold F_X5_steer_126 at hF
    refine ov_iload dX5_steer_126 10 rfl ?_
    refine ov_sipush 1000 (by decide) dX5_steer_128 ?_
    refine ov_icmp_gt 183 dX5_steer_131 (by decide) hF (fun hF => ?_) (fun hF => ?_)
    · refine ov_iinc dX5_steer_183 8 rfl (x8 + 1) rfl (Nat.le_of_ble_eq_true rfl) [(8, .int (x8 + 1)), (0, .ref 0), (1, .int x1), (2, .int x2), (3, .int x3), (4, .int x4), (5, .int x5), (6, .int x6), (7, .int x7), (9, .int x9), (10, .int x10)] rfl ?_
      refine ov_goto 97 dX5_steer_186 (by decide) ?_
      refine ov_pick [1, 2, 3, 4, 5, 6, 7, 8, 0] [(0, .ref 0), (1, .int x1), (2, .int x2), (3, .int x3), (4, .int x4), (5, .int x5), (6, .int x6), (7, .int x7), (8, .int (x8 + 1))] rfl ?_
      exact hR97 x1 x2 x3 x4 x5 x6 x7 (x8 + 1) σ hF
    · refine ov_iload dX5_steer_134 9 rfl ?_
      refine ov_aload_n dX5_steer_136 0 rfl ?_
      refine ov_iload dX5_steer_137 8 rfl ?_
      refine ov_iload dX5_steer_139 10 rfl ?_
      refine ov_iload_n dX5_steer_141 2 rfl ?_
      refine ov_callV [.int x8, .int x10, .int x2] dX5_steer_142 (c_X5_tasteTried hF) (Nat.le_of_ble_eq_true rfl) (Nat.le_of_ble_eq_true rfl) lk_X5_179 sh_0 rfl (Nat.le_of_ble_eq_true rfl) (Nat.le_refl _) (Nat.le_refl _) (fun rr σ2 hF => ?_)
      obtain ⟨v1, rfl, hF⟩ := hF
      show vv_X5_steer k 145 [(0, .ref 0), (1, .int x1), (2, .int x2), (3, .int x3), (4, .int x4), (5, .int x5), (6, .int x6), (7, .int x7), (8, .int x8), (9, .int x9), (10, .int x10)] [.int v1, .int x9] σ2
      refine ov_iadd dX5_steer_145 ?_
      refine ov_nmI (fun v3 ev3 => ?_)
      have hF := hF v3 ev3
      refine ov_istore dX5_steer_146 (Nat.le_of_ble_eq_true rfl) [(11, .int v3), (0, .ref 0), (1, .int x1), (2, .int x2), (3, .int x3), (4, .int x4), (5, .int x5), (6, .int x6), (7, .int x7), (8, .int x8), (9, .int x9), (10, .int x10)] rfl ?_
      refine ov_iload dX5_steer_148 0 rfl ?_
      refine ov_iload_n dX5_steer_150 2 rfl ?_
      refine ov_isub dX5_steer_151 ?_
      refine ov_mabs dX5_steer_152 lk_X5_182 (Nat.le_of_ble_eq_true rfl) (Nat.le_of_ble_eq_true rfl) (Nat.le_refl _) (Nat.le_refl _) ?_
      refine ov_iload dX5_steer_155 8 rfl ?_
      refine ov_iload_n dX5_steer_157 2 rfl ?_
      refine ov_isub dX5_steer_158 ?_
      refine ov_mabs dX5_steer_159 lk_X5_182 (Nat.le_of_ble_eq_true rfl) (Nat.le_of_ble_eq_true rfl) (Nat.le_refl _) (Nat.le_refl _) ?_
      refine ov_icmp_ge 177 dX5_steer_162 (by decide) hF (fun hF => ?_) (fun hF => ?_)
      · refine ov_pick [1, 2, 3, 4, 5, 6, 7, 8, 9, 10, 11] [(0, .ref 0), (1, .int x1), (2, .int x2), (3, .int x3), (4, .int x4), (5, .int x5), (6, .int x6), (7, .int x7), (8, .int x8), (9, .int x9), (10, .int x10)] rfl ?_
        exact V_X5_steer_177 hR97 ih x1 x2 x3 x4 x5 x6 x7 x8 x9 x10 σ2 hF
      · refine ov_iload dX5_steer_165 9 rfl ?_
        refine ov_istore dX5_steer_167 (Nat.le_of_ble_eq_true rfl) [(5, .int x8), (11, .int v3), (0, .ref 0), (1, .int x1), (2, .int x2), (3, .int x3), (4, .int x4), (6, .int x6), (7, .int x7), (8, .int x8), (9, .int x9), (10, .int x10)] rfl ?_
        refine ov_iload dX5_steer_169 11 rfl ?_
        refine ov_istore dX5_steer_171 (Nat.le_of_ble_eq_true rfl) [(6, .int x10), (5, .int x8), (11, .int v3), (0, .ref 0), (1, .int x1), (2, .int x2), (3, .int x3), (4, .int x4), (7, .int x7), (8, .int x8), (9, .int x9), (10, .int x10)] rfl ?_
        refine ov_iload dX5_steer_173 2 rfl ?_
        refine ov_istore dX5_steer_175 (Nat.le_of_ble_eq_true rfl) [(7, .int v3), (6, .int x10), (5, .int x8), (11, .int v3), (0, .ref 0), (1, .int x1), (2, .int x2), (3, .int x3), (4, .int x4), (8, .int x8), (9, .int x9), (10, .int x10)] rfl ?_
        refine ov_pick [4, 5, 6, 7, 8, 2, 1, 0, 9, 10, 11] [(0, .ref 0), (1, .int x1), (2, .int x2), (3, .int x3), (4, .int x4), (5, .int x8), (6, .int x10), (7, .int v3), (8, .int x8), (9, .int x9), (10, .int x10)] rfl ?_
        exact V_X5_steer_177 hR97 ih x1 x2 x3 x4 x8 x10 v3 x8 x9 x10 σ2 hF
def F_X5_steer_210 (k : Int32 → ovSt → Prop) (t0 : Int32) (σ : ovSt) : Prop := (k t0 σ)
set_option maxRecDepth 100000 in
set_option maxHeartbeats 4000000 in
theorem V_X5_steer_210 {k : Int32 → ovSt → Prop} (t0 : Int32) (σ : ovSt) (hF : F_X5_steer_210 k t0 σ) : vv_X5_steer k 210 [] [.int t0] σ := by
  unfold F_X5_steer_210 at hF
  exact ov_ireturn dX5_steer_210 (Nat.le_refl _) (Nat.le_refl _) ⟨rfl, trivial, _, rfl, hF⟩
def F_X5_steer_97 (k : Int32 → ovSt → Prop) : Nat → Int32 → Int32 → Int32 → Int32 → Int32 → Int32 → Int32 → Int32 → ovSt → Prop
  | 0 => fun _ _ _ _ _ _ _ _ _ => False
  | n + 1 => fun x1 x2 x3 x4 x5 x6 x7 x8 σ => (if (σ 21 6) ≤ x8 then (if x3 = 0 then (F_X5_steer_210 k x5 σ) else (if x3 = (1 : Int32) then (F_X5_steer_210 k x6 σ) else (F_X5_steer_210 k x7 σ))) else (F_X3_tasteOf 33 x8 σ (fun v4 σ5 => (∀ v6 : Int32, v6 = (x4 - v4) → (∃ n7, F_X5_steer_126 (F_X5_steer_97 k n) k n7 x1 x2 x3 x4 x5 x6 x7 x8 v6 0 σ5)))))
set_option maxRecDepth 100000 in
set_option maxHeartbeats 4000000 in
theorem V_X5_steer_97 {k : Int32 → ovSt → Prop} : ∀ (n : Nat) (x1 : Int32) (x2 : Int32) (x3 : Int32) (x4 : Int32) (x5 : Int32) (x6 : Int32) (x7 : Int32) (x8 : Int32) (σ : ovSt), F_X5_steer_97 k n x1 x2 x3 x4 x5 x6 x7 x8 σ → vv_X5_steer k 97 [(0, .ref 0), (1, .int x1), (2, .int x2), (3, .int x3), (4, .int x4), (5, .int x5), (6, .int x6), (7, .int x7), (8, .int x8)] [] σ := by
  intro n
  induction n with
  | zero => intro x1 x2 x3 x4 x5 x6 x7 x8 σ hF; exact hF.elim
  | succ n ih =>
    intro x1 x2 x3 x4 x5 x6 x7 x8 σ hF
    unfold F_X5_steer_97 at hF
    refine ov_iload dX5_steer_97 8 rfl ?_
    refine ov_aload_n dX5_steer_99 0 rfl ?_
    refine ov_getr (T := TX5) (kf := 1) dX5_steer_100 qf_X5_21 sh_0 rfl (Nat.le_of_ble_eq_true rfl) rfl (by decide) ?_
    refine ov_geti (T := TX3) (kf := 6) dX5_steer_103 qf_X5_72 (ov_stk0 (by unfold ov_stk; decide)) rfl (Nat.le_of_ble_eq_true rfl) rfl ?_
    refine ov_icmp_ge 189 dX5_steer_106 (by decide) hF (fun hF => ?_) (fun hF => ?_)
    · refine ov_iload_n dX5_steer_189 3 rfl ?_
      refine ov_if_ne 198 dX5_steer_190 (by decide) hF (fun hF => ?_) (fun hF => ?_)
      · refine ov_iload_n dX5_steer_198 3 rfl ?_
        refine ov_iconst 1 (by decide) dX5_steer_199 ?_
        refine ov_icmp_ne 208 dX5_steer_200 (by decide) hF (fun hF => ?_) (fun hF => ?_)
        · refine ov_iload dX5_steer_208 7 rfl ?_
          refine ov_pick [] [] rfl ?_
          exact V_X5_steer_210 x7 σ hF
        · refine ov_iload dX5_steer_203 6 rfl ?_
          refine ov_goto 210 dX5_steer_205 (by decide) ?_
          refine ov_pick [] [] rfl ?_
          exact V_X5_steer_210 x6 σ hF
      · refine ov_iload dX5_steer_193 5 rfl ?_
        refine ov_goto 210 dX5_steer_195 (by decide) ?_
        refine ov_pick [] [] rfl ?_
        exact V_X5_steer_210 x5 σ hF
    · refine ov_iload dX5_steer_109 4 rfl ?_
      refine ov_aload_n dX5_steer_111 0 rfl ?_
      refine ov_getr (T := TX5) (kf := 3) dX5_steer_112 qf_X5_28 sh_0 rfl (Nat.le_of_ble_eq_true rfl) rfl (by decide) ?_
      refine ov_iload dX5_steer_115 8 rfl ?_
      refine ov_callV [.int x8] dX5_steer_117 (c_X3_tasteOf hF) (Nat.le_of_ble_eq_true rfl) (Nat.le_of_ble_eq_true rfl) lk_X5_100 (ov_stk0 (by unfold ov_stk; decide)) rfl (Nat.le_of_ble_eq_true rfl) (Nat.le_refl _) (Nat.le_refl _) (fun rr σ5 hF => ?_)
      obtain ⟨v4, rfl, hF⟩ := hF
      show vv_X5_steer k 120 [(0, .ref 0), (1, .int x1), (2, .int x2), (3, .int x3), (4, .int x4), (5, .int x5), (6, .int x6), (7, .int x7), (8, .int x8)] [.int v4, .int x4] σ5
      refine ov_isub dX5_steer_120 ?_
      refine ov_nmI (fun v6 ev6 => ?_)
      have hF := hF v6 ev6
      refine ov_istore dX5_steer_121 (Nat.le_of_ble_eq_true rfl) [(9, .int v6), (0, .ref 0), (1, .int x1), (2, .int x2), (3, .int x3), (4, .int x4), (5, .int x5), (6, .int x6), (7, .int x7), (8, .int x8)] rfl ?_
      refine ov_iconst 0 (by decide) dX5_steer_123 ?_
      refine ov_istore dX5_steer_124 (Nat.le_of_ble_eq_true rfl) [(10, .int 0), (9, .int v6), (0, .ref 0), (1, .int x1), (2, .int x2), (3, .int x3), (4, .int x4), (5, .int x5), (6, .int x6), (7, .int x7), (8, .int x8)] rfl ?_
      refine ov_pick [2, 3, 4, 5, 6, 7, 8, 9, 10, 1, 0] [(0, .ref 0), (1, .int x1), (2, .int x2), (3, .int x3), (4, .int x4), (5, .int x5), (6, .int x6), (7, .int x7), (8, .int x8), (9, .int v6), (10, .int 0)] rfl ?_
      obtain ⟨n7, hF⟩ := hF
      exact V_X5_steer_126 ih n7 x1 x2 x3 x4 x5 x6 x7 x8 v6 0 σ5 hF
def F_X5_steer (x1 : Int32) (x2 : Int32) (x3 : Int32) (σ : ovSt) (k : Int32 → ovSt → Prop) : Prop := (F_X5_within x1 0 99999 σ (fun v8 σ9 => (if v8 = 0 then (F_X5_steer_29 k σ9) else (F_X5_within x2 0 30 σ9 (fun v10 σ11 => (if v10 = 0 then (F_X5_steer_29 k σ11) else (F_X5_within x3 0 2 σ11 (fun v12 σ13 => (if v12 = 0 then (F_X5_steer_29 k σ13) else (if (σ13 21 6) = 0 then (k (-1000000005) σ13) else (F_X3_become 33 21 σ13 (fun σ15 => (F_X3_passDays 33 x2 σ15 (fun σ17 => (F_X3_become 39 21 σ17 (fun σ19 => (F_X3_tasteOfAll 33 σ19 (fun v20 σ21 => (∃ n22, F_X5_steer_97 k n22 x1 x2 x3 v20 0 0 v20 0 σ21)))))))))))))))))))
set_option maxRecDepth 100000 in
set_option maxHeartbeats 4000000 in
theorem c_X5_steer {x1 : Int32} {x2 : Int32} {x3 : Int32} {σ : ovSt} {k : Int32 → ovSt → Prop} (hF : F_X5_steer x1 x2 x3 σ k) : ov_Ct 6 yX5_steer cX5_steer 12 (some .int) ov_S0 [.ref 0, .int x1, .int x2, .int x3] σ (ovKi k) := by
  refine ov_Ct.of (by decide) (Nat.le_of_ble_eq_true rfl) ?_
  unfold F_X5_steer at hF
  show vv_X5_steer k 0 [(0, .ref 0), (1, .int x1), (2, .int x2), (3, .int x3)] [] σ
  refine ov_iload_n dX5_steer_0 1 rfl ?_
  refine ov_iconst 0 (by decide) dX5_steer_1 ?_
  refine ov_ldc dX5_steer_2 qc_X5_126 ?_
  refine ov_callS [.int x1, .int 0, .int 99999] dX5_steer_4 (c_X5_within hF) (Nat.le_of_ble_eq_true rfl) (Nat.le_of_ble_eq_true rfl) lk_X5_67 (Nat.le_of_ble_eq_true rfl) (Nat.le_refl _) (Nat.le_refl _) (fun rr σ9 hF => ?_)
  obtain ⟨v8, rfl, hF⟩ := hF
  show vv_X5_steer k 7 [(0, .ref 0), (1, .int x1), (2, .int x2), (3, .int x3)] [.int v8] σ9
  refine ov_if_eq 29 dX5_steer_7 (by decide) hF (fun hF => ?_) (fun hF => ?_)
  · refine ov_pick [] [] rfl ?_
    exact V_X5_steer_29 σ9 hF
  · refine ov_iload_n dX5_steer_10 2 rfl ?_
    refine ov_iconst 0 (by decide) dX5_steer_11 ?_
    refine ov_bipush 30 (by decide) dX5_steer_12 ?_
    refine ov_callS [.int x2, .int 0, .int 30] dX5_steer_14 (c_X5_within hF) (Nat.le_of_ble_eq_true rfl) (Nat.le_of_ble_eq_true rfl) lk_X5_67 (Nat.le_of_ble_eq_true rfl) (Nat.le_refl _) (Nat.le_refl _) (fun rr σ11 hF => ?_)
    obtain ⟨v10, rfl, hF⟩ := hF
    show vv_X5_steer k 17 [(0, .ref 0), (1, .int x1), (2, .int x2), (3, .int x3)] [.int v10] σ11
    refine ov_if_eq 29 dX5_steer_17 (by decide) hF (fun hF => ?_) (fun hF => ?_)
    · refine ov_pick [] [] rfl ?_
      exact V_X5_steer_29 σ11 hF
    · refine ov_iload_n dX5_steer_20 3 rfl ?_
      refine ov_iconst 0 (by decide) dX5_steer_21 ?_
      refine ov_iconst 2 (by decide) dX5_steer_22 ?_
      refine ov_callS [.int x3, .int 0, .int 2] dX5_steer_23 (c_X5_within hF) (Nat.le_of_ble_eq_true rfl) (Nat.le_of_ble_eq_true rfl) lk_X5_67 (Nat.le_of_ble_eq_true rfl) (Nat.le_refl _) (Nat.le_refl _) (fun rr σ13 hF => ?_)
      obtain ⟨v12, rfl, hF⟩ := hF
      show vv_X5_steer k 26 [(0, .ref 0), (1, .int x1), (2, .int x2), (3, .int x3)] [.int v12] σ13
      refine ov_if_ne 32 dX5_steer_26 (by decide) hF (fun hF => ?_) (fun hF => ?_)
      · refine ov_aload_n dX5_steer_32 0 rfl ?_
        refine ov_getr (T := TX5) (kf := 1) dX5_steer_33 qf_X5_21 sh_0 rfl (Nat.le_of_ble_eq_true rfl) rfl (by decide) ?_
        refine ov_geti (T := TX3) (kf := 6) dX5_steer_36 qf_X5_72 (ov_stk0 (by unfold ov_stk; decide)) rfl (Nat.le_of_ble_eq_true rfl) rfl ?_
        refine ov_if_ne 45 dX5_steer_39 (by decide) hF (fun hF => ?_) (fun hF => ?_)
        · refine ov_aload_n dX5_steer_45 0 rfl ?_
          refine ov_getr (T := TX5) (kf := 3) dX5_steer_46 qf_X5_28 sh_0 rfl (Nat.le_of_ble_eq_true rfl) rfl (by decide) ?_
          refine ov_aload_n dX5_steer_49 0 rfl ?_
          refine ov_getr (T := TX5) (kf := 1) dX5_steer_50 qf_X5_21 sh_0 rfl (Nat.le_of_ble_eq_true rfl) rfl (by decide) ?_
          refine ov_callV [.ref 21] dX5_steer_53 (c_X3_become hF) (Nat.le_of_ble_eq_true rfl) (Nat.le_of_ble_eq_true rfl) lk_X5_171 (ov_stk0 (by unfold ov_stk; decide)) rfl (Nat.le_of_ble_eq_true rfl) (Nat.le_refl _) (Nat.le_refl _) (fun rr σ15 hF => ?_)
          obtain ⟨rfl, hF⟩ := hF
          show vv_X5_steer k 56 [(0, .ref 0), (1, .int x1), (2, .int x2), (3, .int x3)] [] σ15
          refine ov_aload_n dX5_steer_56 0 rfl ?_
          refine ov_getr (T := TX5) (kf := 3) dX5_steer_57 qf_X5_28 sh_0 rfl (Nat.le_of_ble_eq_true rfl) rfl (by decide) ?_
          refine ov_iload_n dX5_steer_60 2 rfl ?_
          refine ov_callV [.int x2] dX5_steer_61 (c_X3_passDays hF) (Nat.le_of_ble_eq_true rfl) (Nat.le_of_ble_eq_true rfl) lk_X5_147 (ov_stk0 (by unfold ov_stk; decide)) rfl (Nat.le_of_ble_eq_true rfl) (Nat.le_refl _) (Nat.le_refl _) (fun rr σ17 hF => ?_)
          obtain ⟨rfl, hF⟩ := hF
          show vv_X5_steer k 64 [(0, .ref 0), (1, .int x1), (2, .int x2), (3, .int x3)] [] σ17
          refine ov_aload_n dX5_steer_64 0 rfl ?_
          refine ov_getr (T := TX5) (kf := 4) dX5_steer_65 qf_X5_31 sh_0 rfl (Nat.le_of_ble_eq_true rfl) rfl (by decide) ?_
          refine ov_aload_n dX5_steer_68 0 rfl ?_
          refine ov_getr (T := TX5) (kf := 1) dX5_steer_69 qf_X5_21 sh_0 rfl (Nat.le_of_ble_eq_true rfl) rfl (by decide) ?_
          refine ov_callV [.ref 21] dX5_steer_72 (c_X3_become hF) (Nat.le_of_ble_eq_true rfl) (Nat.le_of_ble_eq_true rfl) lk_X5_171 (ov_stk0 (by unfold ov_stk; decide)) rfl (Nat.le_of_ble_eq_true rfl) (Nat.le_refl _) (Nat.le_refl _) (fun rr σ19 hF => ?_)
          obtain ⟨rfl, hF⟩ := hF
          show vv_X5_steer k 75 [(0, .ref 0), (1, .int x1), (2, .int x2), (3, .int x3)] [] σ19
          refine ov_aload_n dX5_steer_75 0 rfl ?_
          refine ov_getr (T := TX5) (kf := 3) dX5_steer_76 qf_X5_28 sh_0 rfl (Nat.le_of_ble_eq_true rfl) rfl (by decide) ?_
          refine ov_callV [] dX5_steer_79 (c_X3_tasteOfAll hF) (Nat.le_of_ble_eq_true rfl) (Nat.le_of_ble_eq_true rfl) lk_X5_151 (ov_stk0 (by unfold ov_stk; decide)) rfl (Nat.le_of_ble_eq_true rfl) (Nat.le_refl _) (Nat.le_refl _) (fun rr σ21 hF => ?_)
          obtain ⟨v20, rfl, hF⟩ := hF
          show vv_X5_steer k 82 [(0, .ref 0), (1, .int x1), (2, .int x2), (3, .int x3)] [.int v20] σ21
          refine ov_istore dX5_steer_82 (Nat.le_of_ble_eq_true rfl) [(4, .int v20), (0, .ref 0), (1, .int x1), (2, .int x2), (3, .int x3)] rfl ?_
          refine ov_iconst 0 (by decide) dX5_steer_84 ?_
          refine ov_istore dX5_steer_85 (Nat.le_of_ble_eq_true rfl) [(5, .int 0), (4, .int v20), (0, .ref 0), (1, .int x1), (2, .int x2), (3, .int x3)] rfl ?_
          refine ov_iconst 0 (by decide) dX5_steer_87 ?_
          refine ov_istore dX5_steer_88 (Nat.le_of_ble_eq_true rfl) [(6, .int 0), (5, .int 0), (4, .int v20), (0, .ref 0), (1, .int x1), (2, .int x2), (3, .int x3)] rfl ?_
          refine ov_iload dX5_steer_90 2 rfl ?_
          refine ov_istore dX5_steer_92 (Nat.le_of_ble_eq_true rfl) [(7, .int v20), (6, .int 0), (5, .int 0), (4, .int v20), (0, .ref 0), (1, .int x1), (2, .int x2), (3, .int x3)] rfl ?_
          refine ov_iconst 0 (by decide) dX5_steer_94 ?_
          refine ov_istore dX5_steer_95 (Nat.le_of_ble_eq_true rfl) [(8, .int 0), (7, .int v20), (6, .int 0), (5, .int 0), (4, .int v20), (0, .ref 0), (1, .int x1), (2, .int x2), (3, .int x3)] rfl ?_
          refine ov_pick [5, 6, 7, 8, 4, 3, 2, 1, 0] [(0, .ref 0), (1, .int x1), (2, .int x2), (3, .int x3), (4, .int v20), (5, .int 0), (6, .int 0), (7, .int v20), (8, .int 0)] rfl ?_
          obtain ⟨n22, hF⟩ := hF
          exact V_X5_steer_97 n22 x1 x2 x3 v20 0 0 v20 0 σ21 hF
        · refine ov_ldc dX5_steer_42 qc_X5_178 ?_
          exact ov_ireturn dX5_steer_44 (Nat.le_refl _) (Nat.le_refl _) ⟨rfl, trivial, _, rfl, hF⟩
      · refine ov_pick [] [] rfl ?_
        exact V_X5_steer_29 σ13 hF
/-! X5_leastPot -/
abbrev vv_X5_leastPot (k : Int32 → ovSt → Prop) (pc : Nat) (L : List (Nat × Value)) (st : List Value) (σ : ovSt) : Prop := ov_V (ovZs 5 yX5_leastPot cX5_leastPot 5) (ovKs (some .int) ov_S0 (ovKi k)) (0, 0) ov_S0 pc L st σ
def F_X5_leastPot_31 (k : Int32 → ovSt → Prop) (σ : ovSt) : Prop := (k (-1000000001) σ)
set_option maxRecDepth 100000 in
set_option maxHeartbeats 4000000 in
theorem V_X5_leastPot_31 {k : Int32 → ovSt → Prop} (σ : ovSt) (hF : F_X5_leastPot_31 k σ) : vv_X5_leastPot k 31 [] [] σ := by
  unfold F_X5_leastPot_31 at hF
  refine ov_ldc dX5_leastPot_31 qc_X5_71 ?_
  exact ov_ireturn dX5_leastPot_33 (Nat.le_refl _) (Nat.le_refl _) ⟨rfl, trivial, _, rfl, hF⟩
def F_X5_leastPot_49 (k : Int32 → ovSt → Prop) : Nat → Int32 → Int32 → Int32 → Int32 → ovSt → Prop
  | 0 => fun _ _ _ _ _ => False
  | n + 1 => fun x1 x2 x3 x4 σ => (if (990 : Int32) < x4 then (k (-1000000005) σ) else (F_X3_resetThing 33 21 x1 σ (fun σ2 => (∀ σ3 : ovSt, σ3 = ov_up σ2 33 7 x4 → (F_X3_passDaysOf 33 x1 x3 σ3 (fun σ5 => (vp_in x1 8 ∧ (if (σ5 36 (Int32.toNatClampNeg x1)) < x2 then F_X5_leastPot_49 k n x1 x2 x3 (x4 + 10) σ5 else (k x4 σ5)))))))))
set_option maxRecDepth 100000 in
set_option maxHeartbeats 4000000 in
theorem V_X5_leastPot_49 {k : Int32 → ovSt → Prop} : ∀ (n : Nat) (x1 : Int32) (x2 : Int32) (x3 : Int32) (x4 : Int32) (σ : ovSt), F_X5_leastPot_49 k n x1 x2 x3 x4 σ → vv_X5_leastPot k 49 [(0, .ref 0), (1, .int x1), (2, .int x2), (3, .int x3), (4, .int x4)] [] σ := by
  intro n
  induction n with
  | zero => intro x1 x2 x3 x4 σ hF; exact hF.elim
  | succ n ih =>
    intro x1 x2 x3 x4 σ hF
    unfold F_X5_leastPot_49 at hF
    refine ov_iload dX5_leastPot_49 4 rfl ?_
    refine ov_sipush 990 (by decide) dX5_leastPot_51 ?_
    refine ov_icmp_gt 109 dX5_leastPot_54 (by decide) hF (fun hF => ?_) (fun hF => ?_)
    · refine ov_ldc dX5_leastPot_109 qc_X5_178 ?_
      exact ov_ireturn dX5_leastPot_111 (Nat.le_refl _) (Nat.le_refl _) ⟨rfl, trivial, _, rfl, hF⟩
    · refine ov_aload_n dX5_leastPot_57 0 rfl ?_
      refine ov_getr (T := TX5) (kf := 3) dX5_leastPot_58 qf_X5_28 sh_0 rfl (Nat.le_of_ble_eq_true rfl) rfl (by decide) ?_
      refine ov_aload_n dX5_leastPot_61 0 rfl ?_
      refine ov_getr (T := TX5) (kf := 1) dX5_leastPot_62 qf_X5_21 sh_0 rfl (Nat.le_of_ble_eq_true rfl) rfl (by decide) ?_
      refine ov_iload_n dX5_leastPot_65 1 rfl ?_
      refine ov_callV [.ref 21, .int x1] dX5_leastPot_66 (c_X3_resetThing hF) (Nat.le_of_ble_eq_true rfl) (Nat.le_of_ble_eq_true rfl) lk_X5_185 (ov_stk0 (by unfold ov_stk; decide)) rfl (Nat.le_of_ble_eq_true rfl) (Nat.le_refl _) (Nat.le_refl _) (fun rr σ2 hF => ?_)
      obtain ⟨rfl, hF⟩ := hF
      show vv_X5_leastPot k 69 [(0, .ref 0), (1, .int x1), (2, .int x2), (3, .int x3), (4, .int x4)] [] σ2
      refine ov_aload_n dX5_leastPot_69 0 rfl ?_
      refine ov_getr (T := TX5) (kf := 3) dX5_leastPot_70 qf_X5_28 sh_0 rfl (Nat.le_of_ble_eq_true rfl) rfl (by decide) ?_
      refine ov_iload dX5_leastPot_73 4 rfl ?_
      refine ov_puti (T := TX3) (kf := 7) dX5_leastPot_75 qf_X5_138 (ov_stk0 (by unfold ov_stk; decide)) rfl (Nat.le_of_ble_eq_true rfl) rfl rfl (by decide +kernel) ?_
      refine ov_nmS (fun σ3 es3 => ?_)
      have hF := hF σ3 es3
      refine ov_aload_n dX5_leastPot_78 0 rfl ?_
      refine ov_getr (T := TX5) (kf := 3) dX5_leastPot_79 qf_X5_28 sh_0 rfl (Nat.le_of_ble_eq_true rfl) rfl (by decide) ?_
      refine ov_iload_n dX5_leastPot_82 1 rfl ?_
      refine ov_iload_n dX5_leastPot_83 3 rfl ?_
      refine ov_callV [.int x1, .int x3] dX5_leastPot_84 (c_X3_passDaysOf hF) (Nat.le_of_ble_eq_true rfl) (Nat.le_of_ble_eq_true rfl) lk_X5_189 (ov_stk0 (by unfold ov_stk; decide)) rfl (Nat.le_of_ble_eq_true rfl) (Nat.le_refl _) (Nat.le_refl _) (fun rr σ5 hF => ?_)
      obtain ⟨rfl, hF⟩ := hF
      show vv_X5_leastPot k 87 [(0, .ref 0), (1, .int x1), (2, .int x2), (3, .int x3), (4, .int x4)] [] σ5
      refine ov_aload_n dX5_leastPot_87 0 rfl ?_
      refine ov_getr (T := TX5) (kf := 3) dX5_leastPot_88 qf_X5_28 sh_0 rfl (Nat.le_of_ble_eq_true rfl) rfl (by decide) ?_
      refine ov_getr (T := TX3) (kf := 3) dX5_leastPot_91 qf_X5_88 (ov_stk0 (by unfold ov_stk; decide)) rfl (Nat.le_of_ble_eq_true rfl) rfl (by decide) ?_
      refine ov_iload_n dX5_leastPot_94 1 rfl ?_
      have h6 := hF.1
      have hF := hF.2
      refine ov_iaload dX5_leastPot_95 sh_36 h6 ?_
      refine ov_iload_n dX5_leastPot_96 2 rfl ?_
      refine ov_icmp_lt 103 dX5_leastPot_97 (by decide) hF (fun hF => ?_) (fun hF => ?_)
      · refine ov_iinc dX5_leastPot_103 4 rfl (x4 + 10) rfl (Nat.le_of_ble_eq_true rfl) [(4, .int (x4 + 10)), (0, .ref 0), (1, .int x1), (2, .int x2), (3, .int x3)] rfl ?_
        refine ov_goto 49 dX5_leastPot_106 (by decide) ?_
        refine ov_pick [1, 2, 3, 4, 0] [(0, .ref 0), (1, .int x1), (2, .int x2), (3, .int x3), (4, .int (x4 + 10))] rfl ?_
        exact ih x1 x2 x3 (x4 + 10) σ5 hF
      · refine ov_iload dX5_leastPot_100 4 rfl ?_
        exact ov_ireturn dX5_leastPot_102 (Nat.le_refl _) (Nat.le_refl _) ⟨rfl, trivial, _, rfl, hF⟩
def F_X5_leastPot (x1 : Int32) (x2 : Int32) (x3 : Int32) (σ : ovSt) (k : Int32 → ovSt → Prop) : Prop := (F_X3_has 21 x1 σ (fun v7 σ8 => (if v7 = 0 then (F_X5_leastPot_31 k σ8) else (F_X5_within x2 0 99999 σ8 (fun v9 σ10 => (if v9 = 0 then (F_X5_leastPot_31 k σ10) else (F_X5_within x3 0 60 σ10 (fun v11 σ12 => (if v11 = 0 then (F_X5_leastPot_31 k σ12) else (F_X3_become 33 21 σ12 (fun σ14 => (∃ n15, F_X5_leastPot_49 k n15 x1 x2 x3 10 σ14))))))))))))
set_option maxRecDepth 100000 in
set_option maxHeartbeats 4000000 in
theorem c_X5_leastPot {x1 : Int32} {x2 : Int32} {x3 : Int32} {σ : ovSt} {k : Int32 → ovSt → Prop} (hF : F_X5_leastPot x1 x2 x3 σ k) : ov_Ct 5 yX5_leastPot cX5_leastPot 5 (some .int) ov_S0 [.ref 0, .int x1, .int x2, .int x3] σ (ovKi k) := by
  refine ov_Ct.of (by decide) (Nat.le_of_ble_eq_true rfl) ?_
  unfold F_X5_leastPot at hF
  show vv_X5_leastPot k 0 [(0, .ref 0), (1, .int x1), (2, .int x2), (3, .int x3)] [] σ
  refine ov_aload_n dX5_leastPot_0 0 rfl ?_
  refine ov_getr (T := TX5) (kf := 1) dX5_leastPot_1 qf_X5_21 sh_0 rfl (Nat.le_of_ble_eq_true rfl) rfl (by decide) ?_
  refine ov_iload_n dX5_leastPot_4 1 rfl ?_
  refine ov_callV [.int x1] dX5_leastPot_5 (c_X3_has hF) (Nat.le_of_ble_eq_true rfl) (Nat.le_of_ble_eq_true rfl) lk_X5_80 (ov_stk0 (by unfold ov_stk; decide)) rfl (Nat.le_of_ble_eq_true rfl) (Nat.le_refl _) (Nat.le_refl _) (fun rr σ8 hF => ?_)
  obtain ⟨v7, rfl, hF⟩ := hF
  show vv_X5_leastPot k 8 [(0, .ref 0), (1, .int x1), (2, .int x2), (3, .int x3)] [.int v7] σ8
  refine ov_if_eq 31 dX5_leastPot_8 (by decide) hF (fun hF => ?_) (fun hF => ?_)
  · refine ov_pick [] [] rfl ?_
    exact V_X5_leastPot_31 σ8 hF
  · refine ov_iload_n dX5_leastPot_11 2 rfl ?_
    refine ov_iconst 0 (by decide) dX5_leastPot_12 ?_
    refine ov_ldc dX5_leastPot_13 qc_X5_126 ?_
    refine ov_callS [.int x2, .int 0, .int 99999] dX5_leastPot_15 (c_X5_within hF) (Nat.le_of_ble_eq_true rfl) (Nat.le_of_ble_eq_true rfl) lk_X5_67 (Nat.le_of_ble_eq_true rfl) (Nat.le_refl _) (Nat.le_refl _) (fun rr σ10 hF => ?_)
    obtain ⟨v9, rfl, hF⟩ := hF
    show vv_X5_leastPot k 18 [(0, .ref 0), (1, .int x1), (2, .int x2), (3, .int x3)] [.int v9] σ10
    refine ov_if_eq 31 dX5_leastPot_18 (by decide) hF (fun hF => ?_) (fun hF => ?_)
    · refine ov_pick [] [] rfl ?_
      exact V_X5_leastPot_31 σ10 hF
    · refine ov_iload_n dX5_leastPot_21 3 rfl ?_
      refine ov_iconst 0 (by decide) dX5_leastPot_22 ?_
      refine ov_bipush 60 (by decide) dX5_leastPot_23 ?_
      refine ov_callS [.int x3, .int 0, .int 60] dX5_leastPot_25 (c_X5_within hF) (Nat.le_of_ble_eq_true rfl) (Nat.le_of_ble_eq_true rfl) lk_X5_67 (Nat.le_of_ble_eq_true rfl) (Nat.le_refl _) (Nat.le_refl _) (fun rr σ12 hF => ?_)
      obtain ⟨v11, rfl, hF⟩ := hF
      show vv_X5_leastPot k 28 [(0, .ref 0), (1, .int x1), (2, .int x2), (3, .int x3)] [.int v11] σ12
      refine ov_if_ne 34 dX5_leastPot_28 (by decide) hF (fun hF => ?_) (fun hF => ?_)
      · refine ov_aload_n dX5_leastPot_34 0 rfl ?_
        refine ov_getr (T := TX5) (kf := 3) dX5_leastPot_35 qf_X5_28 sh_0 rfl (Nat.le_of_ble_eq_true rfl) rfl (by decide) ?_
        refine ov_aload_n dX5_leastPot_38 0 rfl ?_
        refine ov_getr (T := TX5) (kf := 1) dX5_leastPot_39 qf_X5_21 sh_0 rfl (Nat.le_of_ble_eq_true rfl) rfl (by decide) ?_
        refine ov_callV [.ref 21] dX5_leastPot_42 (c_X3_become hF) (Nat.le_of_ble_eq_true rfl) (Nat.le_of_ble_eq_true rfl) lk_X5_171 (ov_stk0 (by unfold ov_stk; decide)) rfl (Nat.le_of_ble_eq_true rfl) (Nat.le_refl _) (Nat.le_refl _) (fun rr σ14 hF => ?_)
        obtain ⟨rfl, hF⟩ := hF
        show vv_X5_leastPot k 45 [(0, .ref 0), (1, .int x1), (2, .int x2), (3, .int x3)] [] σ14
        refine ov_bipush 10 (by decide) dX5_leastPot_45 ?_
        refine ov_istore dX5_leastPot_47 (Nat.le_of_ble_eq_true rfl) [(4, .int 10), (0, .ref 0), (1, .int x1), (2, .int x2), (3, .int x3)] rfl ?_
        refine ov_pick [1, 2, 3, 4, 0] [(0, .ref 0), (1, .int x1), (2, .int x2), (3, .int x3), (4, .int 10)] rfl ?_
        obtain ⟨n15, hF⟩ := hF
        exact V_X5_leastPot_49 n15 x1 x2 x3 10 σ14 hF
      · refine ov_pick [] [] rfl ?_
        exact V_X5_leastPot_31 σ12 hF
/-! X5_nearest -/
abbrev vv_X5_nearest (k : Int32 → ovSt → Prop) (pc : Nat) (L : List (Nat × Value)) (st : List Value) (σ : ovSt) : Prop := ov_V (ovZs 5 yX5_nearest cX5_nearest 6) (ovKs (some .int) ov_S0 (ovKi k)) (0, 0) ov_S0 pc L st σ
def F_X5_nearest_82 (R42 : Int32 → Int32 → Int32 → Int32 → ovSt → Prop) (k : Int32 → ovSt → Prop) (x1 : Int32) (x2 : Int32) (x3 : Int32) (x4 : Int32) (σ : ovSt) : Prop := R42 x1 x2 x3 (x4 + 1) σ
set_option maxRecDepth 100000 in
set_option maxHeartbeats 4000000 in
theorem V_X5_nearest_82 {k : Int32 → ovSt → Prop} {R42 : Int32 → Int32 → Int32 → Int32 → ovSt → Prop} (hR42 : ∀ (x1 : Int32) (x2 : Int32) (x3 : Int32) (x4 : Int32) (σ : ovSt), R42 x1 x2 x3 x4 σ → vv_X5_nearest k 42 [(0, .ref 0), (1, .int x1), (2, .int x2), (3, .int x3), (4, .int x4)] [] σ) (x1 : Int32) (x2 : Int32) (x3 : Int32) (x4 : Int32) (σ : ovSt) (hF : F_X5_nearest_82 R42 k x1 x2 x3 x4 σ) : vv_X5_nearest k 82 [(0, .ref 0), (1, .int x1), (2, .int x2), (3, .int x3), (4, .int x4)] [] σ := by
  unfold F_X5_nearest_82 at hF
  refine ov_iinc dX5_nearest_82 4 rfl (x4 + 1) rfl (Nat.le_of_ble_eq_true rfl) [(4, .int (x4 + 1)), (0, .ref 0), (1, .int x1), (2, .int x2), (3, .int x3)] rfl ?_
  refine ov_goto 42 dX5_nearest_85 (by decide) ?_
  refine ov_pick [1, 2, 3, 4, 0] [(0, .ref 0), (1, .int x1), (2, .int x2), (3, .int x3), (4, .int (x4 + 1))] rfl ?_
  exact hR42 x1 x2 x3 (x4 + 1) σ hF
def F_X5_nearest_42 (k : Int32 → ovSt → Prop) : Nat → Int32 → Int32 → Int32 → Int32 → ovSt → Prop
  | 0 => fun _ _ _ _ _ => False
  | n + 1 => fun x1 x2 x3 x4 σ => (if (100 : Int32) < x4 then (k x2 σ) else (F_X3_passDay 33 σ (fun σ2 => (F_X3_tasteOfAll 33 σ2 (fun v3 σ4 => (∀ v5 : Int32, v5 = (ov_abs (v3 - x1)) → (if x3 ≤ v5 then (F_X5_nearest_82 (F_X5_nearest_42 k n) k x1 x2 x3 x4 σ4) else (F_X5_nearest_82 (F_X5_nearest_42 k n) k x1 x4 v5 x4 σ4))))))))
set_option maxRecDepth 100000 in
set_option maxHeartbeats 4000000 in
theorem V_X5_nearest_42 {k : Int32 → ovSt → Prop} : ∀ (n : Nat) (x1 : Int32) (x2 : Int32) (x3 : Int32) (x4 : Int32) (σ : ovSt), F_X5_nearest_42 k n x1 x2 x3 x4 σ → vv_X5_nearest k 42 [(0, .ref 0), (1, .int x1), (2, .int x2), (3, .int x3), (4, .int x4)] [] σ := by
  intro n
  induction n with
  | zero => intro x1 x2 x3 x4 σ hF; exact hF.elim
  | succ n ih =>
    intro x1 x2 x3 x4 σ hF
    unfold F_X5_nearest_42 at hF
    refine ov_iload dX5_nearest_42 4 rfl ?_
    refine ov_bipush 100 (by decide) dX5_nearest_44 ?_
    refine ov_icmp_gt 88 dX5_nearest_46 (by decide) hF (fun hF => ?_) (fun hF => ?_)
    · refine ov_iload_n dX5_nearest_88 2 rfl ?_
      exact ov_ireturn dX5_nearest_89 (Nat.le_refl _) (Nat.le_refl _) ⟨rfl, trivial, _, rfl, hF⟩
    · refine ov_aload_n dX5_nearest_49 0 rfl ?_
      refine ov_getr (T := TX5) (kf := 3) dX5_nearest_50 qf_X5_28 sh_0 rfl (Nat.le_of_ble_eq_true rfl) rfl (by decide) ?_
      refine ov_callV [] dX5_nearest_53 (c_X3_passDay hF) (Nat.le_of_ble_eq_true rfl) (Nat.le_of_ble_eq_true rfl) lk_X5_192 (ov_stk0 (by unfold ov_stk; decide)) rfl (Nat.le_of_ble_eq_true rfl) (Nat.le_refl _) (Nat.le_refl _) (fun rr σ2 hF => ?_)
      obtain ⟨rfl, hF⟩ := hF
      show vv_X5_nearest k 56 [(0, .ref 0), (1, .int x1), (2, .int x2), (3, .int x3), (4, .int x4)] [] σ2
      refine ov_aload_n dX5_nearest_56 0 rfl ?_
      refine ov_getr (T := TX5) (kf := 3) dX5_nearest_57 qf_X5_28 sh_0 rfl (Nat.le_of_ble_eq_true rfl) rfl (by decide) ?_
      refine ov_callV [] dX5_nearest_60 (c_X3_tasteOfAll hF) (Nat.le_of_ble_eq_true rfl) (Nat.le_of_ble_eq_true rfl) lk_X5_151 (ov_stk0 (by unfold ov_stk; decide)) rfl (Nat.le_of_ble_eq_true rfl) (Nat.le_refl _) (Nat.le_refl _) (fun rr σ4 hF => ?_)
      obtain ⟨v3, rfl, hF⟩ := hF
      show vv_X5_nearest k 63 [(0, .ref 0), (1, .int x1), (2, .int x2), (3, .int x3), (4, .int x4)] [.int v3] σ4
      refine ov_iload_n dX5_nearest_63 1 rfl ?_
      refine ov_isub dX5_nearest_64 ?_
      refine ov_mabs dX5_nearest_65 lk_X5_182 (Nat.le_of_ble_eq_true rfl) (Nat.le_of_ble_eq_true rfl) (Nat.le_refl _) (Nat.le_refl _) ?_
      refine ov_nmI (fun v5 ev5 => ?_)
      have hF := hF v5 ev5
      refine ov_istore dX5_nearest_68 (Nat.le_of_ble_eq_true rfl) [(5, .int v5), (0, .ref 0), (1, .int x1), (2, .int x2), (3, .int x3), (4, .int x4)] rfl ?_
      refine ov_iload dX5_nearest_70 0 rfl ?_
      refine ov_iload_n dX5_nearest_72 4 rfl ?_
      refine ov_icmp_ge 82 dX5_nearest_73 (by decide) hF (fun hF => ?_) (fun hF => ?_)
      · refine ov_pick [1, 2, 3, 4, 5] [(0, .ref 0), (1, .int x1), (2, .int x2), (3, .int x3), (4, .int x4)] rfl ?_
        exact V_X5_nearest_82 ih x1 x2 x3 x4 σ4 hF
      · refine ov_iload dX5_nearest_76 5 rfl ?_
        refine ov_istore_n dX5_nearest_78 (Nat.le_of_ble_eq_true rfl) [(2, .int x4), (5, .int v5), (0, .ref 0), (1, .int x1), (3, .int x3), (4, .int x4)] rfl ?_
        refine ov_iload dX5_nearest_79 1 rfl ?_
        refine ov_istore_n dX5_nearest_81 (Nat.le_of_ble_eq_true rfl) [(3, .int v5), (2, .int x4), (5, .int v5), (0, .ref 0), (1, .int x1), (4, .int x4)] rfl ?_
        refine ov_pick [3, 4, 1, 0, 5] [(0, .ref 0), (1, .int x1), (2, .int x4), (3, .int v5), (4, .int x4)] rfl ?_
        exact V_X5_nearest_82 ih x1 x4 v5 x4 σ4 hF
def F_X5_nearest (x1 : Int32) (σ : ovSt) (k : Int32 → ovSt → Prop) : Prop := (F_X5_within x1 0 99999 σ (fun v6 σ7 => (if v6 = 0 then (k (-1000000001) σ7) else (F_X3_become 33 21 σ7 (fun σ9 => (F_X3_tasteOfAll 33 σ9 (fun v10 σ11 => (∀ v12 : Int32, v12 = (ov_abs (v10 - x1)) → (∃ n13, F_X5_nearest_42 k n13 x1 0 v12 1 σ11)))))))))
set_option maxRecDepth 100000 in
set_option maxHeartbeats 4000000 in
theorem c_X5_nearest {x1 : Int32} {σ : ovSt} {k : Int32 → ovSt → Prop} (hF : F_X5_nearest x1 σ k) : ov_Ct 5 yX5_nearest cX5_nearest 6 (some .int) ov_S0 [.ref 0, .int x1] σ (ovKi k) := by
  refine ov_Ct.of (by decide) (Nat.le_of_ble_eq_true rfl) ?_
  unfold F_X5_nearest at hF
  show vv_X5_nearest k 0 [(0, .ref 0), (1, .int x1)] [] σ
  refine ov_iload_n dX5_nearest_0 1 rfl ?_
  refine ov_iconst 0 (by decide) dX5_nearest_1 ?_
  refine ov_ldc dX5_nearest_2 qc_X5_126 ?_
  refine ov_callS [.int x1, .int 0, .int 99999] dX5_nearest_4 (c_X5_within hF) (Nat.le_of_ble_eq_true rfl) (Nat.le_of_ble_eq_true rfl) lk_X5_67 (Nat.le_of_ble_eq_true rfl) (Nat.le_refl _) (Nat.le_refl _) (fun rr σ7 hF => ?_)
  obtain ⟨v6, rfl, hF⟩ := hF
  show vv_X5_nearest k 7 [(0, .ref 0), (1, .int x1)] [.int v6] σ7
  refine ov_if_ne 13 dX5_nearest_7 (by decide) hF (fun hF => ?_) (fun hF => ?_)
  · refine ov_aload_n dX5_nearest_13 0 rfl ?_
    refine ov_getr (T := TX5) (kf := 3) dX5_nearest_14 qf_X5_28 sh_0 rfl (Nat.le_of_ble_eq_true rfl) rfl (by decide) ?_
    refine ov_aload_n dX5_nearest_17 0 rfl ?_
    refine ov_getr (T := TX5) (kf := 1) dX5_nearest_18 qf_X5_21 sh_0 rfl (Nat.le_of_ble_eq_true rfl) rfl (by decide) ?_
    refine ov_callV [.ref 21] dX5_nearest_21 (c_X3_become hF) (Nat.le_of_ble_eq_true rfl) (Nat.le_of_ble_eq_true rfl) lk_X5_171 (ov_stk0 (by unfold ov_stk; decide)) rfl (Nat.le_of_ble_eq_true rfl) (Nat.le_refl _) (Nat.le_refl _) (fun rr σ9 hF => ?_)
    obtain ⟨rfl, hF⟩ := hF
    show vv_X5_nearest k 24 [(0, .ref 0), (1, .int x1)] [] σ9
    refine ov_iconst 0 (by decide) dX5_nearest_24 ?_
    refine ov_istore_n dX5_nearest_25 (Nat.le_of_ble_eq_true rfl) [(2, .int 0), (0, .ref 0), (1, .int x1)] rfl ?_
    refine ov_aload_n dX5_nearest_26 1 rfl ?_
    refine ov_getr (T := TX5) (kf := 3) dX5_nearest_27 qf_X5_28 sh_0 rfl (Nat.le_of_ble_eq_true rfl) rfl (by decide) ?_
    refine ov_callV [] dX5_nearest_30 (c_X3_tasteOfAll hF) (Nat.le_of_ble_eq_true rfl) (Nat.le_of_ble_eq_true rfl) lk_X5_151 (ov_stk0 (by unfold ov_stk; decide)) rfl (Nat.le_of_ble_eq_true rfl) (Nat.le_refl _) (Nat.le_refl _) (fun rr σ11 hF => ?_)
    obtain ⟨v10, rfl, hF⟩ := hF
    show vv_X5_nearest k 33 [(2, .int 0), (0, .ref 0), (1, .int x1)] [.int v10] σ11
    refine ov_iload_n dX5_nearest_33 2 rfl ?_
    refine ov_isub dX5_nearest_34 ?_
    refine ov_mabs dX5_nearest_35 lk_X5_182 (Nat.le_of_ble_eq_true rfl) (Nat.le_of_ble_eq_true rfl) (Nat.le_refl _) (Nat.le_refl _) ?_
    refine ov_nmI (fun v12 ev12 => ?_)
    have hF := hF v12 ev12
    refine ov_istore_n dX5_nearest_38 (Nat.le_of_ble_eq_true rfl) [(3, .int v12), (2, .int 0), (0, .ref 0), (1, .int x1)] rfl ?_
    refine ov_iconst 1 (by decide) dX5_nearest_39 ?_
    refine ov_istore dX5_nearest_40 (Nat.le_of_ble_eq_true rfl) [(4, .int 1), (3, .int v12), (2, .int 0), (0, .ref 0), (1, .int x1)] rfl ?_
    refine ov_pick [3, 4, 2, 1, 0] [(0, .ref 0), (1, .int x1), (2, .int 0), (3, .int v12), (4, .int 1)] rfl ?_
    obtain ⟨n13, hF⟩ := hF
    exact V_X5_nearest_42 n13 x1 0 v12 1 σ11 hF
  · refine ov_ldc dX5_nearest_10 qc_X5_71 ?_
    exact ov_ireturn dX5_nearest_12 (Nat.le_refl _) (Nat.le_refl _) ⟨rfl, trivial, _, rfl, hF⟩
/-! X5_gapIfThrown -/
abbrev vv_X5_gapIfThrown (k : Int32 → ovSt → Prop) (pc : Nat) (L : List (Nat × Value)) (st : List Value) (σ : ovSt) : Prop := ov_V (ovZs 5 yX5_gapIfThrown cX5_gapIfThrown 5) (ovKs (some .int) ov_S0 (ovKi k)) (0, 0) ov_S0 pc L st σ
def F_X5_gapIfThrown_66 (R27 : Int32 → Int32 → ovSt → Prop) (r1 : Nat) (k : Int32 → ovSt → Prop) (x3 : Int32) (x4 : Int32) (σ : ovSt) : Prop := (F_X3_passDay 33 σ (fun σ2 => R27 x3 (x4 + 1) σ2))
set_option maxRecDepth 100000 in
set_option maxHeartbeats 4000000 in
theorem V_X5_gapIfThrown_66 {k : Int32 → ovSt → Prop} {r1 : Nat} {R27 : Int32 → Int32 → ovSt → Prop} (hR27 : ∀ (x3 : Int32) (x4 : Int32) (σ : ovSt), R27 x3 x4 σ → vv_X5_gapIfThrown k 27 [(0, .ref 0), (1, .ref r1), (3, .int x3), (4, .int x4)] [] σ) (hr1 : ov_isr r1) (x3 : Int32) (x4 : Int32) (σ : ovSt) (hF : F_X5_gapIfThrown_66 R27 r1 k x3 x4 σ) : vv_X5_gapIfThrown k 66 [(0, .ref 0), (1, .ref r1), (3, .int x3), (4, .int x4)] [] σ := by
  unfold F_X5_gapIfThrown_66 at hF
  refine ov_aload_n dX5_gapIfThrown_66 0 rfl ?_
  refine ov_getr (T := TX5) (kf := 3) dX5_gapIfThrown_67 qf_X5_28 sh_0 rfl (Nat.le_of_ble_eq_true rfl) rfl (by decide) ?_
  refine ov_callV [] dX5_gapIfThrown_70 (c_X3_passDay hF) (Nat.le_of_ble_eq_true rfl) (Nat.le_of_ble_eq_true rfl) lk_X5_192 (ov_stk0 (by unfold ov_stk; decide)) rfl (Nat.le_of_ble_eq_true rfl) (Nat.le_refl _) (Nat.le_refl _) (fun rr σ2 hF => ?_)
  obtain ⟨rfl, hF⟩ := hF
  show vv_X5_gapIfThrown k 73 [(0, .ref 0), (1, .ref r1), (3, .int x3), (4, .int x4)] [] σ2
  refine ov_iinc dX5_gapIfThrown_73 3 rfl (x4 + 1) rfl (Nat.le_of_ble_eq_true rfl) [(4, .int (x4 + 1)), (0, .ref 0), (1, .ref r1), (3, .int x3)] rfl ?_
  refine ov_goto 27 dX5_gapIfThrown_76 (by decide) ?_
  refine ov_pick [1, 2, 3, 0] [(0, .ref 0), (1, .ref r1), (3, .int x3), (4, .int (x4 + 1))] rfl ?_
  exact hR27 x3 (x4 + 1) σ2 hF
def F_X5_gapIfThrown_27 (r1 : Nat) (k : Int32 → ovSt → Prop) : Nat → Int32 → Int32 → ovSt → Prop
  | 0 => fun _ _ _ => False
  | n + 1 => fun x3 x4 σ => (if (σ r1 2) ≤ x4 then (k x3 σ) else (F_X1_isNumber r1 x4 σ (fun v3 σ4 => (if v3 = 0 then (F_X5_gapIfThrown_66 (F_X5_gapIfThrown_27 r1 k n) r1 k x3 x4 σ4) else (F_X3_tasteOfAll 33 σ4 (fun v5 σ6 => (vp_in x4 24 ∧ (∀ v8 : Int32, v8 = (x3 + (ov_abs (v5 - (σ6 (r1 + 1) (Int32.toNatClampNeg x4))))) → (F_X5_gapIfThrown_66 (F_X5_gapIfThrown_27 r1 k n) r1 k v8 x4 σ6)))))))))
set_option maxRecDepth 100000 in
set_option maxHeartbeats 4000000 in
theorem V_X5_gapIfThrown_27 {k : Int32 → ovSt → Prop} {r1 : Nat} (hr1 : ov_isr r1) : ∀ (n : Nat) (x3 : Int32) (x4 : Int32) (σ : ovSt), F_X5_gapIfThrown_27 r1 k n x3 x4 σ → vv_X5_gapIfThrown k 27 [(0, .ref 0), (1, .ref r1), (3, .int x3), (4, .int x4)] [] σ := by
  intro n
  induction n with
  | zero => intro x3 x4 σ hF; exact hF.elim
  | succ n ih =>
    intro x3 x4 σ hF
    unfold F_X5_gapIfThrown_27 at hF
    refine ov_iload dX5_gapIfThrown_27 3 rfl ?_
    refine ov_aload_n dX5_gapIfThrown_29 1 rfl ?_
    refine ov_geti (T := TX1) (kf := 2) dX5_gapIfThrown_30 qf_X5_207 (ov_isr0 hr1) rfl (Nat.le_of_ble_eq_true rfl) rfl ?_
    refine ov_icmp_ge 79 dX5_gapIfThrown_33 (by decide) hF (fun hF => ?_) (fun hF => ?_)
    · refine ov_iload_n dX5_gapIfThrown_79 2 rfl ?_
      exact ov_ireturn dX5_gapIfThrown_80 (Nat.le_refl _) (Nat.le_refl _) ⟨rfl, trivial, _, rfl, hF⟩
    · refine ov_aload_n dX5_gapIfThrown_36 1 rfl ?_
      refine ov_iload dX5_gapIfThrown_37 3 rfl ?_
      refine ov_callV [.int x4] dX5_gapIfThrown_39 (c_X1_isNumber hF) (Nat.le_of_ble_eq_true rfl) (Nat.le_of_ble_eq_true rfl) lk_X5_210 (ov_isr0 hr1) rfl (Nat.le_of_ble_eq_true rfl) (Nat.le_refl _) (Nat.le_refl _) (fun rr σ4 hF => ?_)
      obtain ⟨v3, rfl, hF⟩ := hF
      show vv_X5_gapIfThrown k 42 [(0, .ref 0), (1, .ref r1), (3, .int x3), (4, .int x4)] [.int v3] σ4
      refine ov_if_eq 66 dX5_gapIfThrown_42 (by decide) hF (fun hF => ?_) (fun hF => ?_)
      · exact V_X5_gapIfThrown_66 ih hr1 x3 x4 σ4 hF
      · refine ov_iload_n dX5_gapIfThrown_45 2 rfl ?_
        refine ov_aload_n dX5_gapIfThrown_46 0 rfl ?_
        refine ov_getr (T := TX5) (kf := 3) dX5_gapIfThrown_47 qf_X5_28 sh_0 rfl (Nat.le_of_ble_eq_true rfl) rfl (by decide) ?_
        refine ov_callV [] dX5_gapIfThrown_50 (c_X3_tasteOfAll hF) (Nat.le_of_ble_eq_true rfl) (Nat.le_of_ble_eq_true rfl) lk_X5_151 (ov_stk0 (by unfold ov_stk; decide)) rfl (Nat.le_of_ble_eq_true rfl) (Nat.le_refl _) (Nat.le_refl _) (fun rr σ6 hF => ?_)
        obtain ⟨v5, rfl, hF⟩ := hF
        show vv_X5_gapIfThrown k 53 [(0, .ref 0), (1, .ref r1), (3, .int x3), (4, .int x4)] [.int v5, .int x3] σ6
        refine ov_aload_n dX5_gapIfThrown_53 1 rfl ?_
        refine ov_getr (T := TX1) (kf := 0) dX5_gapIfThrown_54 qf_X5_213 (ov_isr0 hr1) rfl (Nat.le_of_ble_eq_true rfl) rfl (ov_isrn hr1 1 (by decide)) ?_
        refine ov_iload dX5_gapIfThrown_57 3 rfl ?_
        have h7 := hF.1
        have hF := hF.2
        refine ov_iaload dX5_gapIfThrown_59 (ov_isr1 hr1) h7 ?_
        refine ov_isub dX5_gapIfThrown_60 ?_
        refine ov_mabs dX5_gapIfThrown_61 lk_X5_182 (Nat.le_of_ble_eq_true rfl) (Nat.le_of_ble_eq_true rfl) (Nat.le_refl _) (Nat.le_refl _) ?_
        refine ov_iadd dX5_gapIfThrown_64 ?_
        refine ov_nmI (fun v8 ev8 => ?_)
        have hF := hF v8 ev8
        refine ov_istore_n dX5_gapIfThrown_65 (Nat.le_of_ble_eq_true rfl) [(3, .int v8), (0, .ref 0), (1, .ref r1), (4, .int x4)] rfl ?_
        refine ov_pick [1, 2, 0, 3] [(0, .ref 0), (1, .ref r1), (3, .int v8), (4, .int x4)] rfl ?_
        exact V_X5_gapIfThrown_66 ih hr1 v8 x4 σ6 hF
def F_X5_gapIfThrown (r1 : Nat) (x2 : Int32) (σ : ovSt) (k : Int32 → ovSt → Prop) : Prop := (ov_isr r1 ∧ (F_X3_become 33 21 σ (fun σ10 => (F_X3_throwIn 33 x2 500 σ10 (fun σ12 => (∃ n13, F_X5_gapIfThrown_27 r1 k n13 0 0 σ12))))))
set_option maxRecDepth 100000 in
set_option maxHeartbeats 4000000 in
theorem c_X5_gapIfThrown {r1 : Nat} {x2 : Int32} {σ : ovSt} {k : Int32 → ovSt → Prop} (hF : F_X5_gapIfThrown r1 x2 σ k) : ov_Ct 5 yX5_gapIfThrown cX5_gapIfThrown 5 (some .int) ov_S0 [.ref 0, .ref r1, .int x2] σ (ovKi k) := by
  refine ov_Ct.of (by decide) (Nat.le_of_ble_eq_true rfl) ?_
  unfold F_X5_gapIfThrown at hF
  have hr1 := hF.1
  have hF := hF.2
  show vv_X5_gapIfThrown k 0 [(0, .ref 0), (1, .ref r1), (2, .int x2)] [] σ
  refine ov_aload_n dX5_gapIfThrown_0 0 rfl ?_
  refine ov_getr (T := TX5) (kf := 3) dX5_gapIfThrown_1 qf_X5_28 sh_0 rfl (Nat.le_of_ble_eq_true rfl) rfl (by decide) ?_
  refine ov_aload_n dX5_gapIfThrown_4 0 rfl ?_
  refine ov_getr (T := TX5) (kf := 1) dX5_gapIfThrown_5 qf_X5_21 sh_0 rfl (Nat.le_of_ble_eq_true rfl) rfl (by decide) ?_
  refine ov_callV [.ref 21] dX5_gapIfThrown_8 (c_X3_become hF) (Nat.le_of_ble_eq_true rfl) (Nat.le_of_ble_eq_true rfl) lk_X5_171 (ov_stk0 (by unfold ov_stk; decide)) rfl (Nat.le_of_ble_eq_true rfl) (Nat.le_refl _) (Nat.le_refl _) (fun rr σ10 hF => ?_)
  obtain ⟨rfl, hF⟩ := hF
  show vv_X5_gapIfThrown k 11 [(0, .ref 0), (1, .ref r1), (2, .int x2)] [] σ10
  refine ov_aload_n dX5_gapIfThrown_11 0 rfl ?_
  refine ov_getr (T := TX5) (kf := 3) dX5_gapIfThrown_12 qf_X5_28 sh_0 rfl (Nat.le_of_ble_eq_true rfl) rfl (by decide) ?_
  refine ov_iload_n dX5_gapIfThrown_15 2 rfl ?_
  refine ov_sipush 500 (by decide) dX5_gapIfThrown_16 ?_
  refine ov_callV [.int x2, .int 500] dX5_gapIfThrown_19 (c_X3_throwIn hF) (Nat.le_of_ble_eq_true rfl) (Nat.le_of_ble_eq_true rfl) lk_X5_84 (ov_stk0 (by unfold ov_stk; decide)) rfl (Nat.le_of_ble_eq_true rfl) (Nat.le_refl _) (Nat.le_refl _) (fun rr σ12 hF => ?_)
  obtain ⟨rfl, hF⟩ := hF
  show vv_X5_gapIfThrown k 22 [(0, .ref 0), (1, .ref r1), (2, .int x2)] [] σ12
  refine ov_iconst 0 (by decide) dX5_gapIfThrown_22 ?_
  refine ov_istore_n dX5_gapIfThrown_23 (Nat.le_of_ble_eq_true rfl) [(3, .int 0), (0, .ref 0), (1, .ref r1), (2, .int x2)] rfl ?_
  refine ov_iconst 0 (by decide) dX5_gapIfThrown_24 ?_
  refine ov_istore dX5_gapIfThrown_25 (Nat.le_of_ble_eq_true rfl) [(4, .int 0), (3, .int 0), (0, .ref 0), (1, .ref r1), (2, .int x2)] rfl ?_
  refine ov_pick [2, 3, 1, 0] [(0, .ref 0), (1, .ref r1), (3, .int 0), (4, .int 0)] rfl ?_
  obtain ⟨n13, hF⟩ := hF
  exact V_X5_gapIfThrown_27 hr1 n13 0 0 σ12 hF
/-! X5_isSheet -/
abbrev vv_X5_isSheet (k : Int32 → ovSt → Prop) (pc : Nat) (L : List (Nat × Value)) (st : List Value) (σ : ovSt) : Prop := ov_V (ovZs 1 yX5_isSheet cX5_isSheet 1) (ovKs (some .boolean) ov_S0 (ovKi k)) (0, 0) ov_S0 pc L st σ
def F_X5_isSheet (x0 : Int32) (σ : ovSt) (k : Int32 → ovSt → Prop) : Prop := (F_X5_within x0 0 3 σ (fun v1 σ2 => (ov_bl v1 ∧ (k v1 σ2))))
set_option maxRecDepth 100000 in
set_option maxHeartbeats 4000000 in
theorem c_X5_isSheet {x0 : Int32} {σ : ovSt} {k : Int32 → ovSt → Prop} (hF : F_X5_isSheet x0 σ k) : ov_Ct 1 yX5_isSheet cX5_isSheet 1 (some .boolean) ov_S0 [.int x0] σ (ovKi k) := by
  refine ov_Ct.of (by decide) (Nat.le_of_ble_eq_true rfl) ?_
  unfold F_X5_isSheet at hF
  show vv_X5_isSheet k 0 [(0, .int x0)] [] σ
  refine ov_iload_n dX5_isSheet_0 0 rfl ?_
  refine ov_iconst 0 (by decide) dX5_isSheet_1 ?_
  refine ov_iconst 3 (by decide) dX5_isSheet_2 ?_
  refine ov_callS [.int x0, .int 0, .int 3] dX5_isSheet_3 (c_X5_within hF) (Nat.le_of_ble_eq_true rfl) (Nat.le_of_ble_eq_true rfl) lk_X5_67 (Nat.le_of_ble_eq_true rfl) (Nat.le_refl _) (Nat.le_refl _) (fun rr σ2 hF => ?_)
  obtain ⟨v1, rfl, hF⟩ := hF
  show vv_X5_isSheet k 6 [(0, .int x0)] [.int v1] σ2
  have h3 := hF.1
  have hF := hF.2
  exact ov_ireturn dX5_isSheet_6 (Nat.le_refl _) (Nat.le_refl _) ⟨rfl, h3, _, rfl, hF⟩
/-! X5_thrown -/
abbrev vv_X5_thrown (k : Int32 → ovSt → Prop) (pc : Nat) (L : List (Nat × Value)) (st : List Value) (σ : ovSt) : Prop := ov_V (ovZs 6 yX5_thrown cX5_thrown 7) (ovKs (some .int) ov_S0 (ovKi k)) (0, 0) ov_S0 pc L st σ
def F_X5_thrown_16 (k : Int32 → ovSt → Prop) (σ : ovSt) : Prop := (k (-1000000001) σ)
set_option maxRecDepth 100000 in
set_option maxHeartbeats 4000000 in
theorem V_X5_thrown_16 {k : Int32 → ovSt → Prop} (σ : ovSt) (hF : F_X5_thrown_16 k σ) : vv_X5_thrown k 16 [] [] σ := by
  unfold F_X5_thrown_16 at hF
  refine ov_ldc dX5_thrown_16 qc_X5_71 ?_
  exact ov_ireturn dX5_thrown_18 (Nat.le_refl _) (Nat.le_refl _) ⟨rfl, trivial, _, rfl, hF⟩
def F_X5_thrown_105 (R65 : Int32 → Int32 → Int32 → Int32 → Int32 → ovSt → Prop) (k : Int32 → ovSt → Prop) (x1 : Int32) (x2 : Int32) (x3 : Int32) (x4 : Int32) (x5 : Int32) (σ : ovSt) : Prop := R65 x1 x2 x3 x4 (x5 + 1) σ
set_option maxRecDepth 100000 in
set_option maxHeartbeats 4000000 in
theorem V_X5_thrown_105 {k : Int32 → ovSt → Prop} {R65 : Int32 → Int32 → Int32 → Int32 → Int32 → ovSt → Prop} (hR65 : ∀ (x1 : Int32) (x2 : Int32) (x3 : Int32) (x4 : Int32) (x5 : Int32) (σ : ovSt), R65 x1 x2 x3 x4 x5 σ → vv_X5_thrown k 65 [(0, .ref 0), (1, .int x1), (2, .int x2), (3, .int x3), (4, .int x4), (5, .int x5)] [] σ) (x1 : Int32) (x2 : Int32) (x3 : Int32) (x4 : Int32) (x5 : Int32) (σ : ovSt) (hF : F_X5_thrown_105 R65 k x1 x2 x3 x4 x5 σ) : vv_X5_thrown k 105 [(0, .ref 0), (1, .int x1), (2, .int x2), (3, .int x3), (4, .int x4), (5, .int x5)] [] σ := by
  unfold F_X5_thrown_105 at hF
  refine ov_iinc dX5_thrown_105 5 rfl (x5 + 1) rfl (Nat.le_of_ble_eq_true rfl) [(5, .int (x5 + 1)), (0, .ref 0), (1, .int x1), (2, .int x2), (3, .int x3), (4, .int x4)] rfl ?_
  refine ov_goto 65 dX5_thrown_108 (by decide) ?_
  refine ov_pick [1, 2, 3, 4, 5, 0] [(0, .ref 0), (1, .int x1), (2, .int x2), (3, .int x3), (4, .int x4), (5, .int (x5 + 1))] rfl ?_
  exact hR65 x1 x2 x3 x4 (x5 + 1) σ hF
def F_X5_thrown_121 (k : Int32 → ovSt → Prop) (t0 : Int32) (σ : ovSt) : Prop := (k t0 σ)
set_option maxRecDepth 100000 in
set_option maxHeartbeats 4000000 in
theorem V_X5_thrown_121 {k : Int32 → ovSt → Prop} (t0 : Int32) (σ : ovSt) (hF : F_X5_thrown_121 k t0 σ) : vv_X5_thrown k 121 [] [.int t0] σ := by
  unfold F_X5_thrown_121 at hF
  exact ov_ireturn dX5_thrown_121 (Nat.le_refl _) (Nat.le_refl _) ⟨rfl, trivial, _, rfl, hF⟩
def F_X5_thrown_65 (k : Int32 → ovSt → Prop) : Nat → Int32 → Int32 → Int32 → Int32 → Int32 → ovSt → Prop
  | 0 => fun _ _ _ _ _ _ => False
  | n + 1 => fun x1 x2 x3 x4 x5 σ => (if (σ 21 6) ≤ x5 then (if x2 = 0 then (F_X5_thrown_121 k x3 σ) else (F_X5_thrown_121 k x4 σ)) else (vp_in x1 4 ∧ (F_X5_gapIfThrown (51 + 2 * Int32.toNatClampNeg x1) x5 σ (fun v2 σ3 => (if x4 ≤ v2 then (F_X5_thrown_105 (F_X5_thrown_65 k n) k x1 x2 x3 x4 x5 σ3) else (F_X5_thrown_105 (F_X5_thrown_65 k n) k x1 x2 x5 v2 x5 σ3))))))
set_option maxRecDepth 100000 in
set_option maxHeartbeats 4000000 in
theorem V_X5_thrown_65 {k : Int32 → ovSt → Prop} : ∀ (n : Nat) (x1 : Int32) (x2 : Int32) (x3 : Int32) (x4 : Int32) (x5 : Int32) (σ : ovSt), F_X5_thrown_65 k n x1 x2 x3 x4 x5 σ → vv_X5_thrown k 65 [(0, .ref 0), (1, .int x1), (2, .int x2), (3, .int x3), (4, .int x4), (5, .int x5)] [] σ := by
  intro n
  induction n with
  | zero => intro x1 x2 x3 x4 x5 σ hF; exact hF.elim
  | succ n ih =>
    intro x1 x2 x3 x4 x5 σ hF
    unfold F_X5_thrown_65 at hF
    refine ov_iload dX5_thrown_65 5 rfl ?_
    refine ov_aload_n dX5_thrown_67 0 rfl ?_
    refine ov_getr (T := TX5) (kf := 1) dX5_thrown_68 qf_X5_21 sh_0 rfl (Nat.le_of_ble_eq_true rfl) rfl (by decide) ?_
    refine ov_geti (T := TX3) (kf := 6) dX5_thrown_71 qf_X5_72 (ov_stk0 (by unfold ov_stk; decide)) rfl (Nat.le_of_ble_eq_true rfl) rfl ?_
    refine ov_icmp_ge 111 dX5_thrown_74 (by decide) hF (fun hF => ?_) (fun hF => ?_)
    · refine ov_iload_n dX5_thrown_111 2 rfl ?_
      refine ov_if_ne 119 dX5_thrown_112 (by decide) hF (fun hF => ?_) (fun hF => ?_)
      · refine ov_iload dX5_thrown_119 4 rfl ?_
        refine ov_pick [] [] rfl ?_
        exact V_X5_thrown_121 x4 σ hF
      · refine ov_iload_n dX5_thrown_115 3 rfl ?_
        refine ov_goto 121 dX5_thrown_116 (by decide) ?_
        refine ov_pick [] [] rfl ?_
        exact V_X5_thrown_121 x3 σ hF
    · refine ov_aload_n dX5_thrown_77 0 rfl ?_
      refine ov_aload_n dX5_thrown_78 0 rfl ?_
      refine ov_getr (T := TX5) (kf := 6) dX5_thrown_79 qf_X5_43 sh_0 rfl (Nat.le_of_ble_eq_true rfl) rfl (by decide) ?_
      refine ov_iload_n dX5_thrown_82 1 rfl ?_
      have h1 := hF.1
      have hF := hF.2
      refine ov_aaloadR dX5_thrown_83 sh_48 h1 (ov_shR h1) (ov_shRn h1) ?_
      refine ov_iload dX5_thrown_84 5 rfl ?_
      refine ov_callV [.ref (51 + 2 * Int32.toNatClampNeg x1), .int x5] dX5_thrown_86 (c_X5_gapIfThrown hF) (Nat.le_of_ble_eq_true rfl) (Nat.le_of_ble_eq_true rfl) lk_X5_203 sh_0 rfl (Nat.le_of_ble_eq_true rfl) (Nat.le_refl _) (Nat.le_refl _) (fun rr σ3 hF => ?_)
      obtain ⟨v2, rfl, hF⟩ := hF
      show vv_X5_thrown k 89 [(0, .ref 0), (1, .int x1), (2, .int x2), (3, .int x3), (4, .int x4), (5, .int x5)] [.int v2] σ3
      refine ov_istore dX5_thrown_89 (Nat.le_of_ble_eq_true rfl) [(6, .int v2), (0, .ref 0), (1, .int x1), (2, .int x2), (3, .int x3), (4, .int x4), (5, .int x5)] rfl ?_
      refine ov_iload dX5_thrown_91 0 rfl ?_
      refine ov_iload dX5_thrown_93 5 rfl ?_
      refine ov_icmp_ge 105 dX5_thrown_95 (by decide) hF (fun hF => ?_) (fun hF => ?_)
      · refine ov_pick [1, 2, 3, 4, 5, 6] [(0, .ref 0), (1, .int x1), (2, .int x2), (3, .int x3), (4, .int x4), (5, .int x5)] rfl ?_
        exact V_X5_thrown_105 ih x1 x2 x3 x4 x5 σ3 hF
      · refine ov_iload dX5_thrown_98 6 rfl ?_
        refine ov_istore_n dX5_thrown_100 (Nat.le_of_ble_eq_true rfl) [(3, .int x5), (6, .int v2), (0, .ref 0), (1, .int x1), (2, .int x2), (4, .int x4), (5, .int x5)] rfl ?_
        refine ov_iload dX5_thrown_101 1 rfl ?_
        refine ov_istore dX5_thrown_103 (Nat.le_of_ble_eq_true rfl) [(4, .int v2), (3, .int x5), (6, .int v2), (0, .ref 0), (1, .int x1), (2, .int x2), (5, .int x5)] rfl ?_
        refine ov_pick [3, 4, 5, 1, 0, 6] [(0, .ref 0), (1, .int x1), (2, .int x2), (3, .int x5), (4, .int v2), (5, .int x5)] rfl ?_
        exact V_X5_thrown_105 ih x1 x2 x5 v2 x5 σ3 hF
def F_X5_thrown (x1 : Int32) (x2 : Int32) (σ : ovSt) (k : Int32 → ovSt → Prop) : Prop := (F_X5_isSheet x1 σ (fun v4 σ5 => (if v4 = 0 then (F_X5_thrown_16 k σ5) else (F_X5_within x2 0 1 σ5 (fun v6 σ7 => (if v6 = 0 then (F_X5_thrown_16 k σ7) else (vp_in x1 4 ∧ (F_X1_isMissing (51 + 2 * Int32.toNatClampNeg x1) σ7 (fun v9 σ10 => (if v9 = 0 then (if (σ10 21 6) = 0 then (k (-1000000005) σ10) else (F_X5_gapIfThrown (51 + 2 * Int32.toNatClampNeg x1) 0 σ10 (fun v11 σ12 => (∃ n13, F_X5_thrown_65 k n13 x1 x2 0 v11 1 σ12)))) else (k (-1000000011) σ10)))))))))))
set_option maxRecDepth 100000 in
set_option maxHeartbeats 4000000 in
theorem c_X5_thrown {x1 : Int32} {x2 : Int32} {σ : ovSt} {k : Int32 → ovSt → Prop} (hF : F_X5_thrown x1 x2 σ k) : ov_Ct 6 yX5_thrown cX5_thrown 7 (some .int) ov_S0 [.ref 0, .int x1, .int x2] σ (ovKi k) := by
  refine ov_Ct.of (by decide) (Nat.le_of_ble_eq_true rfl) ?_
  unfold F_X5_thrown at hF
  show vv_X5_thrown k 0 [(0, .ref 0), (1, .int x1), (2, .int x2)] [] σ
  refine ov_iload_n dX5_thrown_0 1 rfl ?_
  refine ov_callS [.int x1] dX5_thrown_1 (c_X5_isSheet hF) (Nat.le_of_ble_eq_true rfl) (Nat.le_of_ble_eq_true rfl) lk_X5_195 (Nat.le_of_ble_eq_true rfl) (Nat.le_refl _) (Nat.le_refl _) (fun rr σ5 hF => ?_)
  obtain ⟨v4, rfl, hF⟩ := hF
  show vv_X5_thrown k 4 [(0, .ref 0), (1, .int x1), (2, .int x2)] [.int v4] σ5
  refine ov_if_eq 16 dX5_thrown_4 (by decide) hF (fun hF => ?_) (fun hF => ?_)
  · refine ov_pick [] [] rfl ?_
    exact V_X5_thrown_16 σ5 hF
  · refine ov_iload_n dX5_thrown_7 2 rfl ?_
    refine ov_iconst 0 (by decide) dX5_thrown_8 ?_
    refine ov_iconst 1 (by decide) dX5_thrown_9 ?_
    refine ov_callS [.int x2, .int 0, .int 1] dX5_thrown_10 (c_X5_within hF) (Nat.le_of_ble_eq_true rfl) (Nat.le_of_ble_eq_true rfl) lk_X5_67 (Nat.le_of_ble_eq_true rfl) (Nat.le_refl _) (Nat.le_refl _) (fun rr σ7 hF => ?_)
    obtain ⟨v6, rfl, hF⟩ := hF
    show vv_X5_thrown k 13 [(0, .ref 0), (1, .int x1), (2, .int x2)] [.int v6] σ7
    refine ov_if_ne 19 dX5_thrown_13 (by decide) hF (fun hF => ?_) (fun hF => ?_)
    · refine ov_aload_n dX5_thrown_19 0 rfl ?_
      refine ov_getr (T := TX5) (kf := 6) dX5_thrown_20 qf_X5_43 sh_0 rfl (Nat.le_of_ble_eq_true rfl) rfl (by decide) ?_
      refine ov_iload_n dX5_thrown_23 1 rfl ?_
      have h8 := hF.1
      have hF := hF.2
      refine ov_aaloadR dX5_thrown_24 sh_48 h8 (ov_shR h8) (ov_shRn h8) ?_
      refine ov_callV [] dX5_thrown_25 (c_X1_isMissing hF) (Nat.le_of_ble_eq_true rfl) (Nat.le_of_ble_eq_true rfl) lk_X5_198 (ov_isr0 (ov_shR2 h8)) rfl (Nat.le_of_ble_eq_true rfl) (Nat.le_refl _) (Nat.le_refl _) (fun rr σ10 hF => ?_)
      obtain ⟨v9, rfl, hF⟩ := hF
      show vv_X5_thrown k 28 [(0, .ref 0), (1, .int x1), (2, .int x2)] [.int v9] σ10
      refine ov_if_eq 34 dX5_thrown_28 (by decide) hF (fun hF => ?_) (fun hF => ?_)
      · refine ov_aload_n dX5_thrown_34 0 rfl ?_
        refine ov_getr (T := TX5) (kf := 1) dX5_thrown_35 qf_X5_21 sh_0 rfl (Nat.le_of_ble_eq_true rfl) rfl (by decide) ?_
        refine ov_geti (T := TX3) (kf := 6) dX5_thrown_38 qf_X5_72 (ov_stk0 (by unfold ov_stk; decide)) rfl (Nat.le_of_ble_eq_true rfl) rfl ?_
        refine ov_if_ne 47 dX5_thrown_41 (by decide) hF (fun hF => ?_) (fun hF => ?_)
        · refine ov_iconst 0 (by decide) dX5_thrown_47 ?_
          refine ov_istore_n dX5_thrown_48 (Nat.le_of_ble_eq_true rfl) [(3, .int 0), (0, .ref 0), (1, .int x1), (2, .int x2)] rfl ?_
          refine ov_aload_n dX5_thrown_49 1 rfl ?_
          refine ov_aload_n dX5_thrown_50 1 rfl ?_
          refine ov_getr (T := TX5) (kf := 6) dX5_thrown_51 qf_X5_43 sh_0 rfl (Nat.le_of_ble_eq_true rfl) rfl (by decide) ?_
          refine ov_iload_n dX5_thrown_54 2 rfl ?_
          refine ov_aaloadR dX5_thrown_55 sh_48 h8 (ov_shR h8) (ov_shRn h8) ?_
          refine ov_iconst 0 (by decide) dX5_thrown_56 ?_
          refine ov_callV [.ref (51 + 2 * Int32.toNatClampNeg x1), .int 0] dX5_thrown_57 (c_X5_gapIfThrown hF) (Nat.le_of_ble_eq_true rfl) (Nat.le_of_ble_eq_true rfl) lk_X5_203 sh_0 rfl (Nat.le_of_ble_eq_true rfl) (Nat.le_refl _) (Nat.le_refl _) (fun rr σ12 hF => ?_)
          obtain ⟨v11, rfl, hF⟩ := hF
          show vv_X5_thrown k 60 [(3, .int 0), (0, .ref 0), (1, .int x1), (2, .int x2)] [.int v11] σ12
          refine ov_istore dX5_thrown_60 (Nat.le_of_ble_eq_true rfl) [(4, .int v11), (3, .int 0), (0, .ref 0), (1, .int x1), (2, .int x2)] rfl ?_
          refine ov_iconst 1 (by decide) dX5_thrown_62 ?_
          refine ov_istore dX5_thrown_63 (Nat.le_of_ble_eq_true rfl) [(5, .int 1), (4, .int v11), (3, .int 0), (0, .ref 0), (1, .int x1), (2, .int x2)] rfl ?_
          refine ov_pick [3, 4, 5, 2, 1, 0] [(0, .ref 0), (1, .int x1), (2, .int x2), (3, .int 0), (4, .int v11), (5, .int 1)] rfl ?_
          obtain ⟨n13, hF⟩ := hF
          exact V_X5_thrown_65 n13 x1 x2 0 v11 1 σ12 hF
        · refine ov_ldc dX5_thrown_44 qc_X5_178 ?_
          exact ov_ireturn dX5_thrown_46 (Nat.le_refl _) (Nat.le_refl _) ⟨rfl, trivial, _, rfl, hF⟩
      · refine ov_ldc dX5_thrown_31 qc_X5_202 ?_
        exact ov_ireturn dX5_thrown_33 (Nat.le_refl _) (Nat.le_refl _) ⟨rfl, trivial, _, rfl, hF⟩
    · refine ov_pick [] [] rfl ?_
      exact V_X5_thrown_16 σ7 hF
/-! X5_halved -/
abbrev vv_X5_halved (k : Int32 → ovSt → Prop) (pc : Nat) (L : List (Nat × Value)) (st : List Value) (σ : ovSt) : Prop := ov_V (ovZs 5 yX5_halved cX5_halved 2) (ovKs (some .int) ov_S0 (ovKi k)) (0, 0) ov_S0 pc L st σ
def F_X5_halved_31 (k : Int32 → ovSt → Prop) : Nat → Int32 → ovSt → Prop
  | 0 => fun _ _ => False
  | n + 1 => fun x1 σ => (if (200 : Int32) < x1 then (k (-1000000005) σ) else (F_X3_tasteOfAll 33 σ (fun v1 σ2 => (F_X3_tasteOfAll 39 σ2 (fun v3 σ4 => (if v1 = v3 then (k x1 σ4) else (F_X3_passDay 33 σ4 (fun σ6 => (F_X3_passDay 39 σ6 (fun σ8 => F_X5_halved_31 k n (x1 + 1) σ8))))))))))
set_option maxRecDepth 100000 in
set_option maxHeartbeats 4000000 in
theorem V_X5_halved_31 {k : Int32 → ovSt → Prop} : ∀ (n : Nat) (x1 : Int32) (σ : ovSt), F_X5_halved_31 k n x1 σ → vv_X5_halved k 31 [(0, .ref 0), (1, .int x1)] [] σ := by
  intro n
  induction n with
  | zero => intro x1 σ hF; exact hF.elim
  | succ n ih =>
    intro x1 σ hF
    unfold F_X5_halved_31 at hF
    refine ov_iload_n dX5_halved_31 1 rfl ?_
    refine ov_sipush 200 (by decide) dX5_halved_32 ?_
    refine ov_icmp_gt 77 dX5_halved_35 (by decide) hF (fun hF => ?_) (fun hF => ?_)
    · refine ov_ldc dX5_halved_77 qc_X5_178 ?_
      exact ov_ireturn dX5_halved_79 (Nat.le_refl _) (Nat.le_refl _) ⟨rfl, trivial, _, rfl, hF⟩
    · refine ov_aload_n dX5_halved_38 0 rfl ?_
      refine ov_getr (T := TX5) (kf := 3) dX5_halved_39 qf_X5_28 sh_0 rfl (Nat.le_of_ble_eq_true rfl) rfl (by decide) ?_
      refine ov_callV [] dX5_halved_42 (c_X3_tasteOfAll hF) (Nat.le_of_ble_eq_true rfl) (Nat.le_of_ble_eq_true rfl) lk_X5_151 (ov_stk0 (by unfold ov_stk; decide)) rfl (Nat.le_of_ble_eq_true rfl) (Nat.le_refl _) (Nat.le_refl _) (fun rr σ2 hF => ?_)
      obtain ⟨v1, rfl, hF⟩ := hF
      show vv_X5_halved k 45 [(0, .ref 0), (1, .int x1)] [.int v1] σ2
      refine ov_aload_n dX5_halved_45 0 rfl ?_
      refine ov_getr (T := TX5) (kf := 4) dX5_halved_46 qf_X5_31 sh_0 rfl (Nat.le_of_ble_eq_true rfl) rfl (by decide) ?_
      refine ov_callV [] dX5_halved_49 (c_X3_tasteOfAll hF) (Nat.le_of_ble_eq_true rfl) (Nat.le_of_ble_eq_true rfl) lk_X5_151 (ov_stk0 (by unfold ov_stk; decide)) rfl (Nat.le_of_ble_eq_true rfl) (Nat.le_refl _) (Nat.le_refl _) (fun rr σ4 hF => ?_)
      obtain ⟨v3, rfl, hF⟩ := hF
      show vv_X5_halved k 52 [(0, .ref 0), (1, .int x1)] [.int v3, .int v1] σ4
      refine ov_icmp_ne 57 dX5_halved_52 (by decide) hF (fun hF => ?_) (fun hF => ?_)
      · refine ov_aload_n dX5_halved_57 0 rfl ?_
        refine ov_getr (T := TX5) (kf := 3) dX5_halved_58 qf_X5_28 sh_0 rfl (Nat.le_of_ble_eq_true rfl) rfl (by decide) ?_
        refine ov_callV [] dX5_halved_61 (c_X3_passDay hF) (Nat.le_of_ble_eq_true rfl) (Nat.le_of_ble_eq_true rfl) lk_X5_192 (ov_stk0 (by unfold ov_stk; decide)) rfl (Nat.le_of_ble_eq_true rfl) (Nat.le_refl _) (Nat.le_refl _) (fun rr σ6 hF => ?_)
        obtain ⟨rfl, hF⟩ := hF
        show vv_X5_halved k 64 [(0, .ref 0), (1, .int x1)] [] σ6
        refine ov_aload_n dX5_halved_64 0 rfl ?_
        refine ov_getr (T := TX5) (kf := 4) dX5_halved_65 qf_X5_31 sh_0 rfl (Nat.le_of_ble_eq_true rfl) rfl (by decide) ?_
        refine ov_callV [] dX5_halved_68 (c_X3_passDay hF) (Nat.le_of_ble_eq_true rfl) (Nat.le_of_ble_eq_true rfl) lk_X5_192 (ov_stk0 (by unfold ov_stk; decide)) rfl (Nat.le_of_ble_eq_true rfl) (Nat.le_refl _) (Nat.le_refl _) (fun rr σ8 hF => ?_)
        obtain ⟨rfl, hF⟩ := hF
        show vv_X5_halved k 71 [(0, .ref 0), (1, .int x1)] [] σ8
        refine ov_iinc dX5_halved_71 1 rfl (x1 + 1) rfl (Nat.le_of_ble_eq_true rfl) [(1, .int (x1 + 1)), (0, .ref 0)] rfl ?_
        refine ov_goto 31 dX5_halved_74 (by decide) ?_
        refine ov_pick [1, 0] [(0, .ref 0), (1, .int (x1 + 1))] rfl ?_
        exact ih (x1 + 1) σ8 hF
      · refine ov_iload_n dX5_halved_55 1 rfl ?_
        exact ov_ireturn dX5_halved_56 (Nat.le_refl _) (Nat.le_refl _) ⟨rfl, trivial, _, rfl, hF⟩
def F_X5_halved (σ : ovSt) (k : Int32 → ovSt → Prop) : Prop := (F_X3_become 33 21 σ (fun σ10 => (F_X3_become 39 21 σ10 (fun σ12 => (F_X3_halveAll 39 σ12 (fun σ14 => (∃ n15, F_X5_halved_31 k n15 0 σ14)))))))
set_option maxRecDepth 100000 in
set_option maxHeartbeats 4000000 in
theorem c_X5_halved {σ : ovSt} {k : Int32 → ovSt → Prop} (hF : F_X5_halved σ k) : ov_Ct 5 yX5_halved cX5_halved 2 (some .int) ov_S0 [.ref 0] σ (ovKi k) := by
  refine ov_Ct.of (by decide) (Nat.le_of_ble_eq_true rfl) ?_
  unfold F_X5_halved at hF
  show vv_X5_halved k 0 [(0, .ref 0)] [] σ
  refine ov_aload_n dX5_halved_0 0 rfl ?_
  refine ov_getr (T := TX5) (kf := 3) dX5_halved_1 qf_X5_28 sh_0 rfl (Nat.le_of_ble_eq_true rfl) rfl (by decide) ?_
  refine ov_aload_n dX5_halved_4 0 rfl ?_
  refine ov_getr (T := TX5) (kf := 1) dX5_halved_5 qf_X5_21 sh_0 rfl (Nat.le_of_ble_eq_true rfl) rfl (by decide) ?_
  refine ov_callV [.ref 21] dX5_halved_8 (c_X3_become hF) (Nat.le_of_ble_eq_true rfl) (Nat.le_of_ble_eq_true rfl) lk_X5_171 (ov_stk0 (by unfold ov_stk; decide)) rfl (Nat.le_of_ble_eq_true rfl) (Nat.le_refl _) (Nat.le_refl _) (fun rr σ10 hF => ?_)
  obtain ⟨rfl, hF⟩ := hF
  show vv_X5_halved k 11 [(0, .ref 0)] [] σ10
  refine ov_aload_n dX5_halved_11 0 rfl ?_
  refine ov_getr (T := TX5) (kf := 4) dX5_halved_12 qf_X5_31 sh_0 rfl (Nat.le_of_ble_eq_true rfl) rfl (by decide) ?_
  refine ov_aload_n dX5_halved_15 0 rfl ?_
  refine ov_getr (T := TX5) (kf := 1) dX5_halved_16 qf_X5_21 sh_0 rfl (Nat.le_of_ble_eq_true rfl) rfl (by decide) ?_
  refine ov_callV [.ref 21] dX5_halved_19 (c_X3_become hF) (Nat.le_of_ble_eq_true rfl) (Nat.le_of_ble_eq_true rfl) lk_X5_171 (ov_stk0 (by unfold ov_stk; decide)) rfl (Nat.le_of_ble_eq_true rfl) (Nat.le_refl _) (Nat.le_refl _) (fun rr σ12 hF => ?_)
  obtain ⟨rfl, hF⟩ := hF
  show vv_X5_halved k 22 [(0, .ref 0)] [] σ12
  refine ov_aload_n dX5_halved_22 0 rfl ?_
  refine ov_getr (T := TX5) (kf := 4) dX5_halved_23 qf_X5_31 sh_0 rfl (Nat.le_of_ble_eq_true rfl) rfl (by decide) ?_
  refine ov_callV [] dX5_halved_26 (c_X3_halveAll hF) (Nat.le_of_ble_eq_true rfl) (Nat.le_of_ble_eq_true rfl) lk_X5_216 (ov_stk0 (by unfold ov_stk; decide)) rfl (Nat.le_of_ble_eq_true rfl) (Nat.le_refl _) (Nat.le_refl _) (fun rr σ14 hF => ?_)
  obtain ⟨rfl, hF⟩ := hF
  show vv_X5_halved k 29 [(0, .ref 0)] [] σ14
  refine ov_iconst 0 (by decide) dX5_halved_29 ?_
  refine ov_istore_n dX5_halved_30 (Nat.le_of_ble_eq_true rfl) [(1, .int 0), (0, .ref 0)] rfl ?_
  refine ov_pick [1, 0] [(0, .ref 0), (1, .int 0)] rfl ?_
  obtain ⟨n15, hF⟩ := hF
  exact V_X5_halved_31 n15 0 σ14 hF
/-! X5_differs -/
abbrev vv_X5_differs (k : Int32 → ovSt → Prop) (pc : Nat) (L : List (Nat × Value)) (st : List Value) (σ : ovSt) : Prop := ov_V (ovZs 5 yX5_differs cX5_differs 1) (ovKs (some .int) ov_S0 (ovKi k)) (0, 0) ov_S0 pc L st σ
def F_X5_differs_27 (k : Int32 → ovSt → Prop) (t0 : Int32) (σ : ovSt) : Prop := (k t0 σ)
set_option maxRecDepth 100000 in
set_option maxHeartbeats 4000000 in
theorem V_X5_differs_27 {k : Int32 → ovSt → Prop} (t0 : Int32) (σ : ovSt) (hF : F_X5_differs_27 k t0 σ) : vv_X5_differs k 27 [] [.int t0] σ := by
  unfold F_X5_differs_27 at hF
  exact ov_ireturn dX5_differs_27 (Nat.le_refl _) (Nat.le_refl _) ⟨rfl, trivial, _, rfl, hF⟩
def F_X5_differs (σ : ovSt) (k : Int32 → ovSt → Prop) : Prop := (if (σ 0 10) = 0 then (F_X5_differs_27 k (-1000000002) σ) else (F_X3_tasteOfAll 21 σ (fun v1 σ2 => (F_X3_tasteOfAll 27 σ2 (fun v3 σ4 => (F_X5_differs_27 k (v1 - v3) σ4))))))
set_option maxRecDepth 100000 in
set_option maxHeartbeats 4000000 in
theorem c_X5_differs {σ : ovSt} {k : Int32 → ovSt → Prop} (hF : F_X5_differs σ k) : ov_Ct 5 yX5_differs cX5_differs 1 (some .int) ov_S0 [.ref 0] σ (ovKi k) := by
  refine ov_Ct.of (by decide) (Nat.le_of_ble_eq_true rfl) ?_
  unfold F_X5_differs at hF
  show vv_X5_differs k 0 [(0, .ref 0)] [] σ
  refine ov_aload_n dX5_differs_0 0 rfl ?_
  refine ov_geti (T := TX5) (kf := 10) dX5_differs_1 qf_X5_61 sh_0 rfl (Nat.le_of_ble_eq_true rfl) rfl ?_
  refine ov_if_eq 25 dX5_differs_4 (by decide) hF (fun hF => ?_) (fun hF => ?_)
  · refine ov_ldc dX5_differs_25 qc_X5_219 ?_
    refine ov_pick [] [] rfl ?_
    exact V_X5_differs_27 (-1000000002) σ hF
  · refine ov_aload_n dX5_differs_7 0 rfl ?_
    refine ov_getr (T := TX5) (kf := 1) dX5_differs_8 qf_X5_21 sh_0 rfl (Nat.le_of_ble_eq_true rfl) rfl (by decide) ?_
    refine ov_callV [] dX5_differs_11 (c_X3_tasteOfAll hF) (Nat.le_of_ble_eq_true rfl) (Nat.le_of_ble_eq_true rfl) lk_X5_151 (ov_stk0 (by unfold ov_stk; decide)) rfl (Nat.le_of_ble_eq_true rfl) (Nat.le_refl _) (Nat.le_refl _) (fun rr σ2 hF => ?_)
    obtain ⟨v1, rfl, hF⟩ := hF
    show vv_X5_differs k 14 [(0, .ref 0)] [.int v1] σ2
    refine ov_aload_n dX5_differs_14 0 rfl ?_
    refine ov_getr (T := TX5) (kf := 2) dX5_differs_15 qf_X5_25 sh_0 rfl (Nat.le_of_ble_eq_true rfl) rfl (by decide) ?_
    refine ov_callV [] dX5_differs_18 (c_X3_tasteOfAll hF) (Nat.le_of_ble_eq_true rfl) (Nat.le_of_ble_eq_true rfl) lk_X5_151 (ov_stk0 (by unfold ov_stk; decide)) rfl (Nat.le_of_ble_eq_true rfl) (Nat.le_refl _) (Nat.le_refl _) (fun rr σ4 hF => ?_)
    obtain ⟨v3, rfl, hF⟩ := hF
    show vv_X5_differs k 21 [(0, .ref 0)] [.int v3, .int v1] σ4
    refine ov_isub dX5_differs_21 ?_
    refine ov_goto 27 dX5_differs_22 (by decide) ?_
    refine ov_pick [] [] rfl ?_
    exact V_X5_differs_27 (v1 - v3) σ4 hF
/-! X4_addNumber -/
abbrev vv_X4_addNumber (k : ovSt → Prop) (pc : Nat) (L : List (Nat × Value)) (st : List Value) (σ : ovSt) : Prop := ov_V (ovZs 0 yX4_addNumber cX4_addNumber 3) (ovKs none ov_S0 (ovKv k)) (0, 0) ov_S0 pc L st σ
def F_X4_addNumber_39 (R3 : Int32 → Int32 → ovSt → Prop) (k : ovSt → Prop) (x1 : Int32) (x2 : Int32) (σ : ovSt) : Prop := R3 x1 (x2 + (-8)) σ
set_option maxRecDepth 100000 in
set_option maxHeartbeats 4000000 in
theorem V_X4_addNumber_39 {k : ovSt → Prop} {R3 : Int32 → Int32 → ovSt → Prop} (hR3 : ∀ (x1 : Int32) (x2 : Int32) (σ : ovSt), R3 x1 x2 σ → vv_X4_addNumber k 3 [(0, .ref 45), (1, .int x1), (2, .int x2)] [] σ) (x1 : Int32) (x2 : Int32) (σ : ovSt) (hF : F_X4_addNumber_39 R3 k x1 x2 σ) : vv_X4_addNumber k 39 [(0, .ref 45), (1, .int x1), (2, .int x2)] [] σ := by
  unfold F_X4_addNumber_39 at hF
  refine ov_iinc dX4_addNumber_39 2 rfl (x2 + (-8)) rfl (Nat.le_of_ble_eq_true rfl) [(2, .int (x2 + (-8))), (0, .ref 45), (1, .int x1)] rfl ?_
  refine ov_goto 3 dX4_addNumber_42 (by decide) ?_
  refine ov_pick [1, 2, 0] [(0, .ref 45), (1, .int x1), (2, .int (x2 + (-8)))] rfl ?_
  exact hR3 x1 (x2 + (-8)) σ hF
def F_X4_addNumber_3 (k : ovSt → Prop) : Nat → Int32 → Int32 → ovSt → Prop
  | 0 => fun _ _ _ => False
  | n + 1 => fun x1 x2 σ => (if x2 < 0 then (k σ) else (if (96 : Int32) ≤ (σ 45 2) then (F_X4_addNumber_39 (F_X4_addNumber_3 k n) k x1 x2 σ) else (vp_in (σ 45 2) 96 ∧ (∀ σ2 : ovSt, σ2 = ov_up σ 46 (Int32.toNatClampNeg (σ 45 2)) (vp_nar .byte (Int32.toInt8 (x1 >>> (x2 &&& 31))).toInt32) → (∀ σ3 : ovSt, σ3 = ov_up σ2 45 2 ((σ2 45 2) + 1) → (F_X4_addNumber_39 (F_X4_addNumber_3 k n) k x1 x2 σ3))))))
set_option maxRecDepth 100000 in
set_option maxHeartbeats 4000000 in
theorem V_X4_addNumber_3 {k : ovSt → Prop} : ∀ (n : Nat) (x1 : Int32) (x2 : Int32) (σ : ovSt), F_X4_addNumber_3 k n x1 x2 σ → vv_X4_addNumber k 3 [(0, .ref 45), (1, .int x1), (2, .int x2)] [] σ := by
  intro n
  induction n with
  | zero => intro x1 x2 σ hF; exact hF.elim
  | succ n ih =>
    intro x1 x2 σ hF
    unfold F_X4_addNumber_3 at hF
    refine ov_iload_n dX4_addNumber_3 2 rfl ?_
    refine ov_if_lt 45 dX4_addNumber_4 (by decide) hF (fun hF => ?_) (fun hF => ?_)
    · exact ov_return dX4_addNumber_45 (Nat.le_refl _) (Nat.le_refl _) ⟨rfl, trivial, rfl, hF⟩
    · refine ov_aload_n dX4_addNumber_7 0 rfl ?_
      refine ov_geti (T := TX4) (kf := 2) dX4_addNumber_8 qf_X4_19 sh_45 rfl (Nat.le_of_ble_eq_true rfl) rfl ?_
      refine ov_bipush 96 (by decide) dX4_addNumber_11 ?_
      refine ov_icmp_ge 39 dX4_addNumber_13 (by decide) hF (fun hF => ?_) (fun hF => ?_)
      · exact V_X4_addNumber_39 ih x1 x2 σ hF
      · refine ov_aload_n dX4_addNumber_16 0 rfl ?_
        refine ov_getr (T := TX4) (kf := 0) dX4_addNumber_17 qf_X4_9 sh_45 rfl (Nat.le_of_ble_eq_true rfl) rfl (by decide) ?_
        refine ov_aload_n dX4_addNumber_20 0 rfl ?_
        refine ov_geti (T := TX4) (kf := 2) dX4_addNumber_21 qf_X4_19 sh_45 rfl (Nat.le_of_ble_eq_true rfl) rfl ?_
        refine ov_iload_n dX4_addNumber_24 1 rfl ?_
        refine ov_iload_n dX4_addNumber_25 2 rfl ?_
        refine ov_ishr dX4_addNumber_26 ?_
        refine ov_i2b dX4_addNumber_27 ?_
        have h1 := hF.1
        have hF := hF.2
        refine ov_bastore dX4_addNumber_28 sh_46 h1 ?_
        refine ov_nmS (fun σ2 es2 => ?_)
        have hF := hF σ2 es2
        refine ov_aload_n dX4_addNumber_29 0 rfl ?_
        refine ov_dup rfl dX4_addNumber_30 ?_
        refine ov_geti (T := TX4) (kf := 2) dX4_addNumber_31 qf_X4_19 sh_45 rfl (Nat.le_of_ble_eq_true rfl) rfl ?_
        refine ov_iconst 1 (by decide) dX4_addNumber_34 ?_
        refine ov_iadd dX4_addNumber_35 ?_
        refine ov_puti (T := TX4) (kf := 2) dX4_addNumber_36 qf_X4_19 sh_45 rfl (Nat.le_of_ble_eq_true rfl) rfl rfl (by decide +kernel) ?_
        refine ov_nmS (fun σ3 es3 => ?_)
        have hF := hF σ3 es3
        exact V_X4_addNumber_39 ih x1 x2 σ3 hF
def F_X4_addNumber (x1 : Int32) (σ : ovSt) (k : ovSt → Prop) : Prop := (∃ n4, F_X4_addNumber_3 k n4 x1 24 σ)
set_option maxRecDepth 100000 in
set_option maxHeartbeats 4000000 in
theorem c_X4_addNumber {x1 : Int32} {σ : ovSt} {k : ovSt → Prop} (hF : F_X4_addNumber x1 σ k) : ov_Ct 0 yX4_addNumber cX4_addNumber 3 none ov_S0 [.ref 45, .int x1] σ (ovKv k) := by
  refine ov_Ct.of (by decide) (Nat.le_of_ble_eq_true rfl) ?_
  unfold F_X4_addNumber at hF
  show vv_X4_addNumber k 0 [(0, .ref 45), (1, .int x1)] [] σ
  refine ov_bipush 24 (by decide) dX4_addNumber_0 ?_
  refine ov_istore_n dX4_addNumber_2 (Nat.le_of_ble_eq_true rfl) [(2, .int 24), (0, .ref 45), (1, .int x1)] rfl ?_
  refine ov_pick [1, 2, 0] [(0, .ref 45), (1, .int x1), (2, .int 24)] rfl ?_
  obtain ⟨n4, hF⟩ := hF
  exact V_X4_addNumber_3 n4 x1 24 σ hF
/-! X5_feed -/
abbrev vv_X5_feed (k : Int32 → ovSt → Prop) (pc : Nat) (L : List (Nat × Value)) (st : List Value) (σ : ovSt) : Prop := ov_V (ovZs 1 yX5_feed cX5_feed 4) (ovKs (some .int) ov_S0 (ovKi k)) (0, 0) ov_S0 pc L st σ
def F_X5_feed (x1 : Int32) (x2 : Int32) (x3 : Int32) (σ : ovSt) (k : Int32 → ovSt → Prop) : Prop := (if (σ 45 2) ≤ (84 : Int32) then (F_X4_addNumber x1 σ (fun σ2 => (F_X4_addNumber x2 σ2 (fun σ4 => (F_X4_addNumber x3 σ4 (fun σ6 => (k (σ6 45 2) σ6))))))) else (k (-1000000003) σ))
set_option maxRecDepth 100000 in
set_option maxHeartbeats 4000000 in
theorem c_X5_feed {x1 : Int32} {x2 : Int32} {x3 : Int32} {σ : ovSt} {k : Int32 → ovSt → Prop} (hF : F_X5_feed x1 x2 x3 σ k) : ov_Ct 1 yX5_feed cX5_feed 4 (some .int) ov_S0 [.ref 0, .int x1, .int x2, .int x3] σ (ovKi k) := by
  refine ov_Ct.of (by decide) (Nat.le_of_ble_eq_true rfl) ?_
  unfold F_X5_feed at hF
  show vv_X5_feed k 0 [(0, .ref 0), (1, .int x1), (2, .int x2), (3, .int x3)] [] σ
  refine ov_aload_n dX5_feed_0 0 rfl ?_
  refine ov_getr (T := TX5) (kf := 5) dX5_feed_1 qf_X5_37 sh_0 rfl (Nat.le_of_ble_eq_true rfl) rfl (by decide) ?_
  refine ov_geti (T := TX4) (kf := 2) dX5_feed_4 qf_X5_220 sh_45 rfl (Nat.le_of_ble_eq_true rfl) rfl ?_
  refine ov_bipush 84 (by decide) dX5_feed_7 ?_
  refine ov_icmp_le 15 dX5_feed_9 (by decide) hF (fun hF => ?_) (fun hF => ?_)
  · refine ov_aload_n dX5_feed_15 0 rfl ?_
    refine ov_getr (T := TX5) (kf := 5) dX5_feed_16 qf_X5_37 sh_0 rfl (Nat.le_of_ble_eq_true rfl) rfl (by decide) ?_
    refine ov_iload_n dX5_feed_19 1 rfl ?_
    refine ov_callV [.int x1] dX5_feed_20 (c_X4_addNumber hF) (Nat.le_of_ble_eq_true rfl) (Nat.le_of_ble_eq_true rfl) lk_X5_223 sh_45 rfl (Nat.le_of_ble_eq_true rfl) (Nat.le_refl _) (Nat.le_refl _) (fun rr σ2 hF => ?_)
    obtain ⟨rfl, hF⟩ := hF
    show vv_X5_feed k 23 [(0, .ref 0), (1, .int x1), (2, .int x2), (3, .int x3)] [] σ2
    refine ov_aload_n dX5_feed_23 0 rfl ?_
    refine ov_getr (T := TX5) (kf := 5) dX5_feed_24 qf_X5_37 sh_0 rfl (Nat.le_of_ble_eq_true rfl) rfl (by decide) ?_
    refine ov_iload_n dX5_feed_27 2 rfl ?_
    refine ov_callV [.int x2] dX5_feed_28 (c_X4_addNumber hF) (Nat.le_of_ble_eq_true rfl) (Nat.le_of_ble_eq_true rfl) lk_X5_223 sh_45 rfl (Nat.le_of_ble_eq_true rfl) (Nat.le_refl _) (Nat.le_refl _) (fun rr σ4 hF => ?_)
    obtain ⟨rfl, hF⟩ := hF
    show vv_X5_feed k 31 [(0, .ref 0), (1, .int x1), (2, .int x2), (3, .int x3)] [] σ4
    refine ov_aload_n dX5_feed_31 0 rfl ?_
    refine ov_getr (T := TX5) (kf := 5) dX5_feed_32 qf_X5_37 sh_0 rfl (Nat.le_of_ble_eq_true rfl) rfl (by decide) ?_
    refine ov_iload_n dX5_feed_35 3 rfl ?_
    refine ov_callV [.int x3] dX5_feed_36 (c_X4_addNumber hF) (Nat.le_of_ble_eq_true rfl) (Nat.le_of_ble_eq_true rfl) lk_X5_223 sh_45 rfl (Nat.le_of_ble_eq_true rfl) (Nat.le_refl _) (Nat.le_refl _) (fun rr σ6 hF => ?_)
    obtain ⟨rfl, hF⟩ := hF
    show vv_X5_feed k 39 [(0, .ref 0), (1, .int x1), (2, .int x2), (3, .int x3)] [] σ6
    refine ov_aload_n dX5_feed_39 0 rfl ?_
    refine ov_getr (T := TX5) (kf := 5) dX5_feed_40 qf_X5_37 sh_0 rfl (Nat.le_of_ble_eq_true rfl) rfl (by decide) ?_
    refine ov_geti (T := TX4) (kf := 2) dX5_feed_43 qf_X5_220 sh_45 rfl (Nat.le_of_ble_eq_true rfl) rfl ?_
    exact ov_ireturn dX5_feed_46 (Nat.le_refl _) (Nat.le_refl _) ⟨rfl, trivial, _, rfl, hF⟩
  · refine ov_ldc dX5_feed_12 qc_X5_79 ?_
    exact ov_ireturn dX5_feed_14 (Nat.le_refl _) (Nat.le_refl _) ⟨rfl, trivial, _, rfl, hF⟩
/-! X5_trim -/
abbrev vv_X5_trim (k : Int32 → ovSt → Prop) (pc : Nat) (L : List (Nat × Value)) (st : List Value) (σ : ovSt) : Prop := ov_V (ovZs 1 yX5_trim cX5_trim 2) (ovKs (some .int) ov_S0 (ovKi k)) (0, 0) ov_S0 pc L st σ
def F_X5_trim (x1 : Int32) (σ : ovSt) (k : Int32 → ovSt → Prop) : Prop := (F_X5_within x1 0 (σ 45 2) σ (fun v1 σ2 => (if v1 = 0 then (k (-1000000001) σ2) else (∀ σ3 : ovSt, σ3 = ov_up σ2 45 2 x1 → (k x1 σ3)))))
set_option maxRecDepth 100000 in
set_option maxHeartbeats 4000000 in
theorem c_X5_trim {x1 : Int32} {σ : ovSt} {k : Int32 → ovSt → Prop} (hF : F_X5_trim x1 σ k) : ov_Ct 1 yX5_trim cX5_trim 2 (some .int) ov_S0 [.ref 0, .int x1] σ (ovKi k) := by
  refine ov_Ct.of (by decide) (Nat.le_of_ble_eq_true rfl) ?_
  unfold F_X5_trim at hF
  show vv_X5_trim k 0 [(0, .ref 0), (1, .int x1)] [] σ
  refine ov_iload_n dX5_trim_0 1 rfl ?_
  refine ov_iconst 0 (by decide) dX5_trim_1 ?_
  refine ov_aload_n dX5_trim_2 0 rfl ?_
  refine ov_getr (T := TX5) (kf := 5) dX5_trim_3 qf_X5_37 sh_0 rfl (Nat.le_of_ble_eq_true rfl) rfl (by decide) ?_
  refine ov_geti (T := TX4) (kf := 2) dX5_trim_6 qf_X5_220 sh_45 rfl (Nat.le_of_ble_eq_true rfl) rfl ?_
  refine ov_callS [.int x1, .int 0, .int (σ 45 2)] dX5_trim_9 (c_X5_within hF) (Nat.le_of_ble_eq_true rfl) (Nat.le_of_ble_eq_true rfl) lk_X5_67 (Nat.le_of_ble_eq_true rfl) (Nat.le_refl _) (Nat.le_refl _) (fun rr σ2 hF => ?_)
  obtain ⟨v1, rfl, hF⟩ := hF
  show vv_X5_trim k 12 [(0, .ref 0), (1, .int x1)] [.int v1] σ2
  refine ov_if_ne 18 dX5_trim_12 (by decide) hF (fun hF => ?_) (fun hF => ?_)
  · refine ov_aload_n dX5_trim_18 0 rfl ?_
    refine ov_getr (T := TX5) (kf := 5) dX5_trim_19 qf_X5_37 sh_0 rfl (Nat.le_of_ble_eq_true rfl) rfl (by decide) ?_
    refine ov_iload_n dX5_trim_22 1 rfl ?_
    refine ov_puti (T := TX4) (kf := 2) dX5_trim_23 qf_X5_220 sh_45 rfl (Nat.le_of_ble_eq_true rfl) rfl rfl (by decide +kernel) ?_
    refine ov_nmS (fun σ3 es3 => ?_)
    have hF := hF σ3 es3
    refine ov_iload_n dX5_trim_26 1 rfl ?_
    exact ov_ireturn dX5_trim_27 (Nat.le_refl _) (Nat.le_refl _) ⟨rfl, trivial, _, rfl, hF⟩
  · refine ov_ldc dX5_trim_15 qc_X5_71 ?_
    exact ov_ireturn dX5_trim_17 (Nat.le_refl _) (Nat.le_refl _) ⟨rfl, trivial, _, rfl, hF⟩
/-! X0_write -/
abbrev vv_X0_write (k : ovSt → Prop) (pc : Nat) (L : List (Nat × Value)) (st : List Value) (σ : ovSt) : Prop := ov_V (ovZs 1 yX0_write cX0_write 3) (ovKs none ov_S0 (ovKv k)) (0, 0) ov_S0 pc L st σ
def F_X0_write (x1 : Int32) (σ : ovSt) (k : ovSt → Prop) : Prop := (vp_in x1 14 ∧ ((ov_cpok 0 0 (σ 45 7) 96 96) ∧ (∀ σ3 : ovSt, σ3 = ov_row σ (3 + Int32.toNatClampNeg x1) (va_cpy (σ 47) (σ (3 + Int32.toNatClampNeg x1)) (Int32.toNatClampNeg 0) (Int32.toNatClampNeg 0) (Int32.toNatClampNeg (σ 45 7))) → (∀ σ4 : ovSt, σ4 = ov_up σ3 17 (Int32.toNatClampNeg x1) (σ3 45 7) → (∀ σ5 : ovSt, σ5 = ov_up σ4 18 (Int32.toNatClampNeg x1) (σ4 45 6) → (∀ σ6 : ovSt, σ6 = ov_up σ5 19 (Int32.toNatClampNeg x1) (σ5 45 8) → (k σ6)))))))
set_option maxRecDepth 100000 in
set_option maxHeartbeats 4000000 in
theorem c_X0_write {x1 : Int32} {σ : ovSt} {k : ovSt → Prop} (hF : F_X0_write x1 σ k) : ov_Ct 1 yX0_write cX0_write 3 none ov_S0 [.ref 1, .int x1, .ref 45] σ (ovKv k) := by
  refine ov_Ct.of (by decide) (Nat.le_of_ble_eq_true rfl) ?_
  unfold F_X0_write at hF
  show vv_X0_write k 0 [(0, .ref 1), (1, .int x1), (2, .ref 45)] [] σ
  refine ov_aload_n dX0_write_0 2 rfl ?_
  refine ov_getr (T := TX4) (kf := 1) dX0_write_1 qf_X0_29 sh_45 rfl (Nat.le_of_ble_eq_true rfl) rfl (by decide) ?_
  refine ov_iconst 0 (by decide) dX0_write_4 ?_
  refine ov_aload_n dX0_write_5 0 rfl ?_
  refine ov_getr (T := TX0) (kf := 0) dX0_write_6 qf_X0_11 sh_1 rfl (Nat.le_of_ble_eq_true rfl) rfl (by decide) ?_
  refine ov_iload_n dX0_write_9 1 rfl ?_
  have h1 := hF.1
  have hF := hF.2
  refine ov_aaloadI dX0_write_10 sh_2 h1 (ov_shL h1) (ov_shLn h1) ?_
  refine ov_iconst 0 (by decide) dX0_write_11 ?_
  refine ov_aload_n dX0_write_12 2 rfl ?_
  refine ov_geti (T := TX4) (kf := 7) dX0_write_13 qf_X0_33 sh_45 rfl (Nat.le_of_ble_eq_true rfl) rfl ?_
  have h2 := hF.1
  have hF := hF.2
  refine ov_copy dX0_write_16 lk_X0_37 sh_47 (ov_shL2 h1) h2 (Nat.le_of_ble_eq_true rfl) (by decide) ?_
  refine ov_nmS (fun σ3 es3 => ?_)
  have hF := hF σ3 es3
  refine ov_aload_n dX0_write_19 0 rfl ?_
  refine ov_getr (T := TX0) (kf := 1) dX0_write_20 qf_X0_16 sh_1 rfl (Nat.le_of_ble_eq_true rfl) rfl (by decide) ?_
  refine ov_iload_n dX0_write_23 1 rfl ?_
  refine ov_aload_n dX0_write_24 2 rfl ?_
  refine ov_geti (T := TX4) (kf := 7) dX0_write_25 qf_X0_33 sh_45 rfl (Nat.le_of_ble_eq_true rfl) rfl ?_
  refine ov_iastore dX0_write_28 sh_17 h1 ?_
  refine ov_nmS (fun σ4 es4 => ?_)
  have hF := hF σ4 es4
  refine ov_aload_n dX0_write_29 0 rfl ?_
  refine ov_getr (T := TX0) (kf := 2) dX0_write_30 qf_X0_20 sh_1 rfl (Nat.le_of_ble_eq_true rfl) rfl (by decide) ?_
  refine ov_iload_n dX0_write_33 1 rfl ?_
  refine ov_aload_n dX0_write_34 2 rfl ?_
  refine ov_geti (T := TX4) (kf := 6) dX0_write_35 qf_X0_43 sh_45 rfl (Nat.le_of_ble_eq_true rfl) rfl ?_
  refine ov_iastore dX0_write_38 sh_18 h1 ?_
  refine ov_nmS (fun σ5 es5 => ?_)
  have hF := hF σ5 es5
  refine ov_aload_n dX0_write_39 0 rfl ?_
  refine ov_getr (T := TX0) (kf := 3) dX0_write_40 qf_X0_23 sh_1 rfl (Nat.le_of_ble_eq_true rfl) rfl (by decide) ?_
  refine ov_iload_n dX0_write_43 1 rfl ?_
  refine ov_aload_n dX0_write_44 2 rfl ?_
  refine ov_geti (T := TX4) (kf := 8) dX0_write_45 qf_X0_46 sh_45 rfl (Nat.le_of_ble_eq_true rfl) rfl ?_
  refine ov_iastore dX0_write_48 sh_19 h1 ?_
  refine ov_nmS (fun σ6 es6 => ?_)
  have hF := hF σ6 es6
  exact ov_return dX0_write_49 (Nat.le_refl _) (Nat.le_refl _) ⟨rfl, trivial, rfl, hF⟩
/-! X4_isDigit -/
abbrev vv_X4_isDigit (k : Int32 → ovSt → Prop) (pc : Nat) (L : List (Nat × Value)) (st : List Value) (σ : ovSt) : Prop := ov_V (ovZs 0 yX4_isDigit cX4_isDigit 2) (ovKs (some .boolean) ov_S0 (ovKi k)) (0, 0) ov_S0 pc L st σ
def F_X4_isDigit_27 (k : Int32 → ovSt → Prop) (t0 : Int32) (σ : ovSt) : Prop := (ov_bl t0 ∧ (k t0 σ))
set_option maxRecDepth 100000 in
set_option maxHeartbeats 4000000 in
theorem V_X4_isDigit_27 {k : Int32 → ovSt → Prop} (t0 : Int32) (σ : ovSt) (hF : F_X4_isDigit_27 k t0 σ) : vv_X4_isDigit k 27 [] [.int t0] σ := by
  unfold F_X4_isDigit_27 at hF
  have h1 := hF.1
  have hF := hF.2
  exact ov_ireturn dX4_isDigit_27 (Nat.le_refl _) (Nat.le_refl _) ⟨rfl, h1, _, rfl, hF⟩
def F_X4_isDigit_26 (k : Int32 → ovSt → Prop) (σ : ovSt) : Prop := (F_X4_isDigit_27 k 0 σ)
set_option maxRecDepth 100000 in
set_option maxHeartbeats 4000000 in
theorem V_X4_isDigit_26 {k : Int32 → ovSt → Prop} (σ : ovSt) (hF : F_X4_isDigit_26 k σ) : vv_X4_isDigit k 26 [] [] σ := by
  unfold F_X4_isDigit_26 at hF
  refine ov_iconst 0 (by decide) dX4_isDigit_26 ?_
  exact V_X4_isDigit_27 0 σ hF
def F_X4_isDigit (x1 : Int32) (σ : ovSt) (k : Int32 → ovSt → Prop) : Prop := (vp_in x1 96 ∧ (if (σ 46 (Int32.toNatClampNeg x1)) < (48 : Int32) then (F_X4_isDigit_26 k σ) else (if (57 : Int32) < (σ 46 (Int32.toNatClampNeg x1)) then (F_X4_isDigit_26 k σ) else (F_X4_isDigit_27 k 1 σ))))
set_option maxRecDepth 100000 in
set_option maxHeartbeats 4000000 in
theorem c_X4_isDigit {x1 : Int32} {σ : ovSt} {k : Int32 → ovSt → Prop} (hF : F_X4_isDigit x1 σ k) : ov_Ct 0 yX4_isDigit cX4_isDigit 2 (some .boolean) ov_S0 [.ref 45, .int x1] σ (ovKi k) := by
  refine ov_Ct.of (by decide) (Nat.le_of_ble_eq_true rfl) ?_
  unfold F_X4_isDigit at hF
  show vv_X4_isDigit k 0 [(0, .ref 45), (1, .int x1)] [] σ
  refine ov_aload_n dX4_isDigit_0 0 rfl ?_
  refine ov_getr (T := TX4) (kf := 0) dX4_isDigit_1 qf_X4_9 sh_45 rfl (Nat.le_of_ble_eq_true rfl) rfl (by decide) ?_
  refine ov_iload_n dX4_isDigit_4 1 rfl ?_
  have h2 := hF.1
  have hF := hF.2
  refine ov_baload dX4_isDigit_5 sh_46 h2 ?_
  refine ov_bipush 48 (by decide) dX4_isDigit_6 ?_
  refine ov_icmp_lt 26 dX4_isDigit_8 (by decide) hF (fun hF => ?_) (fun hF => ?_)
  · refine ov_pick [] [] rfl ?_
    exact V_X4_isDigit_26 σ hF
  · refine ov_aload_n dX4_isDigit_11 0 rfl ?_
    refine ov_getr (T := TX4) (kf := 0) dX4_isDigit_12 qf_X4_9 sh_45 rfl (Nat.le_of_ble_eq_true rfl) rfl (by decide) ?_
    refine ov_iload_n dX4_isDigit_15 1 rfl ?_
    refine ov_baload dX4_isDigit_16 sh_46 h2 ?_
    refine ov_bipush 57 (by decide) dX4_isDigit_17 ?_
    refine ov_icmp_gt 26 dX4_isDigit_19 (by decide) hF (fun hF => ?_) (fun hF => ?_)
    · refine ov_pick [] [] rfl ?_
      exact V_X4_isDigit_26 σ hF
    · refine ov_iconst 1 (by decide) dX4_isDigit_22 ?_
      refine ov_goto 27 dX4_isDigit_23 (by decide) ?_
      refine ov_pick [] [] rfl ?_
      exact V_X4_isDigit_27 1 σ hF
/-! X4_isLetter -/
abbrev vv_X4_isLetter (k : Int32 → ovSt → Prop) (pc : Nat) (L : List (Nat × Value)) (st : List Value) (σ : ovSt) : Prop := ov_V (ovZs 0 yX4_isLetter cX4_isLetter 2) (ovKs (some .boolean) ov_S0 (ovKi k)) (0, 0) ov_S0 pc L st σ
def F_X4_isLetter_27 (k : Int32 → ovSt → Prop) (t0 : Int32) (σ : ovSt) : Prop := (ov_bl t0 ∧ (k t0 σ))
set_option maxRecDepth 100000 in
set_option maxHeartbeats 4000000 in
theorem V_X4_isLetter_27 {k : Int32 → ovSt → Prop} (t0 : Int32) (σ : ovSt) (hF : F_X4_isLetter_27 k t0 σ) : vv_X4_isLetter k 27 [] [.int t0] σ := by
  unfold F_X4_isLetter_27 at hF
  have h1 := hF.1
  have hF := hF.2
  exact ov_ireturn dX4_isLetter_27 (Nat.le_refl _) (Nat.le_refl _) ⟨rfl, h1, _, rfl, hF⟩
def F_X4_isLetter_26 (k : Int32 → ovSt → Prop) (σ : ovSt) : Prop := (F_X4_isLetter_27 k 0 σ)
set_option maxRecDepth 100000 in
set_option maxHeartbeats 4000000 in
theorem V_X4_isLetter_26 {k : Int32 → ovSt → Prop} (σ : ovSt) (hF : F_X4_isLetter_26 k σ) : vv_X4_isLetter k 26 [] [] σ := by
  unfold F_X4_isLetter_26 at hF
  refine ov_iconst 0 (by decide) dX4_isLetter_26 ?_
  exact V_X4_isLetter_27 0 σ hF
def F_X4_isLetter (x1 : Int32) (σ : ovSt) (k : Int32 → ovSt → Prop) : Prop := (vp_in x1 96 ∧ (if (σ 46 (Int32.toNatClampNeg x1)) < (97 : Int32) then (F_X4_isLetter_26 k σ) else (if (122 : Int32) < (σ 46 (Int32.toNatClampNeg x1)) then (F_X4_isLetter_26 k σ) else (F_X4_isLetter_27 k 1 σ))))
set_option maxRecDepth 100000 in
set_option maxHeartbeats 4000000 in
theorem c_X4_isLetter {x1 : Int32} {σ : ovSt} {k : Int32 → ovSt → Prop} (hF : F_X4_isLetter x1 σ k) : ov_Ct 0 yX4_isLetter cX4_isLetter 2 (some .boolean) ov_S0 [.ref 45, .int x1] σ (ovKi k) := by
  refine ov_Ct.of (by decide) (Nat.le_of_ble_eq_true rfl) ?_
  unfold F_X4_isLetter at hF
  show vv_X4_isLetter k 0 [(0, .ref 45), (1, .int x1)] [] σ
  refine ov_aload_n dX4_isLetter_0 0 rfl ?_
  refine ov_getr (T := TX4) (kf := 0) dX4_isLetter_1 qf_X4_9 sh_45 rfl (Nat.le_of_ble_eq_true rfl) rfl (by decide) ?_
  refine ov_iload_n dX4_isLetter_4 1 rfl ?_
  have h2 := hF.1
  have hF := hF.2
  refine ov_baload dX4_isLetter_5 sh_46 h2 ?_
  refine ov_bipush 97 (by decide) dX4_isLetter_6 ?_
  refine ov_icmp_lt 26 dX4_isLetter_8 (by decide) hF (fun hF => ?_) (fun hF => ?_)
  · refine ov_pick [] [] rfl ?_
    exact V_X4_isLetter_26 σ hF
  · refine ov_aload_n dX4_isLetter_11 0 rfl ?_
    refine ov_getr (T := TX4) (kf := 0) dX4_isLetter_12 qf_X4_9 sh_45 rfl (Nat.le_of_ble_eq_true rfl) rfl (by decide) ?_
    refine ov_iload_n dX4_isLetter_15 1 rfl ?_
    refine ov_baload dX4_isLetter_16 sh_46 h2 ?_
    refine ov_bipush 122 (by decide) dX4_isLetter_17 ?_
    refine ov_icmp_gt 26 dX4_isLetter_19 (by decide) hF (fun hF => ?_) (fun hF => ?_)
    · refine ov_pick [] [] rfl ?_
      exact V_X4_isLetter_26 σ hF
    · refine ov_iconst 1 (by decide) dX4_isLetter_22 ?_
      refine ov_goto 27 dX4_isLetter_23 (by decide) ?_
      refine ov_pick [] [] rfl ?_
      exact V_X4_isLetter_27 1 σ hF
/-! X4_next -/
abbrev vv_X4_next (k : ovSt → Prop) (pc : Nat) (L : List (Nat × Value)) (st : List Value) (σ : ovSt) : Prop := ov_V (ovZs 1 yX4_next cX4_next 3) (ovKs none ov_S0 (ovKv k)) (0, 0) ov_S0 pc L st σ
def F_X4_next_286 (k : ovSt → Prop) (σ : ovSt) : Prop := (k σ)
set_option maxRecDepth 100000 in
set_option maxHeartbeats 4000000 in
theorem V_X4_next_286 {k : ovSt → Prop} (σ : ovSt) (hF : F_X4_next_286 k σ) : vv_X4_next k 286 [] [] σ := by
  unfold F_X4_next_286 at hF
  exact ov_return dX4_next_286 (Nat.le_refl _) (Nat.le_refl _) ⟨rfl, trivial, rfl, hF⟩
def F_X4_next_176 (k : ovSt → Prop) (t0 : Int32) (σ : ovSt) : Prop := (∀ σ1 : ovSt, σ1 = ov_up σ 45 3 t0 → (F_X4_next_286 k σ1))
set_option maxRecDepth 100000 in
set_option maxHeartbeats 4000000 in
theorem V_X4_next_176 {k : ovSt → Prop} (t0 : Int32) (σ : ovSt) (hF : F_X4_next_176 k t0 σ) : vv_X4_next k 176 [] [.int t0, .ref 45] σ := by
  unfold F_X4_next_176 at hF
  refine ov_puti (T := TX4) (kf := 3) dX4_next_176 qf_X4_23 sh_45 rfl (Nat.le_of_ble_eq_true rfl) rfl rfl (by decide +kernel) ?_
  refine ov_nmS (fun σ1 es1 => ?_)
  have hF := hF σ1 es1
  refine ov_goto 286 dX4_next_179 (by decide) ?_
  exact V_X4_next_286 σ1 hF
def F_X4_next_164 (k : ovSt → Prop) (x2 : Int32) (σ : ovSt) : Prop := (if x2 = 0 then (F_X4_next_176 k (-2) σ) else (F_X4_next_176 k (-4) σ))
set_option maxRecDepth 100000 in
set_option maxHeartbeats 4000000 in
theorem V_X4_next_164 {k : ovSt → Prop} (x2 : Int32) (σ : ovSt) (hF : F_X4_next_164 k x2 σ) : vv_X4_next k 164 [(0, .ref 45), (2, .int x2)] [] σ := by
  unfold F_X4_next_164 at hF
  refine ov_aload_n dX4_next_164 0 rfl ?_
  refine ov_iload_n dX4_next_165 1 rfl ?_
  refine ov_if_eq 174 dX4_next_166 (by decide) hF (fun hF => ?_) (fun hF => ?_)
  · refine ov_bipush (-2) (by decide) dX4_next_174 ?_
    refine ov_pick [] [] rfl ?_
    exact V_X4_next_176 (-2) σ hF
  · refine ov_bipush (-4) (by decide) dX4_next_169 ?_
    refine ov_goto 176 dX4_next_171 (by decide) ?_
    refine ov_pick [] [] rfl ?_
    exact V_X4_next_176 (-4) σ hF
def F_X4_next_129 (k : ovSt → Prop) : Nat → Int32 → ovSt → Prop
  | 0 => fun _ _ => False
  | n + 1 => fun x2 σ => (if (σ 45 2) ≤ (σ 45 5) then (F_X4_next_164 k x2 σ) else (F_X4_isLetter (σ 45 5) σ (fun v2 σ3 => (if v2 = 0 then (F_X4_next_164 k x2 σ3) else (∀ σ4 : ovSt, σ4 = ov_up σ3 45 5 ((σ3 45 5) + 1) → F_X4_next_129 k n x2 σ4)))))
set_option maxRecDepth 100000 in
set_option maxHeartbeats 4000000 in
theorem V_X4_next_129 {k : ovSt → Prop} : ∀ (n : Nat) (x2 : Int32) (σ : ovSt), F_X4_next_129 k n x2 σ → vv_X4_next k 129 [(0, .ref 45), (2, .int x2)] [] σ := by
  intro n
  induction n with
  | zero => intro x2 σ hF; exact hF.elim
  | succ n ih =>
    intro x2 σ hF
    unfold F_X4_next_129 at hF
    refine ov_aload_n dX4_next_129 0 rfl ?_
    refine ov_geti (T := TX4) (kf := 5) dX4_next_130 qf_X4_29 sh_45 rfl (Nat.le_of_ble_eq_true rfl) rfl ?_
    refine ov_aload_n dX4_next_133 0 rfl ?_
    refine ov_geti (T := TX4) (kf := 2) dX4_next_134 qf_X4_19 sh_45 rfl (Nat.le_of_ble_eq_true rfl) rfl ?_
    refine ov_icmp_ge 164 dX4_next_137 (by decide) hF (fun hF => ?_) (fun hF => ?_)
    · exact V_X4_next_164 x2 σ hF
    · refine ov_aload_n dX4_next_140 0 rfl ?_
      refine ov_aload_n dX4_next_141 0 rfl ?_
      refine ov_geti (T := TX4) (kf := 5) dX4_next_142 qf_X4_29 sh_45 rfl (Nat.le_of_ble_eq_true rfl) rfl ?_
      refine ov_callV [.int (σ 45 5)] dX4_next_145 (c_X4_isLetter hF) (Nat.le_of_ble_eq_true rfl) (Nat.le_of_ble_eq_true rfl) lk_X4_52 sh_45 rfl (Nat.le_of_ble_eq_true rfl) (Nat.le_refl _) (Nat.le_refl _) (fun rr σ3 hF => ?_)
      obtain ⟨v2, rfl, hF⟩ := hF
      show vv_X4_next k 148 [(0, .ref 45), (2, .int x2)] [.int v2] σ3
      refine ov_if_eq 164 dX4_next_148 (by decide) hF (fun hF => ?_) (fun hF => ?_)
      · exact V_X4_next_164 x2 σ3 hF
      · refine ov_aload_n dX4_next_151 0 rfl ?_
        refine ov_dup rfl dX4_next_152 ?_
        refine ov_geti (T := TX4) (kf := 5) dX4_next_153 qf_X4_29 sh_45 rfl (Nat.le_of_ble_eq_true rfl) rfl ?_
        refine ov_iconst 1 (by decide) dX4_next_156 ?_
        refine ov_iadd dX4_next_157 ?_
        refine ov_puti (T := TX4) (kf := 5) dX4_next_158 qf_X4_29 sh_45 rfl (Nat.le_of_ble_eq_true rfl) rfl rfl (by decide +kernel) ?_
        refine ov_nmS (fun σ4 es4 => ?_)
        have hF := hF σ4 es4
        refine ov_goto 129 dX4_next_161 (by decide) ?_
        exact ih x2 σ4 hF
def F_X4_next_253 (k : ovSt → Prop) (t0 : Int32) (σ : ovSt) : Prop := (∀ σ5 : ovSt, σ5 = ov_up σ 45 3 t0 → (F_X4_next_286 k σ5))
set_option maxRecDepth 100000 in
set_option maxHeartbeats 4000000 in
theorem V_X4_next_253 {k : ovSt → Prop} (t0 : Int32) (σ : ovSt) (hF : F_X4_next_253 k t0 σ) : vv_X4_next k 253 [] [.int t0, .ref 45] σ := by
  unfold F_X4_next_253 at hF
  refine ov_puti (T := TX4) (kf := 3) dX4_next_253 qf_X4_23 sh_45 rfl (Nat.le_of_ble_eq_true rfl) rfl rfl (by decide +kernel) ?_
  refine ov_nmS (fun σ5 es5 => ?_)
  have hF := hF σ5 es5
  refine ov_goto 286 dX4_next_256 (by decide) ?_
  exact V_X4_next_286 σ5 hF
def F_X4_next_246 (k : ovSt → Prop) (σ : ovSt) : Prop := (F_X4_next_253 k (-4) σ)
set_option maxRecDepth 100000 in
set_option maxHeartbeats 4000000 in
theorem V_X4_next_246 {k : ovSt → Prop} (σ : ovSt) (hF : F_X4_next_246 k σ) : vv_X4_next k 246 [] [.ref 45] σ := by
  unfold F_X4_next_246 at hF
  refine ov_bipush (-4) (by decide) dX4_next_246 ?_
  refine ov_goto 253 dX4_next_248 (by decide) ?_
  exact V_X4_next_253 (-4) σ hF
def F_X4_next_228 (k : ovSt → Prop) (x2 : Int32) (σ : ovSt) : Prop := (if x2 = 0 then (if ((σ 45 5) - (σ 45 4)) ≤ (4 : Int32) then (F_X4_next_253 k (-3) σ) else (F_X4_next_246 k σ)) else (F_X4_next_246 k σ))
set_option maxRecDepth 100000 in
set_option maxHeartbeats 4000000 in
theorem V_X4_next_228 {k : ovSt → Prop} (x2 : Int32) (σ : ovSt) (hF : F_X4_next_228 k x2 σ) : vv_X4_next k 228 [(0, .ref 45), (2, .int x2)] [] σ := by
  unfold F_X4_next_228 at hF
  refine ov_aload_n dX4_next_228 0 rfl ?_
  refine ov_iload_n dX4_next_229 1 rfl ?_
  refine ov_if_ne 246 dX4_next_230 (by decide) hF (fun hF => ?_) (fun hF => ?_)
  · refine ov_pick [] [] rfl ?_
    exact V_X4_next_246 σ hF
  · refine ov_aload_n dX4_next_233 0 rfl ?_
    refine ov_geti (T := TX4) (kf := 5) dX4_next_234 qf_X4_29 sh_45 rfl (Nat.le_of_ble_eq_true rfl) rfl ?_
    refine ov_aload_n dX4_next_237 0 rfl ?_
    refine ov_geti (T := TX4) (kf := 4) dX4_next_238 qf_X4_26 sh_45 rfl (Nat.le_of_ble_eq_true rfl) rfl ?_
    refine ov_isub dX4_next_241 ?_
    refine ov_iconst 4 (by decide) dX4_next_242 ?_
    refine ov_icmp_le 251 dX4_next_243 (by decide) hF (fun hF => ?_) (fun hF => ?_)
    · refine ov_bipush (-3) (by decide) dX4_next_251 ?_
      refine ov_pick [] [] rfl ?_
      exact V_X4_next_253 (-3) σ hF
    · refine ov_pick [] [] rfl ?_
      exact V_X4_next_246 σ hF
def F_X4_next_193 (k : ovSt → Prop) : Nat → Int32 → ovSt → Prop
  | 0 => fun _ _ => False
  | n + 1 => fun x2 σ => (if (σ 45 2) ≤ (σ 45 5) then (F_X4_next_228 k x2 σ) else (F_X4_isDigit (σ 45 5) σ (fun v6 σ7 => (if v6 = 0 then (F_X4_next_228 k x2 σ7) else (∀ σ8 : ovSt, σ8 = ov_up σ7 45 5 ((σ7 45 5) + 1) → F_X4_next_193 k n x2 σ8)))))
set_option maxRecDepth 100000 in
set_option maxHeartbeats 4000000 in
theorem V_X4_next_193 {k : ovSt → Prop} : ∀ (n : Nat) (x2 : Int32) (σ : ovSt), F_X4_next_193 k n x2 σ → vv_X4_next k 193 [(0, .ref 45), (2, .int x2)] [] σ := by
  intro n
  induction n with
  | zero => intro x2 σ hF; exact hF.elim
  | succ n ih =>
    intro x2 σ hF
    unfold F_X4_next_193 at hF
    refine ov_aload_n dX4_next_193 0 rfl ?_
    refine ov_geti (T := TX4) (kf := 5) dX4_next_194 qf_X4_29 sh_45 rfl (Nat.le_of_ble_eq_true rfl) rfl ?_
    refine ov_aload_n dX4_next_197 0 rfl ?_
    refine ov_geti (T := TX4) (kf := 2) dX4_next_198 qf_X4_19 sh_45 rfl (Nat.le_of_ble_eq_true rfl) rfl ?_
    refine ov_icmp_ge 228 dX4_next_201 (by decide) hF (fun hF => ?_) (fun hF => ?_)
    · exact V_X4_next_228 x2 σ hF
    · refine ov_aload_n dX4_next_204 0 rfl ?_
      refine ov_aload_n dX4_next_205 0 rfl ?_
      refine ov_geti (T := TX4) (kf := 5) dX4_next_206 qf_X4_29 sh_45 rfl (Nat.le_of_ble_eq_true rfl) rfl ?_
      refine ov_callV [.int (σ 45 5)] dX4_next_209 (c_X4_isDigit hF) (Nat.le_of_ble_eq_true rfl) (Nat.le_of_ble_eq_true rfl) lk_X4_56 sh_45 rfl (Nat.le_of_ble_eq_true rfl) (Nat.le_refl _) (Nat.le_refl _) (fun rr σ7 hF => ?_)
      obtain ⟨v6, rfl, hF⟩ := hF
      show vv_X4_next k 212 [(0, .ref 45), (2, .int x2)] [.int v6] σ7
      refine ov_if_eq 228 dX4_next_212 (by decide) hF (fun hF => ?_) (fun hF => ?_)
      · exact V_X4_next_228 x2 σ7 hF
      · refine ov_aload_n dX4_next_215 0 rfl ?_
        refine ov_dup rfl dX4_next_216 ?_
        refine ov_geti (T := TX4) (kf := 5) dX4_next_217 qf_X4_29 sh_45 rfl (Nat.le_of_ble_eq_true rfl) rfl ?_
        refine ov_iconst 1 (by decide) dX4_next_220 ?_
        refine ov_iadd dX4_next_221 ?_
        refine ov_puti (T := TX4) (kf := 5) dX4_next_222 qf_X4_29 sh_45 rfl (Nat.le_of_ble_eq_true rfl) rfl rfl (by decide +kernel) ?_
        refine ov_nmS (fun σ8 es8 => ?_)
        have hF := hF σ8 es8
        refine ov_goto 193 dX4_next_225 (by decide) ?_
        exact ih x2 σ8 hF
def F_X4_next_90 (k : ovSt → Prop) (t0 : Int32) (σ : ovSt) : Prop := (∀ σ9 : ovSt, σ9 = ov_up σ 45 5 (σ 45 4) → (if (σ9 45 4) < (σ9 45 2) then (F_X4_isLetter (σ9 45 4) σ9 (fun v10 σ11 => (if v10 = 0 then (F_X4_isDigit (σ11 45 4) σ11 (fun v12 σ13 => (if v12 = 0 then (vp_in (σ13 45 4) 96 ∧ (∀ σ15 : ovSt, σ15 = ov_up σ13 45 3 ((σ13 46 (Int32.toNatClampNeg (σ13 45 4))) &&& 255) → (∀ σ16 : ovSt, σ16 = ov_up σ15 45 5 ((σ15 45 5) + 1) → (F_X4_next_286 k σ16)))) else (∃ n17, F_X4_next_193 k n17 t0 σ13)))) else (∃ n18, F_X4_next_129 k n18 t0 σ11)))) else (∀ σ19 : ovSt, σ19 = ov_up σ9 45 3 (-1) → (F_X4_next_286 k σ19))))
set_option maxRecDepth 100000 in
set_option maxHeartbeats 4000000 in
theorem V_X4_next_90 {k : ovSt → Prop} (t0 : Int32) (σ : ovSt) (hF : F_X4_next_90 k t0 σ) : vv_X4_next k 90 [(0, .ref 45)] [.int t0] σ := by
  unfold F_X4_next_90 at hF
  refine ov_istore_n dX4_next_90 (Nat.le_of_ble_eq_true rfl) [(2, .int t0), (0, .ref 45)] rfl ?_
  refine ov_aload_n dX4_next_91 1 rfl ?_
  refine ov_aload_n dX4_next_92 1 rfl ?_
  refine ov_geti (T := TX4) (kf := 4) dX4_next_93 qf_X4_26 sh_45 rfl (Nat.le_of_ble_eq_true rfl) rfl ?_
  refine ov_puti (T := TX4) (kf := 5) dX4_next_96 qf_X4_29 sh_45 rfl (Nat.le_of_ble_eq_true rfl) rfl rfl (by decide +kernel) ?_
  refine ov_nmS (fun σ9 es9 => ?_)
  have hF := hF σ9 es9
  refine ov_aload_n dX4_next_99 1 rfl ?_
  refine ov_geti (T := TX4) (kf := 4) dX4_next_100 qf_X4_26 sh_45 rfl (Nat.le_of_ble_eq_true rfl) rfl ?_
  refine ov_aload_n dX4_next_103 1 rfl ?_
  refine ov_geti (T := TX4) (kf := 2) dX4_next_104 qf_X4_19 sh_45 rfl (Nat.le_of_ble_eq_true rfl) rfl ?_
  refine ov_icmp_lt 118 dX4_next_107 (by decide) hF (fun hF => ?_) (fun hF => ?_)
  · refine ov_aload_n dX4_next_118 1 rfl ?_
    refine ov_aload_n dX4_next_119 1 rfl ?_
    refine ov_geti (T := TX4) (kf := 4) dX4_next_120 qf_X4_26 sh_45 rfl (Nat.le_of_ble_eq_true rfl) rfl ?_
    refine ov_callV [.int (σ9 45 4)] dX4_next_123 (c_X4_isLetter hF) (Nat.le_of_ble_eq_true rfl) (Nat.le_of_ble_eq_true rfl) lk_X4_52 sh_45 rfl (Nat.le_of_ble_eq_true rfl) (Nat.le_refl _) (Nat.le_refl _) (fun rr σ11 hF => ?_)
    obtain ⟨v10, rfl, hF⟩ := hF
    show vv_X4_next k 126 [(2, .int t0), (0, .ref 45)] [.int v10] σ11
    refine ov_if_eq 182 dX4_next_126 (by decide) hF (fun hF => ?_) (fun hF => ?_)
    · refine ov_aload_n dX4_next_182 1 rfl ?_
      refine ov_aload_n dX4_next_183 1 rfl ?_
      refine ov_geti (T := TX4) (kf := 4) dX4_next_184 qf_X4_26 sh_45 rfl (Nat.le_of_ble_eq_true rfl) rfl ?_
      refine ov_callV [.int (σ11 45 4)] dX4_next_187 (c_X4_isDigit hF) (Nat.le_of_ble_eq_true rfl) (Nat.le_of_ble_eq_true rfl) lk_X4_56 sh_45 rfl (Nat.le_of_ble_eq_true rfl) (Nat.le_refl _) (Nat.le_refl _) (fun rr σ13 hF => ?_)
      obtain ⟨v12, rfl, hF⟩ := hF
      show vv_X4_next k 190 [(2, .int t0), (0, .ref 45)] [.int v12] σ13
      refine ov_if_eq 259 dX4_next_190 (by decide) hF (fun hF => ?_) (fun hF => ?_)
      · refine ov_aload_n dX4_next_259 1 rfl ?_
        refine ov_aload_n dX4_next_260 1 rfl ?_
        refine ov_getr (T := TX4) (kf := 0) dX4_next_261 qf_X4_9 sh_45 rfl (Nat.le_of_ble_eq_true rfl) rfl (by decide) ?_
        refine ov_aload_n dX4_next_264 1 rfl ?_
        refine ov_geti (T := TX4) (kf := 4) dX4_next_265 qf_X4_26 sh_45 rfl (Nat.le_of_ble_eq_true rfl) rfl ?_
        have h14 := hF.1
        have hF := hF.2
        refine ov_baload dX4_next_268 sh_46 h14 ?_
        refine ov_sipush 255 (by decide) dX4_next_269 ?_
        refine ov_iand dX4_next_272 ?_
        refine ov_puti (T := TX4) (kf := 3) dX4_next_273 qf_X4_23 sh_45 rfl (Nat.le_of_ble_eq_true rfl) rfl rfl (by decide +kernel) ?_
        refine ov_nmS (fun σ15 es15 => ?_)
        have hF := hF σ15 es15
        refine ov_aload_n dX4_next_276 1 rfl ?_
        refine ov_dup rfl dX4_next_277 ?_
        refine ov_geti (T := TX4) (kf := 5) dX4_next_278 qf_X4_29 sh_45 rfl (Nat.le_of_ble_eq_true rfl) rfl ?_
        refine ov_iconst 1 (by decide) dX4_next_281 ?_
        refine ov_iadd dX4_next_282 ?_
        refine ov_puti (T := TX4) (kf := 5) dX4_next_283 qf_X4_29 sh_45 rfl (Nat.le_of_ble_eq_true rfl) rfl rfl (by decide +kernel) ?_
        refine ov_nmS (fun σ16 es16 => ?_)
        have hF := hF σ16 es16
        refine ov_pick [] [] rfl ?_
        exact V_X4_next_286 σ16 hF
      · refine ov_pick [1, 0] [(0, .ref 45), (2, .int t0)] rfl ?_
        obtain ⟨n17, hF⟩ := hF
        exact V_X4_next_193 n17 t0 σ13 hF
    · refine ov_pick [1, 0] [(0, .ref 45), (2, .int t0)] rfl ?_
      obtain ⟨n18, hF⟩ := hF
      exact V_X4_next_129 n18 t0 σ11 hF
  · refine ov_aload_n dX4_next_110 1 rfl ?_
    refine ov_iconst (-1) (by decide) dX4_next_111 ?_
    refine ov_puti (T := TX4) (kf := 3) dX4_next_112 qf_X4_23 sh_45 rfl (Nat.le_of_ble_eq_true rfl) rfl rfl (by decide +kernel) ?_
    refine ov_nmS (fun σ19 es19 => ?_)
    have hF := hF σ19 es19
    refine ov_goto 286 dX4_next_115 (by decide) ?_
    refine ov_pick [] [] rfl ?_
    exact V_X4_next_286 σ19 hF
def F_X4_next_89 (k : ovSt → Prop) (σ : ovSt) : Prop := (F_X4_next_90 k 0 σ)
set_option maxRecDepth 100000 in
set_option maxHeartbeats 4000000 in
theorem V_X4_next_89 {k : ovSt → Prop} (σ : ovSt) (hF : F_X4_next_89 k σ) : vv_X4_next k 89 [(0, .ref 45)] [] σ := by
  unfold F_X4_next_89 at hF
  refine ov_iconst 0 (by decide) dX4_next_89 ?_
  exact V_X4_next_90 0 σ hF
def F_X4_next_70 (k : ovSt → Prop) (x1 : Int32) (σ : ovSt) : Prop := (if x1 = 0 then (F_X4_next_89 k σ) else (if (σ 45 4) = (σ 45 5) then (F_X4_next_90 k 1 σ) else (F_X4_next_89 k σ)))
set_option maxRecDepth 100000 in
set_option maxHeartbeats 4000000 in
theorem V_X4_next_70 {k : ovSt → Prop} (x1 : Int32) (σ : ovSt) (hF : F_X4_next_70 k x1 σ) : vv_X4_next k 70 [(0, .ref 45), (1, .int x1)] [] σ := by
  unfold F_X4_next_70 at hF
  refine ov_iload_n dX4_next_70 1 rfl ?_
  refine ov_if_eq 89 dX4_next_71 (by decide) hF (fun hF => ?_) (fun hF => ?_)
  · refine ov_pick [0] [(0, .ref 45)] rfl ?_
    exact V_X4_next_89 σ hF
  · refine ov_aload_n dX4_next_74 0 rfl ?_
    refine ov_geti (T := TX4) (kf := 4) dX4_next_75 qf_X4_26 sh_45 rfl (Nat.le_of_ble_eq_true rfl) rfl ?_
    refine ov_aload_n dX4_next_78 0 rfl ?_
    refine ov_geti (T := TX4) (kf := 5) dX4_next_79 qf_X4_29 sh_45 rfl (Nat.le_of_ble_eq_true rfl) rfl ?_
    refine ov_icmp_ne 89 dX4_next_82 (by decide) hF (fun hF => ?_) (fun hF => ?_)
    · refine ov_pick [0] [(0, .ref 45)] rfl ?_
      exact V_X4_next_89 σ hF
    · refine ov_iconst 1 (by decide) dX4_next_85 ?_
      refine ov_goto 90 dX4_next_86 (by decide) ?_
      refine ov_pick [0] [(0, .ref 45)] rfl ?_
      exact V_X4_next_90 1 σ hF
def F_X4_next_32 (k : ovSt → Prop) : Nat → Int32 → ovSt → Prop
  | 0 => fun _ _ => False
  | n + 1 => fun x1 σ => (if (σ 45 2) ≤ (σ 45 4) then (F_X4_next_70 k x1 σ) else (vp_in (σ 45 4) 96 ∧ (if (σ 46 (Int32.toNatClampNeg (σ 45 4))) = (32 : Int32) then (∀ σ21 : ovSt, σ21 = ov_up σ 45 4 ((σ 45 4) + 1) → F_X4_next_32 k n x1 σ21) else (F_X4_next_70 k x1 σ))))
set_option maxRecDepth 100000 in
set_option maxHeartbeats 4000000 in
theorem V_X4_next_32 {k : ovSt → Prop} : ∀ (n : Nat) (x1 : Int32) (σ : ovSt), F_X4_next_32 k n x1 σ → vv_X4_next k 32 [(0, .ref 45), (1, .int x1)] [] σ := by
  intro n
  induction n with
  | zero => intro x1 σ hF; exact hF.elim
  | succ n ih =>
    intro x1 σ hF
    unfold F_X4_next_32 at hF
    refine ov_aload_n dX4_next_32 0 rfl ?_
    refine ov_geti (T := TX4) (kf := 4) dX4_next_33 qf_X4_26 sh_45 rfl (Nat.le_of_ble_eq_true rfl) rfl ?_
    refine ov_aload_n dX4_next_36 0 rfl ?_
    refine ov_geti (T := TX4) (kf := 2) dX4_next_37 qf_X4_19 sh_45 rfl (Nat.le_of_ble_eq_true rfl) rfl ?_
    refine ov_icmp_ge 70 dX4_next_40 (by decide) hF (fun hF => ?_) (fun hF => ?_)
    · exact V_X4_next_70 x1 σ hF
    · refine ov_aload_n dX4_next_43 0 rfl ?_
      refine ov_getr (T := TX4) (kf := 0) dX4_next_44 qf_X4_9 sh_45 rfl (Nat.le_of_ble_eq_true rfl) rfl (by decide) ?_
      refine ov_aload_n dX4_next_47 0 rfl ?_
      refine ov_geti (T := TX4) (kf := 4) dX4_next_48 qf_X4_26 sh_45 rfl (Nat.le_of_ble_eq_true rfl) rfl ?_
      have h20 := hF.1
      have hF := hF.2
      refine ov_baload dX4_next_51 sh_46 h20 ?_
      refine ov_bipush 32 (by decide) dX4_next_52 ?_
      refine ov_icmp_ne 70 dX4_next_54 (by decide) hF (fun hF => ?_) (fun hF => ?_)
      · exact V_X4_next_70 x1 σ hF
      · refine ov_aload_n dX4_next_57 0 rfl ?_
        refine ov_dup rfl dX4_next_58 ?_
        refine ov_geti (T := TX4) (kf := 4) dX4_next_59 qf_X4_26 sh_45 rfl (Nat.le_of_ble_eq_true rfl) rfl ?_
        refine ov_iconst 1 (by decide) dX4_next_62 ?_
        refine ov_iadd dX4_next_63 ?_
        refine ov_puti (T := TX4) (kf := 4) dX4_next_64 qf_X4_26 sh_45 rfl (Nat.le_of_ble_eq_true rfl) rfl rfl (by decide +kernel) ?_
        refine ov_nmS (fun σ21 es21 => ?_)
        have hF := hF σ21 es21
        refine ov_goto 32 dX4_next_67 (by decide) ?_
        exact ih x1 σ21 hF
def F_X4_next_23 (k : ovSt → Prop) (t0 : Int32) (σ : ovSt) : Prop := (∀ σ22 : ovSt, σ22 = ov_up σ 45 4 (σ 45 5) → (∃ n23, F_X4_next_32 k n23 t0 σ22))
set_option maxRecDepth 100000 in
set_option maxHeartbeats 4000000 in
theorem V_X4_next_23 {k : ovSt → Prop} (t0 : Int32) (σ : ovSt) (hF : F_X4_next_23 k t0 σ) : vv_X4_next k 23 [(0, .ref 45)] [.int t0] σ := by
  unfold F_X4_next_23 at hF
  refine ov_istore_n dX4_next_23 (Nat.le_of_ble_eq_true rfl) [(1, .int t0), (0, .ref 45)] rfl ?_
  refine ov_aload_n dX4_next_24 1 rfl ?_
  refine ov_aload_n dX4_next_25 1 rfl ?_
  refine ov_geti (T := TX4) (kf := 5) dX4_next_26 qf_X4_29 sh_45 rfl (Nat.le_of_ble_eq_true rfl) rfl ?_
  refine ov_puti (T := TX4) (kf := 4) dX4_next_29 qf_X4_26 sh_45 rfl (Nat.le_of_ble_eq_true rfl) rfl rfl (by decide +kernel) ?_
  refine ov_nmS (fun σ22 es22 => ?_)
  have hF := hF σ22 es22
  refine ov_pick [1, 0] [(0, .ref 45), (1, .int t0)] rfl ?_
  obtain ⟨n23, hF⟩ := hF
  exact V_X4_next_32 n23 t0 σ22 hF
def F_X4_next_18 (k : ovSt → Prop) (σ : ovSt) : Prop := (F_X4_next_23 k 1 σ)
set_option maxRecDepth 100000 in
set_option maxHeartbeats 4000000 in
theorem V_X4_next_18 {k : ovSt → Prop} (σ : ovSt) (hF : F_X4_next_18 k σ) : vv_X4_next k 18 [(0, .ref 45)] [] σ := by
  unfold F_X4_next_18 at hF
  refine ov_iconst 1 (by decide) dX4_next_18 ?_
  refine ov_goto 23 dX4_next_19 (by decide) ?_
  exact V_X4_next_23 1 σ hF
def F_X4_next (σ : ovSt) (k : ovSt → Prop) : Prop := (if (σ 45 3) = ((-2) : Int32) then (F_X4_next_18 k σ) else (if (σ 45 3) = ((-3) : Int32) then (F_X4_next_18 k σ) else (F_X4_next_23 k 0 σ)))
set_option maxRecDepth 100000 in
set_option maxHeartbeats 4000000 in
theorem c_X4_next {σ : ovSt} {k : ovSt → Prop} (hF : F_X4_next σ k) : ov_Ct 1 yX4_next cX4_next 3 none ov_S0 [.ref 45] σ (ovKv k) := by
  refine ov_Ct.of (by decide) (Nat.le_of_ble_eq_true rfl) ?_
  unfold F_X4_next at hF
  show vv_X4_next k 0 [(0, .ref 45)] [] σ
  refine ov_aload_n dX4_next_0 0 rfl ?_
  refine ov_geti (T := TX4) (kf := 3) dX4_next_1 qf_X4_23 sh_45 rfl (Nat.le_of_ble_eq_true rfl) rfl ?_
  refine ov_bipush (-2) (by decide) dX4_next_4 ?_
  refine ov_icmp_eq 18 dX4_next_6 (by decide) hF (fun hF => ?_) (fun hF => ?_)
  · exact V_X4_next_18 σ hF
  · refine ov_aload_n dX4_next_9 0 rfl ?_
    refine ov_geti (T := TX4) (kf := 3) dX4_next_10 qf_X4_23 sh_45 rfl (Nat.le_of_ble_eq_true rfl) rfl ?_
    refine ov_bipush (-3) (by decide) dX4_next_13 ?_
    refine ov_icmp_ne 22 dX4_next_15 (by decide) hF (fun hF => ?_) (fun hF => ?_)
    · refine ov_iconst 0 (by decide) dX4_next_22 ?_
      exact V_X4_next_23 0 σ hF
    · exact V_X4_next_18 σ hF
/-! J0_isLatin1_aae02 -/
abbrev vv_J0_isLatin1_aae02 (k : Int32 → ovSt → Prop) (pc : Nat) (L : List (Nat × Value)) (st : List Value) (σ : ovSt) : Prop := ov_V (ovZs 0 yJ0_isLatin1_aae02 cJ0_isLatin1_aae02 1) (ovKs (some .boolean) ov_S0 (ovKi k)) (0, 0) ov_S0 pc L st σ
def F_J0_isLatin1_aae02_18 (w : Nat) (k : Int32 → ovSt → Prop) (t0 : Int32) (σ : ovSt) : Prop := (ov_bl t0 ∧ (k t0 σ))
set_option maxRecDepth 100000 in
set_option maxHeartbeats 4000000 in
theorem V_J0_isLatin1_aae02_18 {k : Int32 → ovSt → Prop} {w : Nat} (hw : ov_iss w) (t0 : Int32) (σ : ovSt) (hF : F_J0_isLatin1_aae02_18 w k t0 σ) : vv_J0_isLatin1_aae02 k 18 [] [.int t0] σ := by
  unfold F_J0_isLatin1_aae02_18 at hF
  have h1 := hF.1
  have hF := hF.2
  exact ov_ireturn dJ0_isLatin1_aae02_18 (Nat.le_refl _) (Nat.le_refl _) ⟨rfl, h1, _, rfl, hF⟩
def F_J0_isLatin1_aae02_17 (w : Nat) (k : Int32 → ovSt → Prop) (σ : ovSt) : Prop := (F_J0_isLatin1_aae02_18 w k 0 σ)
set_option maxRecDepth 100000 in
set_option maxHeartbeats 4000000 in
theorem V_J0_isLatin1_aae02_17 {k : Int32 → ovSt → Prop} {w : Nat} (hw : ov_iss w) (σ : ovSt) (hF : F_J0_isLatin1_aae02_17 w k σ) : vv_J0_isLatin1_aae02 k 17 [] [] σ := by
  unfold F_J0_isLatin1_aae02_17 at hF
  refine ov_iconst 0 (by decide) dJ0_isLatin1_aae02_17 ?_
  exact V_J0_isLatin1_aae02_18 hw 0 σ hF
def F_J0_isLatin1_aae02 (w : Nat) (σ : ovSt) (k : Int32 → ovSt → Prop) : Prop := (ov_iss w ∧ (if (1 : Int32) = 0 then (F_J0_isLatin1_aae02_17 w k σ) else (if (0 : Int32) = 0 then (F_J0_isLatin1_aae02_18 w k 1 σ) else (F_J0_isLatin1_aae02_17 w k σ))))
set_option maxRecDepth 100000 in
set_option maxHeartbeats 4000000 in
theorem c_J0_isLatin1_aae02 {w : Nat} {σ : ovSt} {k : Int32 → ovSt → Prop} (hF : F_J0_isLatin1_aae02 w σ k) : ov_Ct 0 yJ0_isLatin1_aae02 cJ0_isLatin1_aae02 1 (some .boolean) ov_S0 [.ref w] σ (ovKi k) := by
  refine ov_Ct.of (by decide) (Nat.le_of_ble_eq_true rfl) ?_
  unfold F_J0_isLatin1_aae02 at hF
  have hw := hF.1
  have hF := hF.2
  show vv_J0_isLatin1_aae02 k 0 [(0, .ref w)] [] σ
  refine ov_cmpt dJ0_isLatin1_aae02_0 qf_J0_38 ?_
  refine ov_if_eq 17 dJ0_isLatin1_aae02_3 (by decide) hF (fun hF => ?_) (fun hF => ?_)
  · refine ov_pick [] [] rfl ?_
    exact V_J0_isLatin1_aae02_17 hw σ hF
  · refine ov_aload_n dJ0_isLatin1_aae02_6 0 rfl ?_
    refine ov_scod hw dJ0_isLatin1_aae02_7 qf_J0_15 ?_
    refine ov_if_ne 17 dJ0_isLatin1_aae02_10 (by decide) hF (fun hF => ?_) (fun hF => ?_)
    · refine ov_pick [] [] rfl ?_
      exact V_J0_isLatin1_aae02_17 hw σ hF
    · refine ov_iconst 1 (by decide) dJ0_isLatin1_aae02_13 ?_
      refine ov_goto 18 dJ0_isLatin1_aae02_14 (by decide) ?_
      refine ov_pick [] [] rfl ?_
      exact V_J0_isLatin1_aae02_18 hw 1 σ hF
/-! J3_checkIndex_8e157 -/
abbrev vv_J3_checkIndex_8e157 (k : Int32 → ovSt → Prop) (pc : Nat) (L : List (Nat × Value)) (st : List Value) (σ : ovSt) : Prop := ov_V (ovZs 0 yJ3_checkIndex_8e157 cJ3_checkIndex_8e157 3) (ovKs (some .int) ov_S0 (ovKi k)) (0, 0) ov_S0 pc L st σ
def F_J3_checkIndex_8e157_9 (g2 : Value) (k : Int32 → ovSt → Prop) (x0 : Int32) (x1 : Int32) (σ : ovSt) : Prop := False
set_option maxRecDepth 100000 in
set_option maxHeartbeats 4000000 in
theorem V_J3_checkIndex_8e157_9 {k : Int32 → ovSt → Prop} {g2 : Value} (hg2 : g2.category = 1) (x0 : Int32) (x1 : Int32) (σ : ovSt) (hF : F_J3_checkIndex_8e157_9 g2 k x0 x1 σ) : vv_J3_checkIndex_8e157 k 9 [(0, .int x0), (1, .int x1), (2, g2)] [] σ := by
  unfold F_J3_checkIndex_8e157_9 at hF
  exact (hF : False).elim
def F_J3_checkIndex_8e157 (g2 : Value) (x0 : Int32) (x1 : Int32) (σ : ovSt) (k : Int32 → ovSt → Prop) : Prop := (g2.category = 1 ∧ (if x0 < 0 then (F_J3_checkIndex_8e157_9 g2 k x0 x1 σ) else (if x0 < x1 then (k x0 σ) else (F_J3_checkIndex_8e157_9 g2 k x0 x1 σ))))
set_option maxRecDepth 100000 in
set_option maxHeartbeats 4000000 in
theorem c_J3_checkIndex_8e157 {g2 : Value} {x0 : Int32} {x1 : Int32} {σ : ovSt} {k : Int32 → ovSt → Prop} (hF : F_J3_checkIndex_8e157 g2 x0 x1 σ k) : ov_Ct 0 yJ3_checkIndex_8e157 cJ3_checkIndex_8e157 3 (some .int) ov_S0 [.int x0, .int x1, g2] σ (ovKi k) := by
  refine ov_Ct.of (by decide) (by unfold F_J3_checkIndex_8e157 at hF; have e : ∀ x : Int32, (Value.int x).category = 1 := fun _ => rfl; simp [lg_sl, e, hF.1]) ?_
  unfold F_J3_checkIndex_8e157 at hF
  have hg2 := hF.1
  have hF := hF.2
  show vv_J3_checkIndex_8e157 k 0 [(0, .int x0), (1, .int x1), (2, g2)] [] σ
  refine ov_iload_n dJ3_checkIndex_8e157_0 0 rfl ?_
  refine ov_if_lt 9 dJ3_checkIndex_8e157_1 (by decide) hF (fun hF => ?_) (fun hF => ?_)
  · exact V_J3_checkIndex_8e157_9 hg2 x0 x1 σ hF
  · refine ov_iload_n dJ3_checkIndex_8e157_4 0 rfl ?_
    refine ov_iload_n dJ3_checkIndex_8e157_5 1 rfl ?_
    refine ov_icmp_lt 16 dJ3_checkIndex_8e157_6 (by decide) hF (fun hF => ?_) (fun hF => ?_)
    · refine ov_iload_n dJ3_checkIndex_8e157_16 0 rfl ?_
      exact ov_ireturn dJ3_checkIndex_8e157_17 (Nat.le_refl _) (Nat.le_refl _) ⟨rfl, trivial, _, rfl, hF⟩
    · exact V_J3_checkIndex_8e157_9 hg2 x0 x1 σ hF
/-! J0_checkIndex_df160 -/
abbrev vv_J0_checkIndex_df160 (k : ovSt → Prop) (pc : Nat) (L : List (Nat × Value)) (st : List Value) (σ : ovSt) : Prop := ov_V (ovZs 1 yJ0_checkIndex_df160 cJ0_checkIndex_df160 2) (ovKs none ov_S0 (ovKv k)) (0, 0) ov_S0 pc L st σ
def F_J0_checkIndex_df160 (x0 : Int32) (x1 : Int32) (σ : ovSt) (k : ovSt → Prop) : Prop := (∀ g1 : Value, g1.category = 1 → (F_J3_checkIndex_8e157 g1 x0 x1 σ (fun v2 σ3 => (k σ3))))
set_option maxRecDepth 100000 in
set_option maxHeartbeats 4000000 in
theorem c_J0_checkIndex_df160 {x0 : Int32} {x1 : Int32} {σ : ovSt} {k : ovSt → Prop} (hF : F_J0_checkIndex_df160 x0 x1 σ k) : ov_Ct 1 yJ0_checkIndex_df160 cJ0_checkIndex_df160 2 none ov_S0 [.int x0, .int x1] σ (ovKv k) := by
  refine ov_Ct.of (by decide) (Nat.le_of_ble_eq_true rfl) ?_
  unfold F_J0_checkIndex_df160 at hF
  show vv_J0_checkIndex_df160 k 0 [(0, .int x0), (1, .int x1)] [] σ
  refine ov_iload_n dJ0_checkIndex_df160_0 0 rfl ?_
  refine ov_iload_n dJ0_checkIndex_df160_1 1 rfl ?_
  refine ov_siof dJ0_checkIndex_df160_2 qf_J0_1053 (fun g1 hg1 => ?_)
  have hF := hF g1 hg1
  refine ov_callO [.int x0, .int x1, g1] dJ0_checkIndex_df160_5 (c_J3_checkIndex_8e157 hF) (Nat.le_of_ble_eq_true rfl) (Nat.le_of_ble_eq_true rfl) lk_J0_1059 (Nat.le_of_ble_eq_true rfl) (Nat.le_refl _) (Nat.le_refl _) (fun rr σ3 hF => ?_)
  obtain ⟨v2, rfl, hF⟩ := hF
  show vv_J0_checkIndex_df160 k 8 [(0, .int x0), (1, .int x1)] [.int v2] σ3
  refine ov_pop rfl dJ0_checkIndex_df160_8 ?_
  exact ov_return dJ0_checkIndex_df160_9 (Nat.le_refl _) (Nat.le_refl _) ⟨rfl, trivial, rfl, hF⟩
/-! J1_charAt_3b067 -/
abbrev vv_J1_charAt_3b067 (k : Int32 → ovSt → Prop) (pc : Nat) (L : List (Nat × Value)) (st : List Value) (σ : ovSt) : Prop := ov_V (ovZs 2 yJ1_charAt_3b067 cJ1_charAt_3b067 2) (ovKs (some .char) ov_S0 (ovKi k)) (0, 0) ov_S0 pc L st σ
def F_J1_charAt_3b067 (w0 : Nat) (x1 : Int32) (σ : ovSt) (k : Int32 → ovSt → Prop) : Prop := (ov_iss w0 ∧ (F_J0_checkIndex_df160 x1 (Int32.ofNat (ov_len.getD (w0 - 6000) 0)) σ (fun σ2 => (vp_in x1 (ov_len.getD (w0 - 6000) 0) ∧ (k (Int32.toUInt32 (((ov_byt.getD (w0 - 6000) []).getD (Int32.toNatClampNeg x1) 0) &&& 255) % 65536).toInt32 σ2)))))
set_option maxRecDepth 100000 in
set_option maxHeartbeats 4000000 in
theorem c_J1_charAt_3b067 {w0 : Nat} {x1 : Int32} {σ : ovSt} {k : Int32 → ovSt → Prop} (hF : F_J1_charAt_3b067 w0 x1 σ k) : ov_Ct 2 yJ1_charAt_3b067 cJ1_charAt_3b067 2 (some .char) ov_S0 [.ref (w0 + 100), .int x1] σ (ovKi k) := by
  refine ov_Ct.of (by decide) (Nat.le_of_ble_eq_true rfl) ?_
  unfold F_J1_charAt_3b067 at hF
  have hw0 := hF.1
  have hF := hF.2
  show vv_J1_charAt_3b067 k 0 [(0, .ref (w0 + 100)), (1, .int x1)] [] σ
  refine ov_iload_n dJ1_charAt_3b067_0 1 rfl ?_
  refine ov_aload_n dJ1_charAt_3b067_1 0 rfl ?_
  refine ov_sln hw0 dJ1_charAt_3b067_2 ?_
  refine ov_callO [.int x1, .int (Int32.ofNat (ov_len.getD (w0 - 6000) 0))] dJ1_charAt_3b067_3 (c_J0_checkIndex_df160 hF) (Nat.le_of_ble_eq_true rfl) (Nat.le_of_ble_eq_true rfl) lk_J1_9 (Nat.le_of_ble_eq_true rfl) (Nat.le_refl _) (Nat.le_refl _) (fun rr σ2 hF => ?_)
  obtain ⟨rfl, hF⟩ := hF
  show vv_J1_charAt_3b067 k 6 [(0, .ref (w0 + 100)), (1, .int x1)] [] σ2
  refine ov_aload_n dJ1_charAt_3b067_6 0 rfl ?_
  refine ov_iload_n dJ1_charAt_3b067_7 1 rfl ?_
  have h3 := hF.1
  have hF := hF.2
  refine ov_sbl hw0 dJ1_charAt_3b067_8 h3 ?_
  refine ov_sipush 255 (by decide) dJ1_charAt_3b067_9 ?_
  refine ov_iand dJ1_charAt_3b067_12 ?_
  refine ov_i2c dJ1_charAt_3b067_13 ?_
  exact ov_ireturn dJ1_charAt_3b067_14 (Nat.le_refl _) (Nat.le_refl _) ⟨rfl, (pk_nc _), _, rfl, hF⟩
/-! J0_charAt_5068e -/
abbrev vv_J0_charAt_5068e (k : Int32 → ovSt → Prop) (pc : Nat) (L : List (Nat × Value)) (st : List Value) (σ : ovSt) : Prop := ov_V (ovZs 3 yJ0_charAt_5068e cJ0_charAt_5068e 2) (ovKs (some .char) ov_S0 (ovKi k)) (0, 0) ov_S0 pc L st σ
def F_J0_charAt_5068e (w : Nat) (x1 : Int32) (σ : ovSt) (k : Int32 → ovSt → Prop) : Prop := (ov_iss w ∧ (F_J0_isLatin1_aae02 w σ (fun v1 σ2 => (if v1 = 0 then False else (F_J1_charAt_3b067 w x1 σ2 (fun v3 σ4 => (narrow .char (.int v3) = .int v3 ∧ (k v3 σ4))))))))
set_option maxRecDepth 100000 in
set_option maxHeartbeats 4000000 in
theorem c_J0_charAt_5068e {w : Nat} {x1 : Int32} {σ : ovSt} {k : Int32 → ovSt → Prop} (hF : F_J0_charAt_5068e w x1 σ k) : ov_Ct 3 yJ0_charAt_5068e cJ0_charAt_5068e 2 (some .char) ov_S0 [.ref w, .int x1] σ (ovKi k) := by
  refine ov_Ct.of (by decide) (Nat.le_of_ble_eq_true rfl) ?_
  unfold F_J0_charAt_5068e at hF
  have hw := hF.1
  have hF := hF.2
  show vv_J0_charAt_5068e k 0 [(0, .ref w), (1, .int x1)] [] σ
  refine ov_aload_n dJ0_charAt_5068e_0 0 rfl ?_
  refine ov_callT [] dJ0_charAt_5068e_1 (w - 6000) (ov_issj hw).1 (ov_issj hw).2 rfl (c_J0_isLatin1_aae02 hF) (Nat.le_of_ble_eq_true rfl) (Nat.le_of_ble_eq_true rfl) lk_J0_492 (Nat.le_of_ble_eq_true rfl) (Nat.le_refl _) (Nat.le_refl _) (fun rr σ2 hF => ?_)
  obtain ⟨v1, rfl, hF⟩ := hF
  show vv_J0_charAt_5068e k 4 [(0, .ref w), (1, .int x1)] [.int v1] σ2
  refine ov_if_eq 16 dJ0_charAt_5068e_4 (by decide) hF (fun hF => ?_) (fun hF => ?_)
  · refine ov_aload_n dJ0_charAt_5068e_16 0 rfl ?_
    refine ov_sval hw dJ0_charAt_5068e_17 qf_J0_9 ?_
    refine ov_iload_n dJ0_charAt_5068e_20 1 rfl ?_
    exact (hF : False).elim
  · refine ov_aload_n dJ0_charAt_5068e_7 0 rfl ?_
    refine ov_sval hw dJ0_charAt_5068e_8 qf_J0_9 ?_
    refine ov_iload_n dJ0_charAt_5068e_11 1 rfl ?_
    refine ov_callO [.ref (w + 100), .int x1] dJ0_charAt_5068e_12 (c_J1_charAt_3b067 hF) (Nat.le_of_ble_eq_true rfl) (Nat.le_of_ble_eq_true rfl) lk_J0_495 (Nat.le_of_ble_eq_true rfl) (Nat.le_refl _) (Nat.le_refl _) (fun rr σ4 hF => ?_)
    obtain ⟨v3, rfl, hF⟩ := hF
    show vv_J0_charAt_5068e k 15 [(0, .ref w), (1, .int x1)] [.int v3] σ4
    have h5 := hF.1
    have hF := hF.2
    exact ov_ireturn dJ0_charAt_5068e_15 (Nat.le_refl _) (Nat.le_refl _) ⟨rfl, h5, _, rfl, hF⟩
/-! J0_coder_7d493 -/
abbrev vv_J0_coder_7d493 (k : Int32 → ovSt → Prop) (pc : Nat) (L : List (Nat × Value)) (st : List Value) (σ : ovSt) : Prop := ov_V (ovZs 0 yJ0_coder_7d493 cJ0_coder_7d493 1) (ovKs (some .byte) ov_S0 (ovKi k)) (0, 0) ov_S0 pc L st σ
def F_J0_coder_7d493_14 (w : Nat) (k : Int32 → ovSt → Prop) (t0 : Int32) (σ : ovSt) : Prop := (narrow .byte (.int t0) = .int t0 ∧ (k t0 σ))
set_option maxRecDepth 100000 in
set_option maxHeartbeats 4000000 in
theorem V_J0_coder_7d493_14 {k : Int32 → ovSt → Prop} {w : Nat} (hw : ov_iss w) (t0 : Int32) (σ : ovSt) (hF : F_J0_coder_7d493_14 w k t0 σ) : vv_J0_coder_7d493 k 14 [] [.int t0] σ := by
  unfold F_J0_coder_7d493_14 at hF
  have h1 := hF.1
  have hF := hF.2
  exact ov_ireturn dJ0_coder_7d493_14 (Nat.le_refl _) (Nat.le_refl _) ⟨rfl, h1, _, rfl, hF⟩
def F_J0_coder_7d493 (w : Nat) (σ : ovSt) (k : Int32 → ovSt → Prop) : Prop := (ov_iss w ∧ (if (1 : Int32) = 0 then (F_J0_coder_7d493_14 w k 1 σ) else (F_J0_coder_7d493_14 w k 0 σ)))
set_option maxRecDepth 100000 in
set_option maxHeartbeats 4000000 in
theorem c_J0_coder_7d493 {w : Nat} {σ : ovSt} {k : Int32 → ovSt → Prop} (hF : F_J0_coder_7d493 w σ k) : ov_Ct 0 yJ0_coder_7d493 cJ0_coder_7d493 1 (some .byte) ov_S0 [.ref w] σ (ovKi k) := by
  refine ov_Ct.of (by decide) (Nat.le_of_ble_eq_true rfl) ?_
  unfold F_J0_coder_7d493 at hF
  have hw := hF.1
  have hF := hF.2
  show vv_J0_coder_7d493 k 0 [(0, .ref w)] [] σ
  refine ov_cmpt dJ0_coder_7d493_0 qf_J0_38 ?_
  refine ov_if_eq 13 dJ0_coder_7d493_3 (by decide) hF (fun hF => ?_) (fun hF => ?_)
  · refine ov_iconst 1 (by decide) dJ0_coder_7d493_13 ?_
    refine ov_pick [] [] rfl ?_
    exact V_J0_coder_7d493_14 hw 1 σ hF
  · refine ov_aload_n dJ0_coder_7d493_6 0 rfl ?_
    refine ov_scod hw dJ0_coder_7d493_7 qf_J0_15 ?_
    refine ov_goto 14 dJ0_coder_7d493_10 (by decide) ?_
    refine ov_pick [] [] rfl ?_
    exact V_J0_coder_7d493_14 hw 0 σ hF
/-! J0_length_8abf5 -/
abbrev vv_J0_length_8abf5 (k : Int32 → ovSt → Prop) (pc : Nat) (L : List (Nat × Value)) (st : List Value) (σ : ovSt) : Prop := ov_V (ovZs 1 yJ0_length_8abf5 cJ0_length_8abf5 1) (ovKs (some .int) ov_S0 (ovKi k)) (0, 0) ov_S0 pc L st σ
def F_J0_length_8abf5 (w : Nat) (σ : ovSt) (k : Int32 → ovSt → Prop) : Prop := (ov_iss w ∧ (F_J0_coder_7d493 w σ (fun v1 σ2 => (k ((Int32.ofNat (ov_len.getD (w - 6000) 0)) >>> (v1 &&& 31)) σ2))))
set_option maxRecDepth 100000 in
set_option maxHeartbeats 4000000 in
theorem c_J0_length_8abf5 {w : Nat} {σ : ovSt} {k : Int32 → ovSt → Prop} (hF : F_J0_length_8abf5 w σ k) : ov_Ct 1 yJ0_length_8abf5 cJ0_length_8abf5 1 (some .int) ov_S0 [.ref w] σ (ovKi k) := by
  refine ov_Ct.of (by decide) (Nat.le_of_ble_eq_true rfl) ?_
  unfold F_J0_length_8abf5 at hF
  have hw := hF.1
  have hF := hF.2
  show vv_J0_length_8abf5 k 0 [(0, .ref w)] [] σ
  refine ov_aload_n dJ0_length_8abf5_0 0 rfl ?_
  refine ov_sval hw dJ0_length_8abf5_1 qf_J0_9 ?_
  refine ov_sln hw dJ0_length_8abf5_4 ?_
  refine ov_aload_n dJ0_length_8abf5_5 0 rfl ?_
  refine ov_callT [] dJ0_length_8abf5_6 (w - 6000) (ov_issj hw).1 (ov_issj hw).2 rfl (c_J0_coder_7d493 hF) (Nat.le_of_ble_eq_true rfl) (Nat.le_of_ble_eq_true rfl) lk_J0_335 (Nat.le_of_ble_eq_true rfl) (Nat.le_refl _) (Nat.le_refl _) (fun rr σ2 hF => ?_)
  obtain ⟨v1, rfl, hF⟩ := hF
  show vv_J0_length_8abf5 k 9 [(0, .ref w)] [.int v1, .int (Int32.ofNat (ov_len.getD (w - 6000) 0))] σ2
  refine ov_ishr dJ0_length_8abf5_9 ?_
  exact ov_ireturn dJ0_length_8abf5_10 (Nat.le_refl _) (Nat.le_refl _) ⟨rfl, trivial, _, rfl, hF⟩
/-! X4_emit -/
abbrev vv_X4_emit (k : ovSt → Prop) (pc : Nat) (L : List (Nat × Value)) (st : List Value) (σ : ovSt) : Prop := ov_V (ovZs 0 yX4_emit cX4_emit 2) (ovKs none ov_S0 (ovKv k)) (0, 0) ov_S0 pc L st σ
def F_X4_emit_29 (k : ovSt → Prop) (σ : ovSt) : Prop := (k σ)
set_option maxRecDepth 100000 in
set_option maxHeartbeats 4000000 in
theorem V_X4_emit_29 {k : ovSt → Prop} (σ : ovSt) (hF : F_X4_emit_29 k σ) : vv_X4_emit k 29 [] [] σ := by
  unfold F_X4_emit_29 at hF
  exact ov_return dX4_emit_29 (Nat.le_refl _) (Nat.le_refl _) ⟨rfl, trivial, rfl, hF⟩
def F_X4_emit (x1 : Int32) (σ : ovSt) (k : ovSt → Prop) : Prop := (if (96 : Int32) ≤ (σ 45 7) then (F_X4_emit_29 k σ) else (vp_in (σ 45 7) 96 ∧ (∀ σ2 : ovSt, σ2 = ov_up σ 47 (Int32.toNatClampNeg (σ 45 7)) x1 → (∀ σ3 : ovSt, σ3 = ov_up σ2 45 7 ((σ2 45 7) + 1) → (F_X4_emit_29 k σ3)))))
set_option maxRecDepth 100000 in
set_option maxHeartbeats 4000000 in
theorem c_X4_emit {x1 : Int32} {σ : ovSt} {k : ovSt → Prop} (hF : F_X4_emit x1 σ k) : ov_Ct 0 yX4_emit cX4_emit 2 none ov_S0 [.ref 45, .int x1] σ (ovKv k) := by
  refine ov_Ct.of (by decide) (Nat.le_of_ble_eq_true rfl) ?_
  unfold F_X4_emit at hF
  show vv_X4_emit k 0 [(0, .ref 45), (1, .int x1)] [] σ
  refine ov_aload_n dX4_emit_0 0 rfl ?_
  refine ov_geti (T := TX4) (kf := 7) dX4_emit_1 qf_X4_35 sh_45 rfl (Nat.le_of_ble_eq_true rfl) rfl ?_
  refine ov_bipush 96 (by decide) dX4_emit_4 ?_
  refine ov_icmp_ge 29 dX4_emit_6 (by decide) hF (fun hF => ?_) (fun hF => ?_)
  · refine ov_pick [] [] rfl ?_
    exact V_X4_emit_29 σ hF
  · refine ov_aload_n dX4_emit_9 0 rfl ?_
    refine ov_getr (T := TX4) (kf := 1) dX4_emit_10 qf_X4_15 sh_45 rfl (Nat.le_of_ble_eq_true rfl) rfl (by decide) ?_
    refine ov_aload_n dX4_emit_13 0 rfl ?_
    refine ov_geti (T := TX4) (kf := 7) dX4_emit_14 qf_X4_35 sh_45 rfl (Nat.le_of_ble_eq_true rfl) rfl ?_
    refine ov_iload_n dX4_emit_17 1 rfl ?_
    have h1 := hF.1
    have hF := hF.2
    refine ov_iastore dX4_emit_18 sh_47 h1 ?_
    refine ov_nmS (fun σ2 es2 => ?_)
    have hF := hF σ2 es2
    refine ov_aload_n dX4_emit_19 0 rfl ?_
    refine ov_dup rfl dX4_emit_20 ?_
    refine ov_geti (T := TX4) (kf := 7) dX4_emit_21 qf_X4_35 sh_45 rfl (Nat.le_of_ble_eq_true rfl) rfl ?_
    refine ov_iconst 1 (by decide) dX4_emit_24 ?_
    refine ov_iadd dX4_emit_25 ?_
    refine ov_puti (T := TX4) (kf := 7) dX4_emit_26 qf_X4_35 sh_45 rfl (Nat.le_of_ble_eq_true rfl) rfl rfl (by decide +kernel) ?_
    refine ov_nmS (fun σ3 es3 => ?_)
    have hF := hF σ3 es3
    refine ov_pick [] [] rfl ?_
    exact V_X4_emit_29 σ3 hF
/-! J1_canEncode_9a6ad -/
abbrev vv_J1_canEncode_9a6ad (k : Int32 → ovSt → Prop) (pc : Nat) (L : List (Nat × Value)) (st : List Value) (σ : ovSt) : Prop := ov_V (ovZs 0 yJ1_canEncode_9a6ad cJ1_canEncode_9a6ad 1) (ovKs (some .boolean) ov_S0 (ovKi k)) (0, 0) ov_S0 pc L st σ
def F_J1_canEncode_9a6ad_16 (k : Int32 → ovSt → Prop) (t0 : Int32) (σ : ovSt) : Prop := (ov_bl t0 ∧ (k t0 σ))
set_option maxRecDepth 100000 in
set_option maxHeartbeats 4000000 in
theorem V_J1_canEncode_9a6ad_16 {k : Int32 → ovSt → Prop} (t0 : Int32) (σ : ovSt) (hF : F_J1_canEncode_9a6ad_16 k t0 σ) : vv_J1_canEncode_9a6ad k 16 [] [.int t0] σ := by
  unfold F_J1_canEncode_9a6ad_16 at hF
  have h1 := hF.1
  have hF := hF.2
  exact ov_ireturn dJ1_canEncode_9a6ad_16 (Nat.le_refl _) (Nat.le_refl _) ⟨rfl, h1, _, rfl, hF⟩
def F_J1_canEncode_9a6ad_15 (k : Int32 → ovSt → Prop) (σ : ovSt) : Prop := (F_J1_canEncode_9a6ad_16 k 0 σ)
set_option maxRecDepth 100000 in
set_option maxHeartbeats 4000000 in
theorem V_J1_canEncode_9a6ad_15 {k : Int32 → ovSt → Prop} (σ : ovSt) (hF : F_J1_canEncode_9a6ad_15 k σ) : vv_J1_canEncode_9a6ad k 15 [] [] σ := by
  unfold F_J1_canEncode_9a6ad_15 at hF
  refine ov_iconst 0 (by decide) dJ1_canEncode_9a6ad_15 ?_
  exact V_J1_canEncode_9a6ad_16 0 σ hF
def F_J1_canEncode_9a6ad (x0 : Int32) (σ : ovSt) (k : Int32 → ovSt → Prop) : Prop := (if x0 < 0 then (F_J1_canEncode_9a6ad_15 k σ) else (if (255 : Int32) < x0 then (F_J1_canEncode_9a6ad_15 k σ) else (F_J1_canEncode_9a6ad_16 k 1 σ)))
set_option maxRecDepth 100000 in
set_option maxHeartbeats 4000000 in
theorem c_J1_canEncode_9a6ad {x0 : Int32} {σ : ovSt} {k : Int32 → ovSt → Prop} (hF : F_J1_canEncode_9a6ad x0 σ k) : ov_Ct 0 yJ1_canEncode_9a6ad cJ1_canEncode_9a6ad 1 (some .boolean) ov_S0 [.int x0] σ (ovKi k) := by
  refine ov_Ct.of (by decide) (Nat.le_of_ble_eq_true rfl) ?_
  unfold F_J1_canEncode_9a6ad at hF
  show vv_J1_canEncode_9a6ad k 0 [(0, .int x0)] [] σ
  refine ov_iload_n dJ1_canEncode_9a6ad_0 0 rfl ?_
  refine ov_if_lt 15 dJ1_canEncode_9a6ad_1 (by decide) hF (fun hF => ?_) (fun hF => ?_)
  · refine ov_pick [] [] rfl ?_
    exact V_J1_canEncode_9a6ad_15 σ hF
  · refine ov_iload_n dJ1_canEncode_9a6ad_4 0 rfl ?_
    refine ov_sipush 255 (by decide) dJ1_canEncode_9a6ad_5 ?_
    refine ov_icmp_gt 15 dJ1_canEncode_9a6ad_8 (by decide) hF (fun hF => ?_) (fun hF => ?_)
    · refine ov_pick [] [] rfl ?_
      exact V_J1_canEncode_9a6ad_15 σ hF
    · refine ov_iconst 1 (by decide) dJ1_canEncode_9a6ad_11 ?_
      refine ov_goto 16 dJ1_canEncode_9a6ad_12 (by decide) ?_
      refine ov_pick [] [] rfl ?_
      exact V_J1_canEncode_9a6ad_16 1 σ hF
/-! J1_indexOfChar_4cfef -/
abbrev vv_J1_indexOfChar_4cfef (k : Int32 → ovSt → Prop) (pc : Nat) (L : List (Nat × Value)) (st : List Value) (σ : ovSt) : Prop := ov_V (ovZs 0 yJ1_indexOfChar_4cfef cJ1_indexOfChar_4cfef 6) (ovKs (some .int) ov_S0 (ovKi k)) (0, 0) ov_S0 pc L st σ
def F_J1_indexOfChar_4cfef_7 (w0 : Nat) (k : Int32 → ovSt → Prop) : Nat → Int32 → Int32 → Int32 → ovSt → Prop
  | 0 => fun _ _ _ _ => False
  | n + 1 => fun x3 x4 x5 σ => (if x3 ≤ x5 then (k (-1) σ) else (vp_in x5 (ov_len.getD (w0 - 6000) 0) ∧ (if ((ov_byt.getD (w0 - 6000) []).getD (Int32.toNatClampNeg x5) 0) = x4 then (k x5 σ) else F_J1_indexOfChar_4cfef_7 w0 k n x3 x4 (x5 + 1) σ)))
set_option maxRecDepth 100000 in
set_option maxHeartbeats 4000000 in
theorem V_J1_indexOfChar_4cfef_7 {k : Int32 → ovSt → Prop} {w0 : Nat} (hw0 : ov_iss w0) : ∀ (n : Nat) (x3 : Int32) (x4 : Int32) (x5 : Int32) (σ : ovSt), F_J1_indexOfChar_4cfef_7 w0 k n x3 x4 x5 σ → vv_J1_indexOfChar_4cfef k 7 [(0, .ref (w0 + 100)), (3, .int x3), (4, .int x4), (5, .int x5)] [] σ := by
  intro n
  induction n with
  | zero => intro x3 x4 x5 σ hF; exact hF.elim
  | succ n ih =>
    intro x3 x4 x5 σ hF
    unfold F_J1_indexOfChar_4cfef_7 at hF
    refine ov_iload dJ1_indexOfChar_4cfef_7 3 rfl ?_
    refine ov_iload_n dJ1_indexOfChar_4cfef_9 1 rfl ?_
    refine ov_icmp_ge 31 dJ1_indexOfChar_4cfef_10 (by decide) hF (fun hF => ?_) (fun hF => ?_)
    · refine ov_iconst (-1) (by decide) dJ1_indexOfChar_4cfef_31 ?_
      exact ov_ireturn dJ1_indexOfChar_4cfef_32 (Nat.le_refl _) (Nat.le_refl _) ⟨rfl, trivial, _, rfl, hF⟩
    · refine ov_aload_n dJ1_indexOfChar_4cfef_13 0 rfl ?_
      refine ov_iload dJ1_indexOfChar_4cfef_14 3 rfl ?_
      have h1 := hF.1
      have hF := hF.2
      refine ov_sbl hw0 dJ1_indexOfChar_4cfef_16 h1 ?_
      refine ov_iload dJ1_indexOfChar_4cfef_17 2 rfl ?_
      refine ov_icmp_ne 25 dJ1_indexOfChar_4cfef_19 (by decide) hF (fun hF => ?_) (fun hF => ?_)
      · refine ov_iinc dJ1_indexOfChar_4cfef_25 3 rfl (x5 + 1) rfl (Nat.le_of_ble_eq_true rfl) [(5, .int (x5 + 1)), (0, .ref (w0 + 100)), (3, .int x3), (4, .int x4)] rfl ?_
        refine ov_goto 7 dJ1_indexOfChar_4cfef_28 (by decide) ?_
        refine ov_pick [1, 2, 3, 0] [(0, .ref (w0 + 100)), (3, .int x3), (4, .int x4), (5, .int (x5 + 1))] rfl ?_
        exact ih x3 x4 (x5 + 1) σ hF
      · refine ov_iload dJ1_indexOfChar_4cfef_22 3 rfl ?_
        exact ov_ireturn dJ1_indexOfChar_4cfef_24 (Nat.le_refl _) (Nat.le_refl _) ⟨rfl, trivial, _, rfl, hF⟩
def F_J1_indexOfChar_4cfef (w0 : Nat) (x1 : Int32) (x2 : Int32) (x3 : Int32) (σ : ovSt) (k : Int32 → ovSt → Prop) : Prop := (ov_iss w0 ∧ (∀ v2 : Int32, v2 = (Int32.toInt8 x1).toInt32 → (∃ n3, F_J1_indexOfChar_4cfef_7 w0 k n3 x3 v2 x2 σ)))
set_option maxRecDepth 100000 in
set_option maxHeartbeats 4000000 in
theorem c_J1_indexOfChar_4cfef {w0 : Nat} {x1 : Int32} {x2 : Int32} {x3 : Int32} {σ : ovSt} {k : Int32 → ovSt → Prop} (hF : F_J1_indexOfChar_4cfef w0 x1 x2 x3 σ k) : ov_Ct 0 yJ1_indexOfChar_4cfef cJ1_indexOfChar_4cfef 6 (some .int) ov_S0 [.ref (w0 + 100), .int x1, .int x2, .int x3] σ (ovKi k) := by
  refine ov_Ct.of (by decide) (Nat.le_of_ble_eq_true rfl) ?_
  unfold F_J1_indexOfChar_4cfef at hF
  have hw0 := hF.1
  have hF := hF.2
  show vv_J1_indexOfChar_4cfef k 0 [(0, .ref (w0 + 100)), (1, .int x1), (2, .int x2), (3, .int x3)] [] σ
  refine ov_iload_n dJ1_indexOfChar_4cfef_0 1 rfl ?_
  refine ov_i2b dJ1_indexOfChar_4cfef_1 ?_
  refine ov_nmI (fun v2 ev2 => ?_)
  have hF := hF v2 ev2
  refine ov_istore dJ1_indexOfChar_4cfef_2 (Nat.le_of_ble_eq_true rfl) [(4, .int v2), (0, .ref (w0 + 100)), (1, .int x1), (2, .int x2), (3, .int x3)] rfl ?_
  refine ov_iload_n dJ1_indexOfChar_4cfef_4 3 rfl ?_
  refine ov_istore dJ1_indexOfChar_4cfef_5 (Nat.le_of_ble_eq_true rfl) [(5, .int x2), (4, .int v2), (0, .ref (w0 + 100)), (1, .int x1), (2, .int x2), (3, .int x3)] rfl ?_
  refine ov_pick [2, 5, 1, 0] [(0, .ref (w0 + 100)), (3, .int x3), (4, .int v2), (5, .int x2)] rfl ?_
  obtain ⟨n3, hF⟩ := hF
  exact V_J1_indexOfChar_4cfef_7 hw0 n3 x3 v2 x2 σ hF
/-! J1_indexOf_4cfef -/
abbrev vv_J1_indexOf_4cfef (k : Int32 → ovSt → Prop) (pc : Nat) (L : List (Nat × Value)) (st : List Value) (σ : ovSt) : Prop := ov_V (ovZs 1 yJ1_indexOf_4cfef cJ1_indexOf_4cfef 4) (ovKs (some .int) ov_S0 (ovKi k)) (0, 0) ov_S0 pc L st σ
def F_J1_indexOf_4cfef (w0 : Nat) (x1 : Int32) (x2 : Int32) (x3 : Int32) (σ : ovSt) (k : Int32 → ovSt → Prop) : Prop := (ov_iss w0 ∧ (F_J1_canEncode_9a6ad x1 σ (fun v1 σ2 => (if v1 = 0 then (k (-1) σ2) else (∀ v3 : Int32, v3 = (ov_max x2 0) → (∀ v4 : Int32, v4 = (ov_min x3 (Int32.ofNat (ov_len.getD (w0 - 6000) 0))) → (if v3 < v4 then (F_J1_indexOfChar_4cfef w0 x1 v3 v4 σ2 (fun v5 σ6 => (k v5 σ6))) else (k (-1) σ2))))))))
set_option maxRecDepth 100000 in
set_option maxHeartbeats 4000000 in
theorem c_J1_indexOf_4cfef {w0 : Nat} {x1 : Int32} {x2 : Int32} {x3 : Int32} {σ : ovSt} {k : Int32 → ovSt → Prop} (hF : F_J1_indexOf_4cfef w0 x1 x2 x3 σ k) : ov_Ct 1 yJ1_indexOf_4cfef cJ1_indexOf_4cfef 4 (some .int) ov_S0 [.ref (w0 + 100), .int x1, .int x2, .int x3] σ (ovKi k) := by
  refine ov_Ct.of (by decide) (Nat.le_of_ble_eq_true rfl) ?_
  unfold F_J1_indexOf_4cfef at hF
  have hw0 := hF.1
  have hF := hF.2
  show vv_J1_indexOf_4cfef k 0 [(0, .ref (w0 + 100)), (1, .int x1), (2, .int x2), (3, .int x3)] [] σ
  refine ov_iload_n dJ1_indexOf_4cfef_0 1 rfl ?_
  refine ov_callS [.int x1] dJ1_indexOf_4cfef_1 (c_J1_canEncode_9a6ad hF) (Nat.le_of_ble_eq_true rfl) (Nat.le_of_ble_eq_true rfl) lk_J1_88 (Nat.le_of_ble_eq_true rfl) (Nat.le_refl _) (Nat.le_refl _) (fun rr σ2 hF => ?_)
  obtain ⟨v1, rfl, hF⟩ := hF
  show vv_J1_indexOf_4cfef k 4 [(0, .ref (w0 + 100)), (1, .int x1), (2, .int x2), (3, .int x3)] [.int v1] σ2
  refine ov_if_ne 9 dJ1_indexOf_4cfef_4 (by decide) hF (fun hF => ?_) (fun hF => ?_)
  · refine ov_iload_n dJ1_indexOf_4cfef_9 2 rfl ?_
    refine ov_iconst 0 (by decide) dJ1_indexOf_4cfef_10 ?_
    refine ov_mmax dJ1_indexOf_4cfef_11 lk_J1_92 (Nat.le_of_ble_eq_true rfl) (Nat.le_of_ble_eq_true rfl) (Nat.le_refl _) (Nat.le_refl _) ?_
    refine ov_nmI (fun v3 ev3 => ?_)
    have hF := hF v3 ev3
    refine ov_istore_n dJ1_indexOf_4cfef_14 (Nat.le_of_ble_eq_true rfl) [(2, .int v3), (0, .ref (w0 + 100)), (1, .int x1), (3, .int x3)] rfl ?_
    refine ov_iload_n dJ1_indexOf_4cfef_15 3 rfl ?_
    refine ov_aload_n dJ1_indexOf_4cfef_16 1 rfl ?_
    refine ov_sln hw0 dJ1_indexOf_4cfef_17 ?_
    refine ov_mmin dJ1_indexOf_4cfef_18 lk_J1_38 (Nat.le_of_ble_eq_true rfl) (Nat.le_of_ble_eq_true rfl) (Nat.le_refl _) (Nat.le_refl _) ?_
    refine ov_nmI (fun v4 ev4 => ?_)
    have hF := hF v4 ev4
    refine ov_istore_n dJ1_indexOf_4cfef_21 (Nat.le_of_ble_eq_true rfl) [(3, .int v4), (2, .int v3), (0, .ref (w0 + 100)), (1, .int x1)] rfl ?_
    refine ov_iload_n dJ1_indexOf_4cfef_22 1 rfl ?_
    refine ov_iload_n dJ1_indexOf_4cfef_23 0 rfl ?_
    refine ov_icmp_lt 29 dJ1_indexOf_4cfef_24 (by decide) hF (fun hF => ?_) (fun hF => ?_)
    · refine ov_aload_n dJ1_indexOf_4cfef_29 2 rfl ?_
      refine ov_iload_n dJ1_indexOf_4cfef_30 3 rfl ?_
      refine ov_iload_n dJ1_indexOf_4cfef_31 1 rfl ?_
      refine ov_iload_n dJ1_indexOf_4cfef_32 0 rfl ?_
      refine ov_callS [.ref (w0 + 100), .int x1, .int v3, .int v4] dJ1_indexOf_4cfef_33 (c_J1_indexOfChar_4cfef hF) (Nat.le_of_ble_eq_true rfl) (Nat.le_of_ble_eq_true rfl) lk_J1_95 (Nat.le_of_ble_eq_true rfl) (Nat.le_refl _) (Nat.le_refl _) (fun rr σ6 hF => ?_)
      obtain ⟨v5, rfl, hF⟩ := hF
      show vv_J1_indexOf_4cfef k 36 [(3, .int v4), (2, .int v3), (0, .ref (w0 + 100)), (1, .int x1)] [.int v5] σ6
      exact ov_ireturn dJ1_indexOf_4cfef_36 (Nat.le_refl _) (Nat.le_refl _) ⟨rfl, trivial, _, rfl, hF⟩
    · refine ov_iconst (-1) (by decide) dJ1_indexOf_4cfef_27 ?_
      exact ov_ireturn dJ1_indexOf_4cfef_28 (Nat.le_refl _) (Nat.le_refl _) ⟨rfl, trivial, _, rfl, hF⟩
  · refine ov_iconst (-1) (by decide) dJ1_indexOf_4cfef_7 ?_
    exact ov_ireturn dJ1_indexOf_4cfef_8 (Nat.le_refl _) (Nat.le_refl _) ⟨rfl, trivial, _, rfl, hF⟩
/-! J0_indexOf_7cf53 -/
abbrev vv_J0_indexOf_7cf53 (k : Int32 → ovSt → Prop) (pc : Nat) (L : List (Nat × Value)) (st : List Value) (σ : ovSt) : Prop := ov_V (ovZs 2 yJ0_indexOf_7cf53 cJ0_indexOf_7cf53 3) (ovKs (some .int) ov_S0 (ovKi k)) (0, 0) ov_S0 pc L st σ
def F_J0_indexOf_7cf53 (w : Nat) (x1 : Int32) (x2 : Int32) (σ : ovSt) (k : Int32 → ovSt → Prop) : Prop := (ov_iss w ∧ (F_J0_isLatin1_aae02 w σ (fun v1 σ2 => (if v1 = 0 then (F_J0_length_8abf5 w σ2 (fun v3 σ4 => False)) else (F_J0_length_8abf5 w σ2 (fun v5 σ6 => (F_J1_indexOf_4cfef w x1 x2 v5 σ6 (fun v7 σ8 => (k v7 σ8)))))))))
set_option maxRecDepth 100000 in
set_option maxHeartbeats 4000000 in
theorem c_J0_indexOf_7cf53 {w : Nat} {x1 : Int32} {x2 : Int32} {σ : ovSt} {k : Int32 → ovSt → Prop} (hF : F_J0_indexOf_7cf53 w x1 x2 σ k) : ov_Ct 2 yJ0_indexOf_7cf53 cJ0_indexOf_7cf53 3 (some .int) ov_S0 [.ref w, .int x1, .int x2] σ (ovKi k) := by
  refine ov_Ct.of (by decide) (Nat.le_of_ble_eq_true rfl) ?_
  unfold F_J0_indexOf_7cf53 at hF
  have hw := hF.1
  have hF := hF.2
  show vv_J0_indexOf_7cf53 k 0 [(0, .ref w), (1, .int x1), (2, .int x2)] [] σ
  refine ov_aload_n dJ0_indexOf_7cf53_0 0 rfl ?_
  refine ov_callT [] dJ0_indexOf_7cf53_1 (w - 6000) (ov_issj hw).1 (ov_issj hw).2 rfl (c_J0_isLatin1_aae02 hF) (Nat.le_of_ble_eq_true rfl) (Nat.le_of_ble_eq_true rfl) lk_J0_492 (Nat.le_of_ble_eq_true rfl) (Nat.le_refl _) (Nat.le_refl _) (fun rr σ2 hF => ?_)
  obtain ⟨v1, rfl, hF⟩ := hF
  show vv_J0_indexOf_7cf53 k 4 [(0, .ref w), (1, .int x1), (2, .int x2)] [.int v1] σ2
  refine ov_if_eq 23 dJ0_indexOf_7cf53_4 (by decide) hF (fun hF => ?_) (fun hF => ?_)
  · refine ov_aload_n dJ0_indexOf_7cf53_23 0 rfl ?_
    refine ov_sval hw dJ0_indexOf_7cf53_24 qf_J0_9 ?_
    refine ov_iload_n dJ0_indexOf_7cf53_27 1 rfl ?_
    refine ov_iload_n dJ0_indexOf_7cf53_28 2 rfl ?_
    refine ov_aload_n dJ0_indexOf_7cf53_29 0 rfl ?_
    refine ov_callT [] dJ0_indexOf_7cf53_30 (w - 6000) (ov_issj hw).1 (ov_issj hw).2 rfl (c_J0_length_8abf5 hF) (Nat.le_of_ble_eq_true rfl) (Nat.le_of_ble_eq_true rfl) lk_J0_505 (Nat.le_of_ble_eq_true rfl) (Nat.le_refl _) (Nat.le_refl _) (fun rr σ4 hF => ?_)
    obtain ⟨v3, rfl, hF⟩ := hF
    show vv_J0_indexOf_7cf53 k 33 [(0, .ref w), (1, .int x1), (2, .int x2)] [.int v3, .int x2, .int x1, .ref (w + 100)] σ4
    exact (hF : False).elim
  · refine ov_aload_n dJ0_indexOf_7cf53_7 0 rfl ?_
    refine ov_sval hw dJ0_indexOf_7cf53_8 qf_J0_9 ?_
    refine ov_iload_n dJ0_indexOf_7cf53_11 1 rfl ?_
    refine ov_iload_n dJ0_indexOf_7cf53_12 2 rfl ?_
    refine ov_aload_n dJ0_indexOf_7cf53_13 0 rfl ?_
    refine ov_callT [] dJ0_indexOf_7cf53_14 (w - 6000) (ov_issj hw).1 (ov_issj hw).2 rfl (c_J0_length_8abf5 hF) (Nat.le_of_ble_eq_true rfl) (Nat.le_of_ble_eq_true rfl) lk_J0_505 (Nat.le_of_ble_eq_true rfl) (Nat.le_refl _) (Nat.le_refl _) (fun rr σ6 hF => ?_)
    obtain ⟨v5, rfl, hF⟩ := hF
    show vv_J0_indexOf_7cf53 k 17 [(0, .ref w), (1, .int x1), (2, .int x2)] [.int v5, .int x2, .int x1, .ref (w + 100)] σ6
    refine ov_callO [.ref (w + 100), .int x1, .int x2, .int v5] dJ0_indexOf_7cf53_17 (c_J1_indexOf_4cfef hF) (Nat.le_of_ble_eq_true rfl) (Nat.le_of_ble_eq_true rfl) lk_J0_637 (Nat.le_of_ble_eq_true rfl) (Nat.le_refl _) (Nat.le_refl _) (fun rr σ8 hF => ?_)
    obtain ⟨v7, rfl, hF⟩ := hF
    show vv_J0_indexOf_7cf53 k 20 [(0, .ref w), (1, .int x1), (2, .int x2)] [.int v7] σ8
    refine ov_goto 36 dJ0_indexOf_7cf53_20 (by decide) ?_
    exact ov_ireturn dJ0_indexOf_7cf53_36 (Nat.le_refl _) (Nat.le_refl _) ⟨rfl, trivial, _, rfl, hF⟩
/-! J0_indexOf_0f7a4 -/
abbrev vv_J0_indexOf_0f7a4 (k : Int32 → ovSt → Prop) (pc : Nat) (L : List (Nat × Value)) (st : List Value) (σ : ovSt) : Prop := ov_V (ovZs 3 yJ0_indexOf_0f7a4 cJ0_indexOf_0f7a4 2) (ovKs (some .int) ov_S0 (ovKi k)) (0, 0) ov_S0 pc L st σ
def F_J0_indexOf_0f7a4 (w : Nat) (x1 : Int32) (σ : ovSt) (k : Int32 → ovSt → Prop) : Prop := (ov_iss w ∧ (F_J0_indexOf_7cf53 w x1 0 σ (fun v1 σ2 => (k v1 σ2))))
set_option maxRecDepth 100000 in
set_option maxHeartbeats 4000000 in
theorem c_J0_indexOf_0f7a4 {w : Nat} {x1 : Int32} {σ : ovSt} {k : Int32 → ovSt → Prop} (hF : F_J0_indexOf_0f7a4 w x1 σ k) : ov_Ct 3 yJ0_indexOf_0f7a4 cJ0_indexOf_0f7a4 2 (some .int) ov_S0 [.ref w, .int x1] σ (ovKi k) := by
  refine ov_Ct.of (by decide) (Nat.le_of_ble_eq_true rfl) ?_
  unfold F_J0_indexOf_0f7a4 at hF
  have hw := hF.1
  have hF := hF.2
  show vv_J0_indexOf_0f7a4 k 0 [(0, .ref w), (1, .int x1)] [] σ
  refine ov_aload_n dJ0_indexOf_0f7a4_0 0 rfl ?_
  refine ov_iload_n dJ0_indexOf_0f7a4_1 1 rfl ?_
  refine ov_iconst 0 (by decide) dJ0_indexOf_0f7a4_2 ?_
  refine ov_callT [.int x1, .int 0] dJ0_indexOf_0f7a4_3 (w - 6000) (ov_issj hw).1 (ov_issj hw).2 rfl (c_J0_indexOf_7cf53 hF) (Nat.le_of_ble_eq_true rfl) (Nat.le_of_ble_eq_true rfl) lk_J0_633 (Nat.le_of_ble_eq_true rfl) (Nat.le_refl _) (Nat.le_refl _) (fun rr σ2 hF => ?_)
  obtain ⟨v1, rfl, hF⟩ := hF
  show vv_J0_indexOf_0f7a4 k 6 [(0, .ref w), (1, .int x1)] [.int v1] σ2
  exact ov_ireturn dJ0_indexOf_0f7a4_6 (Nat.le_refl _) (Nat.le_refl _) ⟨rfl, trivial, _, rfl, hF⟩
/-! X4_numberAhead -/
abbrev vv_X4_numberAhead (k : Int32 → ovSt → Prop) (pc : Nat) (L : List (Nat × Value)) (st : List Value) (σ : ovSt) : Prop := ov_V (ovZs 0 yX4_numberAhead cX4_numberAhead 3) (ovKs (some .int) ov_S0 (ovKi k)) (0, 0) ov_S0 pc L st σ
def F_X4_numberAhead_7 (k : Int32 → ovSt → Prop) : Nat → Int32 → Int32 → ovSt → Prop
  | 0 => fun _ _ _ => False
  | n + 1 => fun x1 x2 σ => (if (σ 45 5) ≤ x2 then (k x1 σ) else (vp_in x2 96 ∧ (∀ v2 : Int32, v2 = ((x1 * 10) + ((σ 46 (Int32.toNatClampNeg x2)) - 48)) → F_X4_numberAhead_7 k n v2 (x2 + 1) σ)))
set_option maxRecDepth 100000 in
set_option maxHeartbeats 4000000 in
theorem V_X4_numberAhead_7 {k : Int32 → ovSt → Prop} : ∀ (n : Nat) (x1 : Int32) (x2 : Int32) (σ : ovSt), F_X4_numberAhead_7 k n x1 x2 σ → vv_X4_numberAhead k 7 [(0, .ref 45), (1, .int x1), (2, .int x2)] [] σ := by
  intro n
  induction n with
  | zero => intro x1 x2 σ hF; exact hF.elim
  | succ n ih =>
    intro x1 x2 σ hF
    unfold F_X4_numberAhead_7 at hF
    refine ov_iload_n dX4_numberAhead_7 2 rfl ?_
    refine ov_aload_n dX4_numberAhead_8 0 rfl ?_
    refine ov_geti (T := TX4) (kf := 5) dX4_numberAhead_9 qf_X4_29 sh_45 rfl (Nat.le_of_ble_eq_true rfl) rfl ?_
    refine ov_icmp_ge 36 dX4_numberAhead_12 (by decide) hF (fun hF => ?_) (fun hF => ?_)
    · refine ov_iload_n dX4_numberAhead_36 1 rfl ?_
      exact ov_ireturn dX4_numberAhead_37 (Nat.le_refl _) (Nat.le_refl _) ⟨rfl, trivial, _, rfl, hF⟩
    · refine ov_iload_n dX4_numberAhead_15 1 rfl ?_
      refine ov_bipush 10 (by decide) dX4_numberAhead_16 ?_
      refine ov_imul dX4_numberAhead_18 ?_
      refine ov_aload_n dX4_numberAhead_19 0 rfl ?_
      refine ov_getr (T := TX4) (kf := 0) dX4_numberAhead_20 qf_X4_9 sh_45 rfl (Nat.le_of_ble_eq_true rfl) rfl (by decide) ?_
      refine ov_iload_n dX4_numberAhead_23 2 rfl ?_
      have h1 := hF.1
      have hF := hF.2
      refine ov_baload dX4_numberAhead_24 sh_46 h1 ?_
      refine ov_bipush 48 (by decide) dX4_numberAhead_25 ?_
      refine ov_isub dX4_numberAhead_27 ?_
      refine ov_iadd dX4_numberAhead_28 ?_
      refine ov_nmI (fun v2 ev2 => ?_)
      have hF := hF v2 ev2
      refine ov_istore_n dX4_numberAhead_29 (Nat.le_of_ble_eq_true rfl) [(1, .int v2), (0, .ref 45), (2, .int x2)] rfl ?_
      refine ov_iinc dX4_numberAhead_30 2 rfl (x2 + 1) rfl (Nat.le_of_ble_eq_true rfl) [(2, .int (x2 + 1)), (1, .int v2), (0, .ref 45)] rfl ?_
      refine ov_goto 7 dX4_numberAhead_33 (by decide) ?_
      refine ov_pick [2, 1, 0] [(0, .ref 45), (1, .int v2), (2, .int (x2 + 1))] rfl ?_
      exact ih v2 (x2 + 1) σ hF
def F_X4_numberAhead (σ : ovSt) (k : Int32 → ovSt → Prop) : Prop := (∀ v3 : Int32, v3 = (σ 45 4) → (∃ n4, F_X4_numberAhead_7 k n4 0 v3 σ))
set_option maxRecDepth 100000 in
set_option maxHeartbeats 4000000 in
theorem c_X4_numberAhead {σ : ovSt} {k : Int32 → ovSt → Prop} (hF : F_X4_numberAhead σ k) : ov_Ct 0 yX4_numberAhead cX4_numberAhead 3 (some .int) ov_S0 [.ref 45] σ (ovKi k) := by
  refine ov_Ct.of (by decide) (Nat.le_of_ble_eq_true rfl) ?_
  unfold F_X4_numberAhead at hF
  show vv_X4_numberAhead k 0 [(0, .ref 45)] [] σ
  refine ov_iconst 0 (by decide) dX4_numberAhead_0 ?_
  refine ov_istore_n dX4_numberAhead_1 (Nat.le_of_ble_eq_true rfl) [(1, .int 0), (0, .ref 45)] rfl ?_
  refine ov_aload_n dX4_numberAhead_2 1 rfl ?_
  refine ov_geti (T := TX4) (kf := 4) dX4_numberAhead_3 qf_X4_26 sh_45 rfl (Nat.le_of_ble_eq_true rfl) rfl ?_
  refine ov_nmI (fun v3 ev3 => ?_)
  have hF := hF v3 ev3
  refine ov_istore_n dX4_numberAhead_6 (Nat.le_of_ble_eq_true rfl) [(2, .int v3), (1, .int 0), (0, .ref 45)] rfl ?_
  refine ov_pick [2, 1, 0] [(0, .ref 45), (1, .int 0), (2, .int v3)] rfl ?_
  obtain ⟨n4, hF⟩ := hF
  exact V_X4_numberAhead_7 n4 0 v3 σ hF
/-! X4_readLeaf -/
abbrev vv_X4_readLeaf (k : Int32 → ovSt → Prop) (pc : Nat) (L : List (Nat × Value)) (st : List Value) (σ : ovSt) : Prop := ov_V (ovZs 2 yX4_readLeaf cX4_readLeaf 2) (ovKs (some .boolean) ov_S0 (ovKi k)) (0, 0) ov_S0 pc L st σ
def F_X4_readLeaf (x1 : Int32) (σ : ovSt) (k : Int32 → ovSt → Prop) : Prop := (F_X4_emit x1 σ (fun σ2 => (∀ σ3 : ovSt, σ3 = ov_up σ2 45 8 ((σ2 45 8) + 1) → (F_X4_next σ3 (fun σ5 => (k 1 σ5))))))
set_option maxRecDepth 100000 in
set_option maxHeartbeats 4000000 in
theorem c_X4_readLeaf {x1 : Int32} {σ : ovSt} {k : Int32 → ovSt → Prop} (hF : F_X4_readLeaf x1 σ k) : ov_Ct 2 yX4_readLeaf cX4_readLeaf 2 (some .boolean) ov_S0 [.ref 45, .int x1] σ (ovKi k) := by
  refine ov_Ct.of (by decide) (Nat.le_of_ble_eq_true rfl) ?_
  unfold F_X4_readLeaf at hF
  show vv_X4_readLeaf k 0 [(0, .ref 45), (1, .int x1)] [] σ
  refine ov_aload_n dX4_readLeaf_0 0 rfl ?_
  refine ov_iload_n dX4_readLeaf_1 1 rfl ?_
  refine ov_callV [.int x1] dX4_readLeaf_2 (c_X4_emit hF) (Nat.le_of_ble_eq_true rfl) (Nat.le_of_ble_eq_true rfl) lk_X4_91 sh_45 rfl (Nat.le_of_ble_eq_true rfl) (Nat.le_refl _) (Nat.le_refl _) (fun rr σ2 hF => ?_)
  obtain ⟨rfl, hF⟩ := hF
  show vv_X4_readLeaf k 5 [(0, .ref 45), (1, .int x1)] [] σ2
  refine ov_aload_n dX4_readLeaf_5 0 rfl ?_
  refine ov_dup rfl dX4_readLeaf_6 ?_
  refine ov_geti (T := TX4) (kf := 8) dX4_readLeaf_7 qf_X4_38 sh_45 rfl (Nat.le_of_ble_eq_true rfl) rfl ?_
  refine ov_iconst 1 (by decide) dX4_readLeaf_10 ?_
  refine ov_iadd dX4_readLeaf_11 ?_
  refine ov_puti (T := TX4) (kf := 8) dX4_readLeaf_12 qf_X4_38 sh_45 rfl (Nat.le_of_ble_eq_true rfl) rfl rfl (by decide +kernel) ?_
  refine ov_nmS (fun σ3 es3 => ?_)
  have hF := hF σ3 es3
  refine ov_aload_n dX4_readLeaf_15 0 rfl ?_
  refine ov_callV [] dX4_readLeaf_16 (c_X4_next hF) (Nat.le_of_ble_eq_true rfl) (Nat.le_of_ble_eq_true rfl) lk_X4_41 sh_45 rfl (Nat.le_of_ble_eq_true rfl) (Nat.le_refl _) (Nat.le_refl _) (fun rr σ5 hF => ?_)
  obtain ⟨rfl, hF⟩ := hF
  show vv_X4_readLeaf k 19 [(0, .ref 45), (1, .int x1)] [] σ5
  refine ov_iconst 1 (by decide) dX4_readLeaf_19 ?_
  exact ov_ireturn dX4_readLeaf_20 (Nat.le_refl _) (Nat.le_refl _) ⟨rfl, ov_bl1, _, rfl, hF⟩
/-! X5_textTold -/
abbrev vv_X5_textTold (k : Int32 → ovSt → Prop) (pc : Nat) (L : List (Nat × Value)) (st : List Value) (σ : ovSt) : Prop := ov_V (ovZs 1 yX5_textTold cX5_textTold 3) (ovKs (some .int) ov_S0 (ovKi k)) (0, 0) ov_S0 pc L st σ
def F_X5_textTold_26 (k : Int32 → ovSt → Prop) (σ : ovSt) : Prop := (k (-1000000001) σ)
set_option maxRecDepth 100000 in
set_option maxHeartbeats 4000000 in
theorem V_X5_textTold_26 {k : Int32 → ovSt → Prop} (σ : ovSt) (hF : F_X5_textTold_26 k σ) : vv_X5_textTold k 26 [] [] σ := by
  unfold F_X5_textTold_26 at hF
  refine ov_ldc dX5_textTold_26 qc_X5_71 ?_
  exact ov_ireturn dX5_textTold_28 (Nat.le_refl _) (Nat.le_refl _) ⟨rfl, trivial, _, rfl, hF⟩
def F_X5_textTold_54 (k : Int32 → ovSt → Prop) (t0 : Int32) (σ : ovSt) : Prop := (k t0 σ)
set_option maxRecDepth 100000 in
set_option maxHeartbeats 4000000 in
theorem V_X5_textTold_54 {k : Int32 → ovSt → Prop} (t0 : Int32) (σ : ovSt) (hF : F_X5_textTold_54 k t0 σ) : vv_X5_textTold k 54 [] [.int t0] σ := by
  unfold F_X5_textTold_54 at hF
  exact ov_ireturn dX5_textTold_54 (Nat.le_refl _) (Nat.le_refl _) ⟨rfl, trivial, _, rfl, hF⟩
def F_X5_textTold (x1 : Int32) (x2 : Int32) (σ : ovSt) (k : Int32 → ovSt → Prop) : Prop := (F_X5_within x1 0 ((σ 21 13) - 1) σ (fun v1 σ2 => (if v1 = 0 then (F_X5_textTold_26 k σ2) else (F_X5_within x2 0 1 σ2 (fun v3 σ4 => (if v3 = 0 then (F_X5_textTold_26 k σ4) else (if x2 = 0 then (vp_in x1 14 ∧ (F_X5_textTold_54 k (σ4 18 (Int32.toNatClampNeg x1)) σ4)) else (vp_in x1 14 ∧ (F_X5_textTold_54 k (σ4 19 (Int32.toNatClampNeg x1)) σ4)))))))))
set_option maxRecDepth 100000 in
set_option maxHeartbeats 4000000 in
theorem c_X5_textTold {x1 : Int32} {x2 : Int32} {σ : ovSt} {k : Int32 → ovSt → Prop} (hF : F_X5_textTold x1 x2 σ k) : ov_Ct 1 yX5_textTold cX5_textTold 3 (some .int) ov_S0 [.ref 0, .int x1, .int x2] σ (ovKi k) := by
  refine ov_Ct.of (by decide) (Nat.le_of_ble_eq_true rfl) ?_
  unfold F_X5_textTold at hF
  show vv_X5_textTold k 0 [(0, .ref 0), (1, .int x1), (2, .int x2)] [] σ
  refine ov_iload_n dX5_textTold_0 1 rfl ?_
  refine ov_iconst 0 (by decide) dX5_textTold_1 ?_
  refine ov_aload_n dX5_textTold_2 0 rfl ?_
  refine ov_getr (T := TX5) (kf := 1) dX5_textTold_3 qf_X5_21 sh_0 rfl (Nat.le_of_ble_eq_true rfl) rfl (by decide) ?_
  refine ov_geti (T := TX3) (kf := 13) dX5_textTold_6 qf_X5_232 (ov_stk0 (by unfold ov_stk; decide)) rfl (Nat.le_of_ble_eq_true rfl) rfl ?_
  refine ov_iconst 1 (by decide) dX5_textTold_9 ?_
  refine ov_isub dX5_textTold_10 ?_
  refine ov_callS [.int x1, .int 0, .int ((σ 21 13) - 1)] dX5_textTold_11 (c_X5_within hF) (Nat.le_of_ble_eq_true rfl) (Nat.le_of_ble_eq_true rfl) lk_X5_67 (Nat.le_of_ble_eq_true rfl) (Nat.le_refl _) (Nat.le_refl _) (fun rr σ2 hF => ?_)
  obtain ⟨v1, rfl, hF⟩ := hF
  show vv_X5_textTold k 14 [(0, .ref 0), (1, .int x1), (2, .int x2)] [.int v1] σ2
  refine ov_if_eq 26 dX5_textTold_14 (by decide) hF (fun hF => ?_) (fun hF => ?_)
  · refine ov_pick [] [] rfl ?_
    exact V_X5_textTold_26 σ2 hF
  · refine ov_iload_n dX5_textTold_17 2 rfl ?_
    refine ov_iconst 0 (by decide) dX5_textTold_18 ?_
    refine ov_iconst 1 (by decide) dX5_textTold_19 ?_
    refine ov_callS [.int x2, .int 0, .int 1] dX5_textTold_20 (c_X5_within hF) (Nat.le_of_ble_eq_true rfl) (Nat.le_of_ble_eq_true rfl) lk_X5_67 (Nat.le_of_ble_eq_true rfl) (Nat.le_refl _) (Nat.le_refl _) (fun rr σ4 hF => ?_)
    obtain ⟨v3, rfl, hF⟩ := hF
    show vv_X5_textTold k 23 [(0, .ref 0), (1, .int x1), (2, .int x2)] [.int v3] σ4
    refine ov_if_ne 29 dX5_textTold_23 (by decide) hF (fun hF => ?_) (fun hF => ?_)
    · refine ov_iload_n dX5_textTold_29 2 rfl ?_
      refine ov_if_ne 45 dX5_textTold_30 (by decide) hF (fun hF => ?_) (fun hF => ?_)
      · refine ov_aload_n dX5_textTold_45 0 rfl ?_
        refine ov_getr (T := TX5) (kf := 0) dX5_textTold_46 qf_X5_10 sh_0 rfl (Nat.le_of_ble_eq_true rfl) rfl (by decide) ?_
        refine ov_getr (T := TX0) (kf := 3) dX5_textTold_49 qf_X5_245 sh_1 rfl (Nat.le_of_ble_eq_true rfl) rfl (by decide) ?_
        refine ov_iload_n dX5_textTold_52 1 rfl ?_
        have h5 := hF.1
        have hF := hF.2
        refine ov_iaload dX5_textTold_53 sh_19 h5 ?_
        refine ov_pick [] [] rfl ?_
        exact V_X5_textTold_54 (σ4 19 (Int32.toNatClampNeg x1)) σ4 hF
      · refine ov_aload_n dX5_textTold_33 0 rfl ?_
        refine ov_getr (T := TX5) (kf := 0) dX5_textTold_34 qf_X5_10 sh_0 rfl (Nat.le_of_ble_eq_true rfl) rfl (by decide) ?_
        refine ov_getr (T := TX0) (kf := 2) dX5_textTold_37 qf_X5_242 sh_1 rfl (Nat.le_of_ble_eq_true rfl) rfl (by decide) ?_
        refine ov_iload_n dX5_textTold_40 1 rfl ?_
        have h6 := hF.1
        have hF := hF.2
        refine ov_iaload dX5_textTold_41 sh_18 h6 ?_
        refine ov_goto 54 dX5_textTold_42 (by decide) ?_
        refine ov_pick [] [] rfl ?_
        exact V_X5_textTold_54 (σ4 18 (Int32.toNatClampNeg x1)) σ4 hF
    · refine ov_pick [] [] rfl ?_
      exact V_X5_textTold_26 σ4 hF
/-! X5_why -/
abbrev vv_X5_why (k : Int32 → ovSt → Prop) (pc : Nat) (L : List (Nat × Value)) (st : List Value) (σ : ovSt) : Prop := ov_V (ovZs 1 yX5_why cX5_why 2) (ovKs (some .int) ov_S0 (ovKi k)) (0, 0) ov_S0 pc L st σ
def F_X5_why_38 (k : Int32 → ovSt → Prop) (t0 : Int32) (σ : ovSt) : Prop := (k t0 σ)
set_option maxRecDepth 100000 in
set_option maxHeartbeats 4000000 in
theorem V_X5_why_38 {k : Int32 → ovSt → Prop} (t0 : Int32) (σ : ovSt) (hF : F_X5_why_38 k t0 σ) : vv_X5_why k 38 [] [.int t0] σ := by
  unfold F_X5_why_38 at hF
  exact ov_ireturn dX5_why_38 (Nat.le_refl _) (Nat.le_refl _) ⟨rfl, trivial, _, rfl, hF⟩
def F_X5_why (x1 : Int32) (σ : ovSt) (k : Int32 → ovSt → Prop) : Prop := (F_X5_within x1 0 2 σ (fun v1 σ2 => (if v1 = 0 then (k (-1000000001) σ2) else (vp_in x1 3 ∧ (if 0 ≤ (σ2 26 (Int32.toNatClampNeg x1)) then (F_X5_why_38 k (σ2 26 (Int32.toNatClampNeg x1)) σ2) else (F_X5_why_38 k (-1000000005) σ2))))))
set_option maxRecDepth 100000 in
set_option maxHeartbeats 4000000 in
theorem c_X5_why {x1 : Int32} {σ : ovSt} {k : Int32 → ovSt → Prop} (hF : F_X5_why x1 σ k) : ov_Ct 1 yX5_why cX5_why 2 (some .int) ov_S0 [.ref 0, .int x1] σ (ovKi k) := by
  refine ov_Ct.of (by decide) (Nat.le_of_ble_eq_true rfl) ?_
  unfold F_X5_why at hF
  show vv_X5_why k 0 [(0, .ref 0), (1, .int x1)] [] σ
  refine ov_iload_n dX5_why_0 1 rfl ?_
  refine ov_iconst 0 (by decide) dX5_why_1 ?_
  refine ov_iconst 2 (by decide) dX5_why_2 ?_
  refine ov_callS [.int x1, .int 0, .int 2] dX5_why_3 (c_X5_within hF) (Nat.le_of_ble_eq_true rfl) (Nat.le_of_ble_eq_true rfl) lk_X5_67 (Nat.le_of_ble_eq_true rfl) (Nat.le_refl _) (Nat.le_refl _) (fun rr σ2 hF => ?_)
  obtain ⟨v1, rfl, hF⟩ := hF
  show vv_X5_why k 6 [(0, .ref 0), (1, .int x1)] [.int v1] σ2
  refine ov_if_ne 12 dX5_why_6 (by decide) hF (fun hF => ?_) (fun hF => ?_)
  · refine ov_aload_n dX5_why_12 0 rfl ?_
    refine ov_getr (T := TX5) (kf := 1) dX5_why_13 qf_X5_21 sh_0 rfl (Nat.le_of_ble_eq_true rfl) rfl (by decide) ?_
    refine ov_getr (T := TX3) (kf := 5) dX5_why_16 qf_X5_164 (ov_stk0 (by unfold ov_stk; decide)) rfl (Nat.le_of_ble_eq_true rfl) rfl (by decide) ?_
    refine ov_iload_n dX5_why_19 1 rfl ?_
    have h3 := hF.1
    have hF := hF.2
    refine ov_iaload dX5_why_20 sh_26 h3 ?_
    refine ov_if_ge 29 dX5_why_21 (by decide) hF (fun hF => ?_) (fun hF => ?_)
    · refine ov_aload_n dX5_why_29 0 rfl ?_
      refine ov_getr (T := TX5) (kf := 1) dX5_why_30 qf_X5_21 sh_0 rfl (Nat.le_of_ble_eq_true rfl) rfl (by decide) ?_
      refine ov_getr (T := TX3) (kf := 5) dX5_why_33 qf_X5_164 (ov_stk0 (by unfold ov_stk; decide)) rfl (Nat.le_of_ble_eq_true rfl) rfl (by decide) ?_
      refine ov_iload_n dX5_why_36 1 rfl ?_
      refine ov_iaload dX5_why_37 sh_26 h3 ?_
      refine ov_pick [] [] rfl ?_
      exact V_X5_why_38 (σ2 26 (Int32.toNatClampNeg x1)) σ2 hF
    · refine ov_ldc dX5_why_24 qc_X5_178 ?_
      refine ov_goto 38 dX5_why_26 (by decide) ?_
      refine ov_pick [] [] rfl ?_
      exact V_X5_why_38 (-1000000005) σ2 hF
  · refine ov_ldc dX5_why_9 qc_X5_71 ?_
    exact ov_ireturn dX5_why_11 (Nat.le_refl _) (Nat.le_refl _) ⟨rfl, trivial, _, rfl, hF⟩
/-! X5_sheet -/
abbrev vv_X5_sheet (k : Int32 → ovSt → Prop) (pc : Nat) (L : List (Nat × Value)) (st : List Value) (σ : ovSt) : Prop := ov_V (ovZs 2 yX5_sheet cX5_sheet 4) (ovKs (some .int) ov_S0 (ovKi k)) (0, 0) ov_S0 pc L st σ
def F_X5_sheet_16 (k : Int32 → ovSt → Prop) (σ : ovSt) : Prop := (k (-1000000001) σ)
set_option maxRecDepth 100000 in
set_option maxHeartbeats 4000000 in
theorem V_X5_sheet_16 {k : Int32 → ovSt → Prop} (σ : ovSt) (hF : F_X5_sheet_16 k σ) : vv_X5_sheet k 16 [] [] σ := by
  unfold F_X5_sheet_16 at hF
  refine ov_ldc dX5_sheet_16 qc_X5_71 ?_
  exact ov_ireturn dX5_sheet_18 (Nat.le_refl _) (Nat.le_refl _) ⟨rfl, trivial, _, rfl, hF⟩
def F_X5_sheet (x1 : Int32) (x2 : Int32) (x3 : Int32) (σ : ovSt) (k : Int32 → ovSt → Prop) : Prop := (F_X5_isSheet x1 σ (fun v1 σ2 => (if v1 = 0 then (F_X5_sheet_16 k σ2) else (F_X5_within x2 (-1) 1 σ2 (fun v3 σ4 => (if v3 = 0 then (F_X5_sheet_16 k σ4) else (if x2 = ((-1) : Int32) then (vp_in x1 4 ∧ (F_X1_begin (51 + 2 * Int32.toNatClampNeg x1) (-1) 0 σ4 (fun σ10 => (k 0 σ10)))) else (if x3 ≤ (24 : Int32) then (if 0 ≤ x3 then (vp_in x1 4 ∧ (F_X1_begin (51 + 2 * Int32.toNatClampNeg x1) x2 x3 σ4 (fun σ7 => (k x3 σ7)))) else (k (-1000000014) σ4)) else (k (-1000000001) σ4)))))))))
set_option maxRecDepth 100000 in
set_option maxHeartbeats 4000000 in
theorem c_X5_sheet {x1 : Int32} {x2 : Int32} {x3 : Int32} {σ : ovSt} {k : Int32 → ovSt → Prop} (hF : F_X5_sheet x1 x2 x3 σ k) : ov_Ct 2 yX5_sheet cX5_sheet 4 (some .int) ov_S0 [.ref 0, .int x1, .int x2, .int x3] σ (ovKi k) := by
  refine ov_Ct.of (by decide) (Nat.le_of_ble_eq_true rfl) ?_
  unfold F_X5_sheet at hF
  show vv_X5_sheet k 0 [(0, .ref 0), (1, .int x1), (2, .int x2), (3, .int x3)] [] σ
  refine ov_iload_n dX5_sheet_0 1 rfl ?_
  refine ov_callS [.int x1] dX5_sheet_1 (c_X5_isSheet hF) (Nat.le_of_ble_eq_true rfl) (Nat.le_of_ble_eq_true rfl) lk_X5_195 (Nat.le_of_ble_eq_true rfl) (Nat.le_refl _) (Nat.le_refl _) (fun rr σ2 hF => ?_)
  obtain ⟨v1, rfl, hF⟩ := hF
  show vv_X5_sheet k 4 [(0, .ref 0), (1, .int x1), (2, .int x2), (3, .int x3)] [.int v1] σ2
  refine ov_if_eq 16 dX5_sheet_4 (by decide) hF (fun hF => ?_) (fun hF => ?_)
  · refine ov_pick [] [] rfl ?_
    exact V_X5_sheet_16 σ2 hF
  · refine ov_iload_n dX5_sheet_7 2 rfl ?_
    refine ov_iconst (-1) (by decide) dX5_sheet_8 ?_
    refine ov_iconst 1 (by decide) dX5_sheet_9 ?_
    refine ov_callS [.int x2, .int (-1), .int 1] dX5_sheet_10 (c_X5_within hF) (Nat.le_of_ble_eq_true rfl) (Nat.le_of_ble_eq_true rfl) lk_X5_67 (Nat.le_of_ble_eq_true rfl) (Nat.le_refl _) (Nat.le_refl _) (fun rr σ4 hF => ?_)
    obtain ⟨v3, rfl, hF⟩ := hF
    show vv_X5_sheet k 13 [(0, .ref 0), (1, .int x1), (2, .int x2), (3, .int x3)] [.int v3] σ4
    refine ov_if_ne 19 dX5_sheet_13 (by decide) hF (fun hF => ?_) (fun hF => ?_)
    · refine ov_iload_n dX5_sheet_19 2 rfl ?_
      refine ov_iconst (-1) (by decide) dX5_sheet_20 ?_
      refine ov_icmp_ne 37 dX5_sheet_21 (by decide) hF (fun hF => ?_) (fun hF => ?_)
      · refine ov_iload_n dX5_sheet_37 3 rfl ?_
        refine ov_bipush 24 (by decide) dX5_sheet_38 ?_
        refine ov_icmp_le 46 dX5_sheet_40 (by decide) hF (fun hF => ?_) (fun hF => ?_)
        · refine ov_iload_n dX5_sheet_46 3 rfl ?_
          refine ov_if_ge 53 dX5_sheet_47 (by decide) hF (fun hF => ?_) (fun hF => ?_)
          · refine ov_aload_n dX5_sheet_53 0 rfl ?_
            refine ov_getr (T := TX5) (kf := 6) dX5_sheet_54 qf_X5_43 sh_0 rfl (Nat.le_of_ble_eq_true rfl) rfl (by decide) ?_
            refine ov_iload_n dX5_sheet_57 1 rfl ?_
            have h5 := hF.1
            have hF := hF.2
            refine ov_aaloadR dX5_sheet_58 sh_48 h5 (ov_shR h5) (ov_shRn h5) ?_
            refine ov_iload_n dX5_sheet_59 2 rfl ?_
            refine ov_iload_n dX5_sheet_60 3 rfl ?_
            refine ov_callV [.int x2, .int x3] dX5_sheet_61 (c_X1_begin hF) (Nat.le_of_ble_eq_true rfl) (Nat.le_of_ble_eq_true rfl) lk_X5_248 (ov_isr0 (ov_shR2 h5)) rfl (Nat.le_of_ble_eq_true rfl) (Nat.le_refl _) (Nat.le_refl _) (fun rr σ7 hF => ?_)
            obtain ⟨rfl, hF⟩ := hF
            show vv_X5_sheet k 64 [(0, .ref 0), (1, .int x1), (2, .int x2), (3, .int x3)] [] σ7
            refine ov_iload_n dX5_sheet_64 3 rfl ?_
            exact ov_ireturn dX5_sheet_65 (Nat.le_refl _) (Nat.le_refl _) ⟨rfl, trivial, _, rfl, hF⟩
          · refine ov_ldc dX5_sheet_50 qc_X5_251 ?_
            exact ov_ireturn dX5_sheet_52 (Nat.le_refl _) (Nat.le_refl _) ⟨rfl, trivial, _, rfl, hF⟩
        · refine ov_ldc dX5_sheet_43 qc_X5_71 ?_
          exact ov_ireturn dX5_sheet_45 (Nat.le_refl _) (Nat.le_refl _) ⟨rfl, trivial, _, rfl, hF⟩
      · refine ov_aload_n dX5_sheet_24 0 rfl ?_
        refine ov_getr (T := TX5) (kf := 6) dX5_sheet_25 qf_X5_43 sh_0 rfl (Nat.le_of_ble_eq_true rfl) rfl (by decide) ?_
        refine ov_iload_n dX5_sheet_28 1 rfl ?_
        have h8 := hF.1
        have hF := hF.2
        refine ov_aaloadR dX5_sheet_29 sh_48 h8 (ov_shR h8) (ov_shRn h8) ?_
        refine ov_iconst (-1) (by decide) dX5_sheet_30 ?_
        refine ov_iconst 0 (by decide) dX5_sheet_31 ?_
        refine ov_callV [.int (-1), .int 0] dX5_sheet_32 (c_X1_begin hF) (Nat.le_of_ble_eq_true rfl) (Nat.le_of_ble_eq_true rfl) lk_X5_248 (ov_isr0 (ov_shR2 h8)) rfl (Nat.le_of_ble_eq_true rfl) (Nat.le_refl _) (Nat.le_refl _) (fun rr σ10 hF => ?_)
        obtain ⟨rfl, hF⟩ := hF
        show vv_X5_sheet k 35 [(0, .ref 0), (1, .int x1), (2, .int x2), (3, .int x3)] [] σ10
        refine ov_iconst 0 (by decide) dX5_sheet_35 ?_
        exact ov_ireturn dX5_sheet_36 (Nat.le_refl _) (Nat.le_refl _) ⟨rfl, trivial, _, rfl, hF⟩
    · refine ov_pick [] [] rfl ?_
      exact V_X5_sheet_16 σ4 hF
/-! X5_mark -/
abbrev vv_X5_mark (k : Int32 → ovSt → Prop) (pc : Nat) (L : List (Nat × Value)) (st : List Value) (σ : ovSt) : Prop := ov_V (ovZs 2 yX5_mark cX5_mark 5) (ovKs (some .int) ov_S0 (ovKi k)) (0, 0) ov_S0 pc L st σ
def F_X5_mark_108 (k : Int32 → ovSt → Prop) (t0 : Int32) (t1 : Int32) (u2 : Nat) (σ : ovSt) : Prop := (vp_in t1 24 ∧ (∀ σ2 : ovSt, σ2 = ov_up σ u2 (Int32.toNatClampNeg t1) t0 → (k 1 σ2)))
set_option maxRecDepth 100000 in
set_option maxHeartbeats 4000000 in
theorem V_X5_mark_108 {k : Int32 → ovSt → Prop} (t0 : Int32) (t1 : Int32) (u2 : Nat) (σ : ovSt) (hu2 : ov_S0[u2]? = some (9, 24, [])) (hF : F_X5_mark_108 k t0 t1 u2 σ) : vv_X5_mark k 108 [] [.int t0, .int t1, .ref u2] σ := by
  unfold F_X5_mark_108 at hF
  have h1 := hF.1
  have hF := hF.2
  refine ov_iastore dX5_mark_108 hu2 h1 ?_
  refine ov_nmS (fun σ2 es2 => ?_)
  have hF := hF σ2 es2
  refine ov_iconst 1 (by decide) dX5_mark_109 ?_
  exact ov_ireturn dX5_mark_110 (Nat.le_refl _) (Nat.le_refl _) ⟨rfl, trivial, _, rfl, hF⟩
def F_X5_mark_88 (k : Int32 → ovSt → Prop) (x2 : Int32) (x3 : Int32) (r4 : Nat) (σ : ovSt) : Prop := (if (σ r4 1) = 0 then (F_X5_mark_108 k (Int32.toInt16 x3).toInt32 x2 (r4 + 1) σ) else (F_X5_mark_108 k x3 x2 (r4 + 1) σ))
set_option maxRecDepth 100000 in
set_option maxHeartbeats 4000000 in
theorem V_X5_mark_88 {k : Int32 → ovSt → Prop} (x2 : Int32) (x3 : Int32) (r4 : Nat) (σ : ovSt) (hr4 : ov_isr r4) (hF : F_X5_mark_88 k x2 x3 r4 σ) : vv_X5_mark k 88 [(2, .int x2), (3, .int x3), (4, .ref r4)] [] σ := by
  unfold F_X5_mark_88 at hF
  refine ov_aload dX5_mark_88 2 rfl ?_
  refine ov_getr (T := TX1) (kf := 0) dX5_mark_90 qf_X5_213 (ov_isr0 hr4) rfl (Nat.le_of_ble_eq_true rfl) rfl (ov_isrn hr4 1 (by decide)) ?_
  refine ov_iload_n dX5_mark_93 0 rfl ?_
  refine ov_aload dX5_mark_94 2 rfl ?_
  refine ov_geti (T := TX1) (kf := 1) dX5_mark_96 qf_X5_256 (ov_isr0 hr4) rfl (Nat.le_of_ble_eq_true rfl) rfl ?_
  refine ov_if_ne 107 dX5_mark_99 (by decide) hF (fun hF => ?_) (fun hF => ?_)
  · refine ov_iload_n dX5_mark_107 1 rfl ?_
    refine ov_pick [] [] rfl ?_
    exact V_X5_mark_108 x3 x2 (r4 + 1) σ (ov_isr1 hr4) hF
  · refine ov_iload_n dX5_mark_102 1 rfl ?_
    refine ov_i2s dX5_mark_103 ?_
    refine ov_goto 108 dX5_mark_104 (by decide) ?_
    refine ov_pick [] [] rfl ?_
    exact V_X5_mark_108 (Int32.toInt16 x3).toInt32 x2 (r4 + 1) σ (ov_isr1 hr4) hF
def F_X5_mark_58 (k : Int32 → ovSt → Prop) (x2 : Int32) (x3 : Int32) (r4 : Nat) (σ : ovSt) : Prop := (if (σ r4 1) = (1 : Int32) then (if x3 = ((-1000000005) : Int32) then (F_X5_mark_88 k x2 x3 r4 σ) else (F_X5_within x3 (-99999) 99999 σ (fun v3 σ4 => (if v3 = 0 then (k (-1000000001) σ4) else (F_X5_mark_88 k x2 x3 r4 σ4))))) else (F_X5_mark_88 k x2 x3 r4 σ))
set_option maxRecDepth 100000 in
set_option maxHeartbeats 4000000 in
theorem V_X5_mark_58 {k : Int32 → ovSt → Prop} (x2 : Int32) (x3 : Int32) (r4 : Nat) (σ : ovSt) (hr4 : ov_isr r4) (hF : F_X5_mark_58 k x2 x3 r4 σ) : vv_X5_mark k 58 [(2, .int x2), (3, .int x3), (4, .ref r4)] [] σ := by
  unfold F_X5_mark_58 at hF
  refine ov_aload dX5_mark_58 2 rfl ?_
  refine ov_geti (T := TX1) (kf := 1) dX5_mark_60 qf_X5_256 (ov_isr0 hr4) rfl (Nat.le_of_ble_eq_true rfl) rfl ?_
  refine ov_iconst 1 (by decide) dX5_mark_63 ?_
  refine ov_icmp_ne 88 dX5_mark_64 (by decide) hF (fun hF => ?_) (fun hF => ?_)
  · exact V_X5_mark_88 x2 x3 r4 σ hr4 hF
  · refine ov_iload_n dX5_mark_67 1 rfl ?_
    refine ov_ldc dX5_mark_68 qc_X5_178 ?_
    refine ov_icmp_eq 88 dX5_mark_70 (by decide) hF (fun hF => ?_) (fun hF => ?_)
    · exact V_X5_mark_88 x2 x3 r4 σ hr4 hF
    · refine ov_iload_n dX5_mark_73 1 rfl ?_
      refine ov_ldcw dX5_mark_74 qc_X5_259 ?_
      refine ov_ldc dX5_mark_77 qc_X5_126 ?_
      refine ov_callS [.int x3, .int (-99999), .int 99999] dX5_mark_79 (c_X5_within hF) (Nat.le_of_ble_eq_true rfl) (Nat.le_of_ble_eq_true rfl) lk_X5_67 (Nat.le_of_ble_eq_true rfl) (Nat.le_refl _) (Nat.le_refl _) (fun rr σ4 hF => ?_)
      obtain ⟨v3, rfl, hF⟩ := hF
      show vv_X5_mark k 82 [(2, .int x2), (3, .int x3), (4, .ref r4)] [.int v3] σ4
      refine ov_if_ne 88 dX5_mark_82 (by decide) hF (fun hF => ?_) (fun hF => ?_)
      · exact V_X5_mark_88 x2 x3 r4 σ4 hr4 hF
      · refine ov_ldc dX5_mark_85 qc_X5_71 ?_
        exact ov_ireturn dX5_mark_87 (Nat.le_refl _) (Nat.le_refl _) ⟨rfl, trivial, _, rfl, hF⟩
def F_X5_mark (x1 : Int32) (x2 : Int32) (x3 : Int32) (σ : ovSt) (k : Int32 → ovSt → Prop) : Prop := (F_X5_isSheet x1 σ (fun v5 σ6 => (if v5 = 0 then (k (-1000000001) σ6) else (vp_in x1 4 ∧ (F_X1_isMissing (51 + 2 * Int32.toNatClampNeg x1) σ6 (fun v8 σ9 => (if v8 = 0 then (F_X1_hasPlace (51 + 2 * Int32.toNatClampNeg x1) x2 σ9 (fun v10 σ11 => (if v10 = 0 then (k (-1000000013) σ11) else (if (σ11 (51 + 2 * Int32.toNatClampNeg x1) 1) = 0 then (if x3 = ((-1000000005) : Int32) then (k (-1000000012) σ11) else (F_X5_mark_58 k x2 x3 (51 + 2 * Int32.toNatClampNeg x1) σ11)) else (F_X5_mark_58 k x2 x3 (51 + 2 * Int32.toNatClampNeg x1) σ11))))) else (k (-1000000011) σ9))))))))
set_option maxRecDepth 100000 in
set_option maxHeartbeats 4000000 in
theorem c_X5_mark {x1 : Int32} {x2 : Int32} {x3 : Int32} {σ : ovSt} {k : Int32 → ovSt → Prop} (hF : F_X5_mark x1 x2 x3 σ k) : ov_Ct 2 yX5_mark cX5_mark 5 (some .int) ov_S0 [.ref 0, .int x1, .int x2, .int x3] σ (ovKi k) := by
  refine ov_Ct.of (by decide) (Nat.le_of_ble_eq_true rfl) ?_
  unfold F_X5_mark at hF
  show vv_X5_mark k 0 [(0, .ref 0), (1, .int x1), (2, .int x2), (3, .int x3)] [] σ
  refine ov_iload_n dX5_mark_0 1 rfl ?_
  refine ov_callS [.int x1] dX5_mark_1 (c_X5_isSheet hF) (Nat.le_of_ble_eq_true rfl) (Nat.le_of_ble_eq_true rfl) lk_X5_195 (Nat.le_of_ble_eq_true rfl) (Nat.le_refl _) (Nat.le_refl _) (fun rr σ6 hF => ?_)
  obtain ⟨v5, rfl, hF⟩ := hF
  show vv_X5_mark k 4 [(0, .ref 0), (1, .int x1), (2, .int x2), (3, .int x3)] [.int v5] σ6
  refine ov_if_ne 10 dX5_mark_4 (by decide) hF (fun hF => ?_) (fun hF => ?_)
  · refine ov_aload_n dX5_mark_10 0 rfl ?_
    refine ov_getr (T := TX5) (kf := 6) dX5_mark_11 qf_X5_43 sh_0 rfl (Nat.le_of_ble_eq_true rfl) rfl (by decide) ?_
    refine ov_iload_n dX5_mark_14 1 rfl ?_
    have h7 := hF.1
    have hF := hF.2
    refine ov_aaloadR dX5_mark_15 sh_48 h7 (ov_shR h7) (ov_shRn h7) ?_
    refine ov_astore dX5_mark_16 (Nat.le_of_ble_eq_true rfl) [(4, .ref (51 + 2 * Int32.toNatClampNeg x1)), (0, .ref 0), (1, .int x1), (2, .int x2), (3, .int x3)] rfl ?_
    refine ov_aload dX5_mark_18 0 rfl ?_
    refine ov_callV [] dX5_mark_20 (c_X1_isMissing hF) (Nat.le_of_ble_eq_true rfl) (Nat.le_of_ble_eq_true rfl) lk_X5_198 (ov_isr0 (ov_shR2 h7)) rfl (Nat.le_of_ble_eq_true rfl) (Nat.le_refl _) (Nat.le_refl _) (fun rr σ9 hF => ?_)
    obtain ⟨v8, rfl, hF⟩ := hF
    show vv_X5_mark k 23 [(4, .ref (51 + 2 * Int32.toNatClampNeg x1)), (0, .ref 0), (1, .int x1), (2, .int x2), (3, .int x3)] [.int v8] σ9
    refine ov_if_eq 29 dX5_mark_23 (by decide) hF (fun hF => ?_) (fun hF => ?_)
    · refine ov_aload dX5_mark_29 0 rfl ?_
      refine ov_iload_n dX5_mark_31 3 rfl ?_
      refine ov_callV [.int x2] dX5_mark_32 (c_X1_hasPlace hF) (Nat.le_of_ble_eq_true rfl) (Nat.le_of_ble_eq_true rfl) lk_X5_252 (ov_isr0 (ov_shR2 h7)) rfl (Nat.le_of_ble_eq_true rfl) (Nat.le_refl _) (Nat.le_refl _) (fun rr σ11 hF => ?_)
      obtain ⟨v10, rfl, hF⟩ := hF
      show vv_X5_mark k 35 [(4, .ref (51 + 2 * Int32.toNatClampNeg x1)), (0, .ref 0), (1, .int x1), (2, .int x2), (3, .int x3)] [.int v10] σ11
      refine ov_if_ne 41 dX5_mark_35 (by decide) hF (fun hF => ?_) (fun hF => ?_)
      · refine ov_aload dX5_mark_41 0 rfl ?_
        refine ov_geti (T := TX1) (kf := 1) dX5_mark_43 qf_X5_256 (ov_isr0 (ov_shR2 h7)) rfl (Nat.le_of_ble_eq_true rfl) rfl ?_
        refine ov_if_ne 58 dX5_mark_46 (by decide) hF (fun hF => ?_) (fun hF => ?_)
        · refine ov_pick [3, 4, 0] [(2, .int x2), (3, .int x3), (4, .ref (51 + 2 * Int32.toNatClampNeg x1))] rfl ?_
          exact V_X5_mark_58 x2 x3 (51 + 2 * Int32.toNatClampNeg x1) σ11 (ov_shR2 h7) hF
        · refine ov_iload_n dX5_mark_49 4 rfl ?_
          refine ov_ldc dX5_mark_50 qc_X5_178 ?_
          refine ov_icmp_ne 58 dX5_mark_52 (by decide) hF (fun hF => ?_) (fun hF => ?_)
          · refine ov_pick [3, 4, 0] [(2, .int x2), (3, .int x3), (4, .ref (51 + 2 * Int32.toNatClampNeg x1))] rfl ?_
            exact V_X5_mark_58 x2 x3 (51 + 2 * Int32.toNatClampNeg x1) σ11 (ov_shR2 h7) hF
          · refine ov_ldc dX5_mark_55 qc_X5_121 ?_
            exact ov_ireturn dX5_mark_57 (Nat.le_refl _) (Nat.le_refl _) ⟨rfl, trivial, _, rfl, hF⟩
      · refine ov_ldc dX5_mark_38 qc_X5_255 ?_
        exact ov_ireturn dX5_mark_40 (Nat.le_refl _) (Nat.le_refl _) ⟨rfl, trivial, _, rfl, hF⟩
    · refine ov_ldc dX5_mark_26 qc_X5_202 ?_
      exact ov_ireturn dX5_mark_28 (Nat.le_refl _) (Nat.le_refl _) ⟨rfl, trivial, _, rfl, hF⟩
  · refine ov_ldc dX5_mark_7 qc_X5_71 ?_
    exact ov_ireturn dX5_mark_9 (Nat.le_refl _) (Nat.le_refl _) ⟨rfl, trivial, _, rfl, hF⟩
/-! X5_pour -/
abbrev vv_X5_pour (k : Int32 → ovSt → Prop) (pc : Nat) (L : List (Nat × Value)) (st : List Value) (σ : ovSt) : Prop := ov_V (ovZs 2 yX5_pour cX5_pour 6) (ovKs (some .int) ov_S0 (ovKi k)) (0, 0) ov_S0 pc L st σ
def F_X5_pour_111 (R32 : Nat → Int32 → Int32 → ovSt → Prop) (k : Int32 → ovSt → Prop) (r2 : Nat) (x3 : Int32) (x4 : Int32) (σ : ovSt) : Prop := R32 r2 x3 (x4 + 1) σ
set_option maxRecDepth 100000 in
set_option maxHeartbeats 4000000 in
theorem V_X5_pour_111 {k : Int32 → ovSt → Prop} {R32 : Nat → Int32 → Int32 → ovSt → Prop} (hR32 : ∀ (r2 : Nat) (x3 : Int32) (x4 : Int32) (σ : ovSt), ov_isr r2 → R32 r2 x3 x4 σ → vv_X5_pour k 32 [(0, .ref 0), (2, .ref r2), (3, .int x3), (4, .int x4)] [] σ) (r2 : Nat) (x3 : Int32) (x4 : Int32) (σ : ovSt) (hr2 : ov_isr r2) (hF : F_X5_pour_111 R32 k r2 x3 x4 σ) : vv_X5_pour k 111 [(0, .ref 0), (2, .ref r2), (3, .int x3), (4, .int x4)] [] σ := by
  unfold F_X5_pour_111 at hF
  refine ov_iinc dX5_pour_111 3 rfl (x4 + 1) rfl (Nat.le_of_ble_eq_true rfl) [(4, .int (x4 + 1)), (0, .ref 0), (2, .ref r2), (3, .int x3)] rfl ?_
  refine ov_goto 32 dX5_pour_114 (by decide) ?_
  refine ov_pick [1, 2, 3, 0] [(0, .ref 0), (2, .ref r2), (3, .int x3), (4, .int (x4 + 1))] rfl ?_
  exact hR32 r2 x3 (x4 + 1) σ hr2 hF
def F_X5_pour_97 (R32 : Nat → Int32 → Int32 → ovSt → Prop) (k : Int32 → ovSt → Prop) (r2 : Nat) (x4 : Int32) (x5 : Int32) (t0 : Int32) (t1 : Int32) (σ : ovSt) : Prop := (∀ v1 : Int32, v1 = (t1 + t0) → (vp_in x4 8 ∧ (∀ σ3 : ovSt, σ3 = ov_up σ 24 (Int32.toNatClampNeg x4) x5 → (F_X5_pour_111 R32 k r2 v1 x4 σ3))))
set_option maxRecDepth 100000 in
set_option maxHeartbeats 4000000 in
theorem V_X5_pour_97 {k : Int32 → ovSt → Prop} {R32 : Nat → Int32 → Int32 → ovSt → Prop} (hR32 : ∀ (r2 : Nat) (x3 : Int32) (x4 : Int32) (σ : ovSt), ov_isr r2 → R32 r2 x3 x4 σ → vv_X5_pour k 32 [(0, .ref 0), (2, .ref r2), (3, .int x3), (4, .int x4)] [] σ) (r2 : Nat) (x4 : Int32) (x5 : Int32) (t0 : Int32) (t1 : Int32) (σ : ovSt) (hr2 : ov_isr r2) (hF : F_X5_pour_97 R32 k r2 x4 x5 t0 t1 σ) : vv_X5_pour k 97 [(0, .ref 0), (2, .ref r2), (4, .int x4), (5, .int x5)] [.int t0, .int t1] σ := by
  unfold F_X5_pour_97 at hF
  refine ov_iadd dX5_pour_97 ?_
  refine ov_nmI (fun v1 ev1 => ?_)
  have hF := hF v1 ev1
  refine ov_istore_n dX5_pour_98 (Nat.le_of_ble_eq_true rfl) [(3, .int v1), (0, .ref 0), (2, .ref r2), (4, .int x4), (5, .int x5)] rfl ?_
  refine ov_aload_n dX5_pour_99 1 rfl ?_
  refine ov_getr (T := TX5) (kf := 1) dX5_pour_100 qf_X5_21 sh_0 rfl (Nat.le_of_ble_eq_true rfl) rfl (by decide) ?_
  refine ov_getr (T := TX3) (kf := 3) dX5_pour_103 qf_X5_88 (ov_stk0 (by unfold ov_stk; decide)) rfl (Nat.le_of_ble_eq_true rfl) rfl (by decide) ?_
  refine ov_iload dX5_pour_106 3 rfl ?_
  refine ov_iload dX5_pour_108 4 rfl ?_
  have h2 := hF.1
  have hF := hF.2
  refine ov_iastore dX5_pour_110 sh_24 h2 ?_
  refine ov_nmS (fun σ3 es3 => ?_)
  have hF := hF σ3 es3
  refine ov_pick [1, 2, 0, 3] [(0, .ref 0), (2, .ref r2), (3, .int v1), (4, .int x4)] rfl ?_
  exact V_X5_pour_111 hR32 r2 v1 x4 σ3 hr2 hF
def F_X5_pour_117 (k : Int32 → ovSt → Prop) (x3 : Int32) (σ : ovSt) : Prop := (k x3 σ)
set_option maxRecDepth 100000 in
set_option maxHeartbeats 4000000 in
theorem V_X5_pour_117 {k : Int32 → ovSt → Prop} (x3 : Int32) (σ : ovSt) (hF : F_X5_pour_117 k x3 σ) : vv_X5_pour k 117 [(3, .int x3)] [] σ := by
  unfold F_X5_pour_117 at hF
  refine ov_iload_n dX5_pour_117 0 rfl ?_
  exact ov_ireturn dX5_pour_118 (Nat.le_refl _) (Nat.le_refl _) ⟨rfl, trivial, _, rfl, hF⟩
def F_X5_pour_32 (k : Int32 → ovSt → Prop) : Nat → Nat → Int32 → Int32 → ovSt → Prop
  | 0 => fun _ _ _ _ => False
  | n + 1 => fun r2 x3 x4 σ => (if (σ 21 6) ≤ x4 then (F_X5_pour_117 k x3 σ) else (if (σ r2 2) ≤ x4 then (F_X5_pour_117 k x3 σ) else (F_X1_isNumber r2 x4 σ (fun v4 σ5 => (if v4 = 0 then (F_X5_pour_111 (F_X5_pour_32 k n) k r2 x3 x4 σ5) else (vp_in x4 24 ∧ (F_X5_held (σ5 (r2 + 1) (Int32.toNatClampNeg x4)) 99999 σ5 (fun v7 σ8 => (vp_in x4 8 ∧ (if (σ8 24 (Int32.toNatClampNeg x4)) = v7 then (F_X5_pour_97 (F_X5_pour_32 k n) k r2 x4 v7 0 x3 σ8) else (F_X5_pour_97 (F_X5_pour_32 k n) k r2 x4 v7 1 x3 σ8)))))))))))
set_option maxRecDepth 100000 in
set_option maxHeartbeats 4000000 in
theorem V_X5_pour_32 {k : Int32 → ovSt → Prop} : ∀ (n : Nat) (r2 : Nat) (x3 : Int32) (x4 : Int32) (σ : ovSt), ov_isr r2 → F_X5_pour_32 k n r2 x3 x4 σ → vv_X5_pour k 32 [(0, .ref 0), (2, .ref r2), (3, .int x3), (4, .int x4)] [] σ := by
  intro n
  induction n with
  | zero => intro r2 x3 x4 σ hr2 hF; exact hF.elim
  | succ n ih =>
    intro r2 x3 x4 σ hr2 hF
    unfold F_X5_pour_32 at hF
    refine ov_iload dX5_pour_32 3 rfl ?_
    refine ov_aload_n dX5_pour_34 0 rfl ?_
    refine ov_getr (T := TX5) (kf := 1) dX5_pour_35 qf_X5_21 sh_0 rfl (Nat.le_of_ble_eq_true rfl) rfl (by decide) ?_
    refine ov_geti (T := TX3) (kf := 6) dX5_pour_38 qf_X5_72 (ov_stk0 (by unfold ov_stk; decide)) rfl (Nat.le_of_ble_eq_true rfl) rfl ?_
    refine ov_icmp_ge 117 dX5_pour_41 (by decide) hF (fun hF => ?_) (fun hF => ?_)
    · refine ov_pick [2] [(3, .int x3)] rfl ?_
      exact V_X5_pour_117 x3 σ hF
    · refine ov_iload dX5_pour_44 3 rfl ?_
      refine ov_aload_n dX5_pour_46 1 rfl ?_
      refine ov_geti (T := TX1) (kf := 2) dX5_pour_47 qf_X5_207 (ov_isr0 hr2) rfl (Nat.le_of_ble_eq_true rfl) rfl ?_
      refine ov_icmp_ge 117 dX5_pour_50 (by decide) hF (fun hF => ?_) (fun hF => ?_)
      · refine ov_pick [2] [(3, .int x3)] rfl ?_
        exact V_X5_pour_117 x3 σ hF
      · refine ov_aload_n dX5_pour_53 1 rfl ?_
        refine ov_iload dX5_pour_54 3 rfl ?_
        refine ov_callV [.int x4] dX5_pour_56 (c_X1_isNumber hF) (Nat.le_of_ble_eq_true rfl) (Nat.le_of_ble_eq_true rfl) lk_X5_210 (ov_isr0 hr2) rfl (Nat.le_of_ble_eq_true rfl) (Nat.le_refl _) (Nat.le_refl _) (fun rr σ5 hF => ?_)
        obtain ⟨v4, rfl, hF⟩ := hF
        show vv_X5_pour k 59 [(0, .ref 0), (2, .ref r2), (3, .int x3), (4, .int x4)] [.int v4] σ5
        refine ov_if_eq 111 dX5_pour_59 (by decide) hF (fun hF => ?_) (fun hF => ?_)
        · exact V_X5_pour_111 ih r2 x3 x4 σ5 hr2 hF
        · refine ov_aload_n dX5_pour_62 1 rfl ?_
          refine ov_getr (T := TX1) (kf := 0) dX5_pour_63 qf_X5_213 (ov_isr0 hr2) rfl (Nat.le_of_ble_eq_true rfl) rfl (ov_isrn hr2 1 (by decide)) ?_
          refine ov_iload dX5_pour_66 3 rfl ?_
          have h6 := hF.1
          have hF := hF.2
          refine ov_iaload dX5_pour_68 (ov_isr1 hr2) h6 ?_
          refine ov_ldc dX5_pour_69 qc_X5_126 ?_
          refine ov_callS [.int (σ5 (r2 + 1) (Int32.toNatClampNeg x4)), .int 99999] dX5_pour_71 (c_X5_held hF) (Nat.le_of_ble_eq_true rfl) (Nat.le_of_ble_eq_true rfl) lk_X5_260 (Nat.le_of_ble_eq_true rfl) (Nat.le_refl _) (Nat.le_refl _) (fun rr σ8 hF => ?_)
          obtain ⟨v7, rfl, hF⟩ := hF
          show vv_X5_pour k 74 [(0, .ref 0), (2, .ref r2), (3, .int x3), (4, .int x4)] [.int v7] σ8
          refine ov_istore dX5_pour_74 (Nat.le_of_ble_eq_true rfl) [(5, .int v7), (0, .ref 0), (2, .ref r2), (3, .int x3), (4, .int x4)] rfl ?_
          refine ov_iload_n dX5_pour_76 3 rfl ?_
          refine ov_aload_n dX5_pour_77 1 rfl ?_
          refine ov_getr (T := TX5) (kf := 1) dX5_pour_78 qf_X5_21 sh_0 rfl (Nat.le_of_ble_eq_true rfl) rfl (by decide) ?_
          refine ov_getr (T := TX3) (kf := 3) dX5_pour_81 qf_X5_88 (ov_stk0 (by unfold ov_stk; decide)) rfl (Nat.le_of_ble_eq_true rfl) rfl (by decide) ?_
          refine ov_iload dX5_pour_84 4 rfl ?_
          have h9 := hF.1
          have hF := hF.2
          refine ov_iaload dX5_pour_86 sh_24 h9 ?_
          refine ov_iload dX5_pour_87 0 rfl ?_
          refine ov_icmp_ne 96 dX5_pour_89 (by decide) hF (fun hF => ?_) (fun hF => ?_)
          · refine ov_iconst 1 (by decide) dX5_pour_96 ?_
            refine ov_pick [1, 2, 4, 0] [(0, .ref 0), (2, .ref r2), (4, .int x4), (5, .int v7)] rfl ?_
            exact V_X5_pour_97 ih r2 x4 v7 1 x3 σ8 hr2 hF
          · refine ov_iconst 0 (by decide) dX5_pour_92 ?_
            refine ov_goto 97 dX5_pour_93 (by decide) ?_
            refine ov_pick [1, 2, 4, 0] [(0, .ref 0), (2, .ref r2), (4, .int x4), (5, .int v7)] rfl ?_
            exact V_X5_pour_97 ih r2 x4 v7 0 x3 σ8 hr2 hF
def F_X5_pour (x1 : Int32) (σ : ovSt) (k : Int32 → ovSt → Prop) : Prop := (F_X5_isSheet x1 σ (fun v10 σ11 => (if v10 = 0 then (k (-1000000001) σ11) else (vp_in x1 4 ∧ (F_X1_isMissing (51 + 2 * Int32.toNatClampNeg x1) σ11 (fun v13 σ14 => (if v13 = 0 then (∃ n15, F_X5_pour_32 k n15 (51 + 2 * Int32.toNatClampNeg x1) 0 0 σ14) else (k (-1000000011) σ14))))))))
set_option maxRecDepth 100000 in
set_option maxHeartbeats 4000000 in
theorem c_X5_pour {x1 : Int32} {σ : ovSt} {k : Int32 → ovSt → Prop} (hF : F_X5_pour x1 σ k) : ov_Ct 2 yX5_pour cX5_pour 6 (some .int) ov_S0 [.ref 0, .int x1] σ (ovKi k) := by
  refine ov_Ct.of (by decide) (Nat.le_of_ble_eq_true rfl) ?_
  unfold F_X5_pour at hF
  show vv_X5_pour k 0 [(0, .ref 0), (1, .int x1)] [] σ
  refine ov_iload_n dX5_pour_0 1 rfl ?_
  refine ov_callS [.int x1] dX5_pour_1 (c_X5_isSheet hF) (Nat.le_of_ble_eq_true rfl) (Nat.le_of_ble_eq_true rfl) lk_X5_195 (Nat.le_of_ble_eq_true rfl) (Nat.le_refl _) (Nat.le_refl _) (fun rr σ11 hF => ?_)
  obtain ⟨v10, rfl, hF⟩ := hF
  show vv_X5_pour k 4 [(0, .ref 0), (1, .int x1)] [.int v10] σ11
  refine ov_if_ne 10 dX5_pour_4 (by decide) hF (fun hF => ?_) (fun hF => ?_)
  · refine ov_aload_n dX5_pour_10 0 rfl ?_
    refine ov_getr (T := TX5) (kf := 6) dX5_pour_11 qf_X5_43 sh_0 rfl (Nat.le_of_ble_eq_true rfl) rfl (by decide) ?_
    refine ov_iload_n dX5_pour_14 1 rfl ?_
    have h12 := hF.1
    have hF := hF.2
    refine ov_aaloadR dX5_pour_15 sh_48 h12 (ov_shR h12) (ov_shRn h12) ?_
    refine ov_astore_n dX5_pour_16 (Nat.le_of_ble_eq_true rfl) [(2, .ref (51 + 2 * Int32.toNatClampNeg x1)), (0, .ref 0), (1, .int x1)] rfl ?_
    refine ov_aload_n dX5_pour_17 0 rfl ?_
    refine ov_callV [] dX5_pour_18 (c_X1_isMissing hF) (Nat.le_of_ble_eq_true rfl) (Nat.le_of_ble_eq_true rfl) lk_X5_198 (ov_isr0 (ov_shR2 h12)) rfl (Nat.le_of_ble_eq_true rfl) (Nat.le_refl _) (Nat.le_refl _) (fun rr σ14 hF => ?_)
    obtain ⟨v13, rfl, hF⟩ := hF
    show vv_X5_pour k 21 [(2, .ref (51 + 2 * Int32.toNatClampNeg x1)), (0, .ref 0), (1, .int x1)] [.int v13] σ14
    refine ov_if_eq 27 dX5_pour_21 (by decide) hF (fun hF => ?_) (fun hF => ?_)
    · refine ov_iconst 0 (by decide) dX5_pour_27 ?_
      refine ov_istore_n dX5_pour_28 (Nat.le_of_ble_eq_true rfl) [(3, .int 0), (2, .ref (51 + 2 * Int32.toNatClampNeg x1)), (0, .ref 0), (1, .int x1)] rfl ?_
      refine ov_iconst 0 (by decide) dX5_pour_29 ?_
      refine ov_istore dX5_pour_30 (Nat.le_of_ble_eq_true rfl) [(4, .int 0), (3, .int 0), (2, .ref (51 + 2 * Int32.toNatClampNeg x1)), (0, .ref 0), (1, .int x1)] rfl ?_
      refine ov_pick [3, 2, 1, 0] [(0, .ref 0), (2, .ref (51 + 2 * Int32.toNatClampNeg x1)), (3, .int 0), (4, .int 0)] rfl ?_
      obtain ⟨n15, hF⟩ := hF
      exact V_X5_pour_32 n15 (51 + 2 * Int32.toNatClampNeg x1) 0 0 σ14 (ov_shR2 h12) hF
    · refine ov_ldc dX5_pour_24 qc_X5_202 ?_
      exact ov_ireturn dX5_pour_26 (Nat.le_refl _) (Nat.le_refl _) ⟨rfl, trivial, _, rfl, hF⟩
  · refine ov_ldc dX5_pour_7 qc_X5_71 ?_
    exact ov_ireturn dX5_pour_9 (Nat.le_refl _) (Nat.le_refl _) ⟨rfl, trivial, _, rfl, hF⟩
/-! X5_reads -/
abbrev vv_X5_reads (k : Int32 → ovSt → Prop) (pc : Nat) (L : List (Nat × Value)) (st : List Value) (σ : ovSt) : Prop := ov_V (ovZs 5 yX5_reads cX5_reads 4) (ovKs (some .int) ov_S0 (ovKi k)) (0, 0) ov_S0 pc L st σ
def F_X5_reads_74 (R40 : Nat → Int32 → ovSt → Prop) (k : Int32 → ovSt → Prop) (r2 : Nat) (x3 : Int32) (σ : ovSt) : Prop := (F_X3_passDay 33 σ (fun σ2 => R40 r2 (x3 + 1) σ2))
set_option maxRecDepth 100000 in
set_option maxHeartbeats 4000000 in
theorem V_X5_reads_74 {k : Int32 → ovSt → Prop} {R40 : Nat → Int32 → ovSt → Prop} (hR40 : ∀ (r2 : Nat) (x3 : Int32) (σ : ovSt), ov_isr r2 → R40 r2 x3 σ → vv_X5_reads k 40 [(0, .ref 0), (2, .ref r2), (3, .int x3)] [] σ) (r2 : Nat) (x3 : Int32) (σ : ovSt) (hr2 : ov_isr r2) (hF : F_X5_reads_74 R40 k r2 x3 σ) : vv_X5_reads k 74 [(0, .ref 0), (2, .ref r2), (3, .int x3)] [] σ := by
  unfold F_X5_reads_74 at hF
  refine ov_aload_n dX5_reads_74 0 rfl ?_
  refine ov_getr (T := TX5) (kf := 3) dX5_reads_75 qf_X5_28 sh_0 rfl (Nat.le_of_ble_eq_true rfl) rfl (by decide) ?_
  refine ov_callV [] dX5_reads_78 (c_X3_passDay hF) (Nat.le_of_ble_eq_true rfl) (Nat.le_of_ble_eq_true rfl) lk_X5_192 (ov_stk0 (by unfold ov_stk; decide)) rfl (Nat.le_of_ble_eq_true rfl) (Nat.le_refl _) (Nat.le_refl _) (fun rr σ2 hF => ?_)
  obtain ⟨rfl, hF⟩ := hF
  show vv_X5_reads k 81 [(0, .ref 0), (2, .ref r2), (3, .int x3)] [] σ2
  refine ov_iinc dX5_reads_81 2 rfl (x3 + 1) rfl (Nat.le_of_ble_eq_true rfl) [(3, .int (x3 + 1)), (0, .ref 0), (2, .ref r2)] rfl ?_
  refine ov_goto 40 dX5_reads_84 (by decide) ?_
  refine ov_pick [1, 2, 0] [(0, .ref 0), (2, .ref r2), (3, .int (x3 + 1))] rfl ?_
  exact hR40 r2 (x3 + 1) σ2 hr2 hF
def F_X5_reads_40 (k : Int32 → ovSt → Prop) : Nat → Nat → Int32 → ovSt → Prop
  | 0 => fun _ _ _ => False
  | n + 1 => fun r2 x3 σ => (if (σ r2 2) ≤ x3 then (k (-1000000005) σ) else (F_X1_isNumber r2 x3 σ (fun v3 σ4 => (if v3 = 0 then (F_X5_reads_74 (F_X5_reads_40 k n) k r2 x3 σ4) else (vp_in x3 24 ∧ (F_X3_tasteOfAll 33 σ4 (fun v6 σ7 => (if (σ4 (r2 + 1) (Int32.toNatClampNeg x3)) = v6 then (F_X5_reads_74 (F_X5_reads_40 k n) k r2 x3 σ7) else (k x3 σ7)))))))))
set_option maxRecDepth 100000 in
set_option maxHeartbeats 4000000 in
theorem V_X5_reads_40 {k : Int32 → ovSt → Prop} : ∀ (n : Nat) (r2 : Nat) (x3 : Int32) (σ : ovSt), ov_isr r2 → F_X5_reads_40 k n r2 x3 σ → vv_X5_reads k 40 [(0, .ref 0), (2, .ref r2), (3, .int x3)] [] σ := by
  intro n
  induction n with
  | zero => intro r2 x3 σ hr2 hF; exact hF.elim
  | succ n ih =>
    intro r2 x3 σ hr2 hF
    unfold F_X5_reads_40 at hF
    refine ov_iload_n dX5_reads_40 2 rfl ?_
    refine ov_aload_n dX5_reads_41 1 rfl ?_
    refine ov_geti (T := TX1) (kf := 2) dX5_reads_42 qf_X5_207 (ov_isr0 hr2) rfl (Nat.le_of_ble_eq_true rfl) rfl ?_
    refine ov_icmp_ge 87 dX5_reads_45 (by decide) hF (fun hF => ?_) (fun hF => ?_)
    · refine ov_ldc dX5_reads_87 qc_X5_178 ?_
      exact ov_ireturn dX5_reads_89 (Nat.le_refl _) (Nat.le_refl _) ⟨rfl, trivial, _, rfl, hF⟩
    · refine ov_aload_n dX5_reads_48 1 rfl ?_
      refine ov_iload_n dX5_reads_49 2 rfl ?_
      refine ov_callV [.int x3] dX5_reads_50 (c_X1_isNumber hF) (Nat.le_of_ble_eq_true rfl) (Nat.le_of_ble_eq_true rfl) lk_X5_210 (ov_isr0 hr2) rfl (Nat.le_of_ble_eq_true rfl) (Nat.le_refl _) (Nat.le_refl _) (fun rr σ4 hF => ?_)
      obtain ⟨v3, rfl, hF⟩ := hF
      show vv_X5_reads k 53 [(0, .ref 0), (2, .ref r2), (3, .int x3)] [.int v3] σ4
      refine ov_if_eq 74 dX5_reads_53 (by decide) hF (fun hF => ?_) (fun hF => ?_)
      · exact V_X5_reads_74 ih r2 x3 σ4 hr2 hF
      · refine ov_aload_n dX5_reads_56 1 rfl ?_
        refine ov_getr (T := TX1) (kf := 0) dX5_reads_57 qf_X5_213 (ov_isr0 hr2) rfl (Nat.le_of_ble_eq_true rfl) rfl (ov_isrn hr2 1 (by decide)) ?_
        refine ov_iload_n dX5_reads_60 2 rfl ?_
        have h5 := hF.1
        have hF := hF.2
        refine ov_iaload dX5_reads_61 (ov_isr1 hr2) h5 ?_
        refine ov_aload_n dX5_reads_62 0 rfl ?_
        refine ov_getr (T := TX5) (kf := 3) dX5_reads_63 qf_X5_28 sh_0 rfl (Nat.le_of_ble_eq_true rfl) rfl (by decide) ?_
        refine ov_callV [] dX5_reads_66 (c_X3_tasteOfAll hF) (Nat.le_of_ble_eq_true rfl) (Nat.le_of_ble_eq_true rfl) lk_X5_151 (ov_stk0 (by unfold ov_stk; decide)) rfl (Nat.le_of_ble_eq_true rfl) (Nat.le_refl _) (Nat.le_refl _) (fun rr σ7 hF => ?_)
        obtain ⟨v6, rfl, hF⟩ := hF
        show vv_X5_reads k 69 [(0, .ref 0), (2, .ref r2), (3, .int x3)] [.int v6, .int (σ4 (r2 + 1) (Int32.toNatClampNeg x3))] σ7
        refine ov_icmp_eq 74 dX5_reads_69 (by decide) hF (fun hF => ?_) (fun hF => ?_)
        · exact V_X5_reads_74 ih r2 x3 σ7 hr2 hF
        · refine ov_iload_n dX5_reads_72 2 rfl ?_
          exact ov_ireturn dX5_reads_73 (Nat.le_refl _) (Nat.le_refl _) ⟨rfl, trivial, _, rfl, hF⟩
def F_X5_reads (x1 : Int32) (σ : ovSt) (k : Int32 → ovSt → Prop) : Prop := (F_X5_isSheet x1 σ (fun v8 σ9 => (if v8 = 0 then (k (-1000000001) σ9) else (vp_in x1 4 ∧ (F_X1_isMissing (51 + 2 * Int32.toNatClampNeg x1) σ9 (fun v11 σ12 => (if v11 = 0 then (F_X3_become 33 21 σ12 (fun σ14 => (∃ n15, F_X5_reads_40 k n15 (51 + 2 * Int32.toNatClampNeg x1) 0 σ14))) else (k (-1000000011) σ12))))))))
set_option maxRecDepth 100000 in
set_option maxHeartbeats 4000000 in
theorem c_X5_reads {x1 : Int32} {σ : ovSt} {k : Int32 → ovSt → Prop} (hF : F_X5_reads x1 σ k) : ov_Ct 5 yX5_reads cX5_reads 4 (some .int) ov_S0 [.ref 0, .int x1] σ (ovKi k) := by
  refine ov_Ct.of (by decide) (Nat.le_of_ble_eq_true rfl) ?_
  unfold F_X5_reads at hF
  show vv_X5_reads k 0 [(0, .ref 0), (1, .int x1)] [] σ
  refine ov_iload_n dX5_reads_0 1 rfl ?_
  refine ov_callS [.int x1] dX5_reads_1 (c_X5_isSheet hF) (Nat.le_of_ble_eq_true rfl) (Nat.le_of_ble_eq_true rfl) lk_X5_195 (Nat.le_of_ble_eq_true rfl) (Nat.le_refl _) (Nat.le_refl _) (fun rr σ9 hF => ?_)
  obtain ⟨v8, rfl, hF⟩ := hF
  show vv_X5_reads k 4 [(0, .ref 0), (1, .int x1)] [.int v8] σ9
  refine ov_if_ne 10 dX5_reads_4 (by decide) hF (fun hF => ?_) (fun hF => ?_)
  · refine ov_aload_n dX5_reads_10 0 rfl ?_
    refine ov_getr (T := TX5) (kf := 6) dX5_reads_11 qf_X5_43 sh_0 rfl (Nat.le_of_ble_eq_true rfl) rfl (by decide) ?_
    refine ov_iload_n dX5_reads_14 1 rfl ?_
    have h10 := hF.1
    have hF := hF.2
    refine ov_aaloadR dX5_reads_15 sh_48 h10 (ov_shR h10) (ov_shRn h10) ?_
    refine ov_astore_n dX5_reads_16 (Nat.le_of_ble_eq_true rfl) [(2, .ref (51 + 2 * Int32.toNatClampNeg x1)), (0, .ref 0), (1, .int x1)] rfl ?_
    refine ov_aload_n dX5_reads_17 0 rfl ?_
    refine ov_callV [] dX5_reads_18 (c_X1_isMissing hF) (Nat.le_of_ble_eq_true rfl) (Nat.le_of_ble_eq_true rfl) lk_X5_198 (ov_isr0 (ov_shR2 h10)) rfl (Nat.le_of_ble_eq_true rfl) (Nat.le_refl _) (Nat.le_refl _) (fun rr σ12 hF => ?_)
    obtain ⟨v11, rfl, hF⟩ := hF
    show vv_X5_reads k 21 [(2, .ref (51 + 2 * Int32.toNatClampNeg x1)), (0, .ref 0), (1, .int x1)] [.int v11] σ12
    refine ov_if_eq 27 dX5_reads_21 (by decide) hF (fun hF => ?_) (fun hF => ?_)
    · refine ov_aload_n dX5_reads_27 1 rfl ?_
      refine ov_getr (T := TX5) (kf := 3) dX5_reads_28 qf_X5_28 sh_0 rfl (Nat.le_of_ble_eq_true rfl) rfl (by decide) ?_
      refine ov_aload_n dX5_reads_31 1 rfl ?_
      refine ov_getr (T := TX5) (kf := 1) dX5_reads_32 qf_X5_21 sh_0 rfl (Nat.le_of_ble_eq_true rfl) rfl (by decide) ?_
      refine ov_callV [.ref 21] dX5_reads_35 (c_X3_become hF) (Nat.le_of_ble_eq_true rfl) (Nat.le_of_ble_eq_true rfl) lk_X5_171 (ov_stk0 (by unfold ov_stk; decide)) rfl (Nat.le_of_ble_eq_true rfl) (Nat.le_refl _) (Nat.le_refl _) (fun rr σ14 hF => ?_)
      obtain ⟨rfl, hF⟩ := hF
      show vv_X5_reads k 38 [(2, .ref (51 + 2 * Int32.toNatClampNeg x1)), (0, .ref 0), (1, .int x1)] [] σ14
      refine ov_iconst 0 (by decide) dX5_reads_38 ?_
      refine ov_istore_n dX5_reads_39 (Nat.le_of_ble_eq_true rfl) [(3, .int 0), (2, .ref (51 + 2 * Int32.toNatClampNeg x1)), (0, .ref 0), (1, .int x1)] rfl ?_
      refine ov_pick [2, 1, 0] [(0, .ref 0), (2, .ref (51 + 2 * Int32.toNatClampNeg x1)), (3, .int 0)] rfl ?_
      obtain ⟨n15, hF⟩ := hF
      exact V_X5_reads_40 n15 (51 + 2 * Int32.toNatClampNeg x1) 0 σ14 (ov_shR2 h10) hF
    · refine ov_ldc dX5_reads_24 qc_X5_202 ?_
      exact ov_ireturn dX5_reads_26 (Nat.le_refl _) (Nat.le_refl _) ⟨rfl, trivial, _, rfl, hF⟩
  · refine ov_ldc dX5_reads_7 qc_X5_71 ?_
    exact ov_ireturn dX5_reads_9 (Nat.le_refl _) (Nat.le_refl _) ⟨rfl, trivial, _, rfl, hF⟩
/-! X5_copy -/
abbrev vv_X5_copy (k : Int32 → ovSt → Prop) (pc : Nat) (L : List (Nat × Value)) (st : List Value) (σ : ovSt) : Prop := ov_V (ovZs 2 yX5_copy cX5_copy 8) (ovKs (some .int) ov_S0 (ovKi k)) (0, 0) ov_S0 pc L st σ
def F_X5_copy_14 (k : Int32 → ovSt → Prop) (σ : ovSt) : Prop := (k (-1000000001) σ)
set_option maxRecDepth 100000 in
set_option maxHeartbeats 4000000 in
theorem V_X5_copy_14 {k : Int32 → ovSt → Prop} (σ : ovSt) (hF : F_X5_copy_14 k σ) : vv_X5_copy k 14 [] [] σ := by
  unfold F_X5_copy_14 at hF
  refine ov_ldc dX5_copy_14 qc_X5_71 ?_
  exact ov_ireturn dX5_copy_16 (Nat.le_refl _) (Nat.le_refl _) ⟨rfl, trivial, _, rfl, hF⟩
def F_X5_copy_49 (k : Int32 → ovSt → Prop) (σ : ovSt) : Prop := (k (-1000000011) σ)
set_option maxRecDepth 100000 in
set_option maxHeartbeats 4000000 in
theorem V_X5_copy_49 {k : Int32 → ovSt → Prop} (σ : ovSt) (hF : F_X5_copy_49 k σ) : vv_X5_copy k 49 [] [] σ := by
  unfold F_X5_copy_49 at hF
  refine ov_ldc dX5_copy_49 qc_X5_202 ?_
  exact ov_ireturn dX5_copy_51 (Nat.le_refl _) (Nat.le_refl _) ⟨rfl, trivial, _, rfl, hF⟩
def F_X5_copy_91 (k : Int32 → ovSt → Prop) (σ : ovSt) : Prop := (k (-1000000013) σ)
set_option maxRecDepth 100000 in
set_option maxHeartbeats 4000000 in
theorem V_X5_copy_91 {k : Int32 → ovSt → Prop} (σ : ovSt) (hF : F_X5_copy_91 k σ) : vv_X5_copy k 91 [] [] σ := by
  unfold F_X5_copy_91 at hF
  refine ov_ldc dX5_copy_91 qc_X5_255 ?_
  exact ov_ireturn dX5_copy_93 (Nat.le_refl _) (Nat.le_refl _) ⟨rfl, trivial, _, rfl, hF⟩
def F_X5_copy (x1 : Int32) (x2 : Int32) (x3 : Int32) (x4 : Int32) (x5 : Int32) (σ : ovSt) (k : Int32 → ovSt → Prop) : Prop := (F_X5_isSheet x1 σ (fun v1 σ2 => (if v1 = 0 then (F_X5_copy_14 k σ2) else (F_X5_isSheet x3 σ2 (fun v3 σ4 => (if v3 = 0 then (F_X5_copy_14 k σ4) else (vp_in x1 4 ∧ (vp_in x3 4 ∧ (F_X1_isMissing (51 + 2 * Int32.toNatClampNeg x1) σ4 (fun v7 σ8 => (if v7 = 0 then (F_X1_isMissing (51 + 2 * Int32.toNatClampNeg x3) σ8 (fun v9 σ10 => (if v9 = 0 then (if (σ10 (51 + 2 * Int32.toNatClampNeg x1) 1) = (σ10 (51 + 2 * Int32.toNatClampNeg x3) 1) then (F_X1_hasPlaces (51 + 2 * Int32.toNatClampNeg x1) x2 x5 σ10 (fun v11 σ12 => (if v11 = 0 then (F_X5_copy_91 k σ12) else (F_X1_hasPlaces (51 + 2 * Int32.toNatClampNeg x3) x4 x5 σ12 (fun v13 σ14 => (if v13 = 0 then (F_X5_copy_91 k σ14) else ((ov_cpok x2 x4 x5 24 24) ∧ (∀ σ16 : ovSt, σ16 = ov_row σ14 ((51 + 2 * Int32.toNatClampNeg x3) + 1) (va_cpy (σ14 ((51 + 2 * Int32.toNatClampNeg x1) + 1)) (σ14 ((51 + 2 * Int32.toNatClampNeg x3) + 1)) (Int32.toNatClampNeg x2) (Int32.toNatClampNeg x4) (Int32.toNatClampNeg x5)) → (k x5 σ16))))))))) else (k (-1000000012) σ10)) else (F_X5_copy_49 k σ10)))) else (F_X5_copy_49 k σ8))))))))))))
set_option maxRecDepth 100000 in
set_option maxHeartbeats 4000000 in
theorem c_X5_copy {x1 : Int32} {x2 : Int32} {x3 : Int32} {x4 : Int32} {x5 : Int32} {σ : ovSt} {k : Int32 → ovSt → Prop} (hF : F_X5_copy x1 x2 x3 x4 x5 σ k) : ov_Ct 2 yX5_copy cX5_copy 8 (some .int) ov_S0 [.ref 0, .int x1, .int x2, .int x3, .int x4, .int x5] σ (ovKi k) := by
  refine ov_Ct.of (by decide) (Nat.le_of_ble_eq_true rfl) ?_
  unfold F_X5_copy at hF
  show vv_X5_copy k 0 [(0, .ref 0), (1, .int x1), (2, .int x2), (3, .int x3), (4, .int x4), (5, .int x5)] [] σ
  refine ov_iload_n dX5_copy_0 1 rfl ?_
  refine ov_callS [.int x1] dX5_copy_1 (c_X5_isSheet hF) (Nat.le_of_ble_eq_true rfl) (Nat.le_of_ble_eq_true rfl) lk_X5_195 (Nat.le_of_ble_eq_true rfl) (Nat.le_refl _) (Nat.le_refl _) (fun rr σ2 hF => ?_)
  obtain ⟨v1, rfl, hF⟩ := hF
  show vv_X5_copy k 4 [(0, .ref 0), (1, .int x1), (2, .int x2), (3, .int x3), (4, .int x4), (5, .int x5)] [.int v1] σ2
  refine ov_if_eq 14 dX5_copy_4 (by decide) hF (fun hF => ?_) (fun hF => ?_)
  · refine ov_pick [] [] rfl ?_
    exact V_X5_copy_14 σ2 hF
  · refine ov_iload_n dX5_copy_7 3 rfl ?_
    refine ov_callS [.int x3] dX5_copy_8 (c_X5_isSheet hF) (Nat.le_of_ble_eq_true rfl) (Nat.le_of_ble_eq_true rfl) lk_X5_195 (Nat.le_of_ble_eq_true rfl) (Nat.le_refl _) (Nat.le_refl _) (fun rr σ4 hF => ?_)
    obtain ⟨v3, rfl, hF⟩ := hF
    show vv_X5_copy k 11 [(0, .ref 0), (1, .int x1), (2, .int x2), (3, .int x3), (4, .int x4), (5, .int x5)] [.int v3] σ4
    refine ov_if_ne 17 dX5_copy_11 (by decide) hF (fun hF => ?_) (fun hF => ?_)
    · refine ov_aload_n dX5_copy_17 0 rfl ?_
      refine ov_getr (T := TX5) (kf := 6) dX5_copy_18 qf_X5_43 sh_0 rfl (Nat.le_of_ble_eq_true rfl) rfl (by decide) ?_
      refine ov_iload_n dX5_copy_21 1 rfl ?_
      have h5 := hF.1
      have hF := hF.2
      refine ov_aaloadR dX5_copy_22 sh_48 h5 (ov_shR h5) (ov_shRn h5) ?_
      refine ov_astore dX5_copy_23 (Nat.le_of_ble_eq_true rfl) [(6, .ref (51 + 2 * Int32.toNatClampNeg x1)), (0, .ref 0), (1, .int x1), (2, .int x2), (3, .int x3), (4, .int x4), (5, .int x5)] rfl ?_
      refine ov_aload_n dX5_copy_25 1 rfl ?_
      refine ov_getr (T := TX5) (kf := 6) dX5_copy_26 qf_X5_43 sh_0 rfl (Nat.le_of_ble_eq_true rfl) rfl (by decide) ?_
      refine ov_iload_n dX5_copy_29 4 rfl ?_
      have h6 := hF.1
      have hF := hF.2
      refine ov_aaloadR dX5_copy_30 sh_48 h6 (ov_shR h6) (ov_shRn h6) ?_
      refine ov_astore dX5_copy_31 (Nat.le_of_ble_eq_true rfl) [(7, .ref (51 + 2 * Int32.toNatClampNeg x3)), (6, .ref (51 + 2 * Int32.toNatClampNeg x1)), (0, .ref 0), (1, .int x1), (2, .int x2), (3, .int x3), (4, .int x4), (5, .int x5)] rfl ?_
      refine ov_aload dX5_copy_33 1 rfl ?_
      refine ov_callV [] dX5_copy_35 (c_X1_isMissing hF) (Nat.le_of_ble_eq_true rfl) (Nat.le_of_ble_eq_true rfl) lk_X5_198 (ov_isr0 (ov_shR2 h5)) rfl (Nat.le_of_ble_eq_true rfl) (Nat.le_refl _) (Nat.le_refl _) (fun rr σ8 hF => ?_)
      obtain ⟨v7, rfl, hF⟩ := hF
      show vv_X5_copy k 38 [(7, .ref (51 + 2 * Int32.toNatClampNeg x3)), (6, .ref (51 + 2 * Int32.toNatClampNeg x1)), (0, .ref 0), (1, .int x1), (2, .int x2), (3, .int x3), (4, .int x4), (5, .int x5)] [.int v7] σ8
      refine ov_if_ne 49 dX5_copy_38 (by decide) hF (fun hF => ?_) (fun hF => ?_)
      · refine ov_pick [] [] rfl ?_
        exact V_X5_copy_49 σ8 hF
      · refine ov_aload dX5_copy_41 0 rfl ?_
        refine ov_callV [] dX5_copy_43 (c_X1_isMissing hF) (Nat.le_of_ble_eq_true rfl) (Nat.le_of_ble_eq_true rfl) lk_X5_198 (ov_isr0 (ov_shR2 h6)) rfl (Nat.le_of_ble_eq_true rfl) (Nat.le_refl _) (Nat.le_refl _) (fun rr σ10 hF => ?_)
        obtain ⟨v9, rfl, hF⟩ := hF
        show vv_X5_copy k 46 [(7, .ref (51 + 2 * Int32.toNatClampNeg x3)), (6, .ref (51 + 2 * Int32.toNatClampNeg x1)), (0, .ref 0), (1, .int x1), (2, .int x2), (3, .int x3), (4, .int x4), (5, .int x5)] [.int v9] σ10
        refine ov_if_eq 52 dX5_copy_46 (by decide) hF (fun hF => ?_) (fun hF => ?_)
        · refine ov_aload dX5_copy_52 1 rfl ?_
          refine ov_geti (T := TX1) (kf := 1) dX5_copy_54 qf_X5_256 (ov_isr0 (ov_shR2 h5)) rfl (Nat.le_of_ble_eq_true rfl) rfl ?_
          refine ov_aload dX5_copy_57 0 rfl ?_
          refine ov_geti (T := TX1) (kf := 1) dX5_copy_59 qf_X5_256 (ov_isr0 (ov_shR2 h6)) rfl (Nat.le_of_ble_eq_true rfl) rfl ?_
          refine ov_icmp_eq 68 dX5_copy_62 (by decide) hF (fun hF => ?_) (fun hF => ?_)
          · refine ov_aload dX5_copy_68 1 rfl ?_
            refine ov_iload_n dX5_copy_70 4 rfl ?_
            refine ov_iload dX5_copy_71 7 rfl ?_
            refine ov_callV [.int x2, .int x5] dX5_copy_73 (c_X1_hasPlaces hF) (Nat.le_of_ble_eq_true rfl) (Nat.le_of_ble_eq_true rfl) lk_X5_263 (ov_isr0 (ov_shR2 h5)) rfl (Nat.le_of_ble_eq_true rfl) (Nat.le_refl _) (Nat.le_refl _) (fun rr σ12 hF => ?_)
            obtain ⟨v11, rfl, hF⟩ := hF
            show vv_X5_copy k 76 [(7, .ref (51 + 2 * Int32.toNatClampNeg x3)), (6, .ref (51 + 2 * Int32.toNatClampNeg x1)), (0, .ref 0), (1, .int x1), (2, .int x2), (3, .int x3), (4, .int x4), (5, .int x5)] [.int v11] σ12
            refine ov_if_eq 91 dX5_copy_76 (by decide) hF (fun hF => ?_) (fun hF => ?_)
            · refine ov_pick [] [] rfl ?_
              exact V_X5_copy_91 σ12 hF
            · refine ov_aload dX5_copy_79 0 rfl ?_
              refine ov_iload dX5_copy_81 6 rfl ?_
              refine ov_iload dX5_copy_83 7 rfl ?_
              refine ov_callV [.int x4, .int x5] dX5_copy_85 (c_X1_hasPlaces hF) (Nat.le_of_ble_eq_true rfl) (Nat.le_of_ble_eq_true rfl) lk_X5_263 (ov_isr0 (ov_shR2 h6)) rfl (Nat.le_of_ble_eq_true rfl) (Nat.le_refl _) (Nat.le_refl _) (fun rr σ14 hF => ?_)
              obtain ⟨v13, rfl, hF⟩ := hF
              show vv_X5_copy k 88 [(7, .ref (51 + 2 * Int32.toNatClampNeg x3)), (6, .ref (51 + 2 * Int32.toNatClampNeg x1)), (0, .ref 0), (1, .int x1), (2, .int x2), (3, .int x3), (4, .int x4), (5, .int x5)] [.int v13] σ14
              refine ov_if_ne 94 dX5_copy_88 (by decide) hF (fun hF => ?_) (fun hF => ?_)
              · refine ov_aload dX5_copy_94 1 rfl ?_
                refine ov_getr (T := TX1) (kf := 0) dX5_copy_96 qf_X5_213 (ov_isr0 (ov_shR2 h5)) rfl (Nat.le_of_ble_eq_true rfl) rfl (ov_isrn (ov_shR2 h5) 1 (by decide)) ?_
                refine ov_iload_n dX5_copy_99 4 rfl ?_
                refine ov_aload dX5_copy_100 0 rfl ?_
                refine ov_getr (T := TX1) (kf := 0) dX5_copy_102 qf_X5_213 (ov_isr0 (ov_shR2 h6)) rfl (Nat.le_of_ble_eq_true rfl) rfl (ov_isrn (ov_shR2 h6) 1 (by decide)) ?_
                refine ov_iload dX5_copy_105 6 rfl ?_
                refine ov_iload dX5_copy_107 7 rfl ?_
                have h15 := hF.1
                have hF := hF.2
                refine ov_copy dX5_copy_109 lk_X5_266 (ov_isr1 (ov_shR2 h5)) (ov_isr1 (ov_shR2 h6)) h15 (Nat.le_of_ble_eq_true rfl) (by decide) ?_
                refine ov_nmS (fun σ16 es16 => ?_)
                have hF := hF σ16 es16
                refine ov_iload dX5_copy_112 7 rfl ?_
                exact ov_ireturn dX5_copy_114 (Nat.le_refl _) (Nat.le_refl _) ⟨rfl, trivial, _, rfl, hF⟩
              · refine ov_pick [] [] rfl ?_
                exact V_X5_copy_91 σ14 hF
          · refine ov_ldc dX5_copy_65 qc_X5_121 ?_
            exact ov_ireturn dX5_copy_67 (Nat.le_refl _) (Nat.le_refl _) ⟨rfl, trivial, _, rfl, hF⟩
        · refine ov_pick [] [] rfl ?_
          exact V_X5_copy_49 σ10 hF
    · refine ov_pick [] [] rfl ?_
      exact V_X5_copy_14 σ4 hF
/-! X5_isSlot -/
abbrev vv_X5_isSlot (k : Int32 → ovSt → Prop) (pc : Nat) (L : List (Nat × Value)) (st : List Value) (σ : ovSt) : Prop := ov_V (ovZs 1 yX5_isSlot cX5_isSlot 1) (ovKs (some .boolean) ov_S0 (ovKi k)) (0, 0) ov_S0 pc L st σ
def F_X5_isSlot (x0 : Int32) (σ : ovSt) (k : Int32 → ovSt → Prop) : Prop := (F_X5_within x0 0 4 σ (fun v1 σ2 => (ov_bl v1 ∧ (k v1 σ2))))
set_option maxRecDepth 100000 in
set_option maxHeartbeats 4000000 in
theorem c_X5_isSlot {x0 : Int32} {σ : ovSt} {k : Int32 → ovSt → Prop} (hF : F_X5_isSlot x0 σ k) : ov_Ct 1 yX5_isSlot cX5_isSlot 1 (some .boolean) ov_S0 [.int x0] σ (ovKi k) := by
  refine ov_Ct.of (by decide) (Nat.le_of_ble_eq_true rfl) ?_
  unfold F_X5_isSlot at hF
  show vv_X5_isSlot k 0 [(0, .int x0)] [] σ
  refine ov_iload_n dX5_isSlot_0 0 rfl ?_
  refine ov_iconst 0 (by decide) dX5_isSlot_1 ?_
  refine ov_iconst 4 (by decide) dX5_isSlot_2 ?_
  refine ov_callS [.int x0, .int 0, .int 4] dX5_isSlot_3 (c_X5_within hF) (Nat.le_of_ble_eq_true rfl) (Nat.le_of_ble_eq_true rfl) lk_X5_67 (Nat.le_of_ble_eq_true rfl) (Nat.le_refl _) (Nat.le_refl _) (fun rr σ2 hF => ?_)
  obtain ⟨v1, rfl, hF⟩ := hF
  show vv_X5_isSlot k 6 [(0, .int x0)] [.int v1] σ2
  have h3 := hF.1
  have hF := hF.2
  exact ov_ireturn dX5_isSlot_6 (Nat.le_refl _) (Nat.le_refl _) ⟨rfl, h3, _, rfl, hF⟩
/-! X5_lay -/
abbrev vv_X5_lay (k : Int32 → ovSt → Prop) (pc : Nat) (L : List (Nat × Value)) (st : List Value) (σ : ovSt) : Prop := ov_V (ovZs 2 yX5_lay cX5_lay 6) (ovKs (some .int) ov_S0 (ovKi k)) (0, 0) ov_S0 pc L st σ
def F_X5_lay_16 (k : Int32 → ovSt → Prop) (σ : ovSt) : Prop := (k (-1000000001) σ)
set_option maxRecDepth 100000 in
set_option maxHeartbeats 4000000 in
theorem V_X5_lay_16 {k : Int32 → ovSt → Prop} (σ : ovSt) (hF : F_X5_lay_16 k σ) : vv_X5_lay k 16 [] [] σ := by
  unfold F_X5_lay_16 at hF
  refine ov_ldc dX5_lay_16 qc_X5_71 ?_
  exact ov_ireturn dX5_lay_18 (Nat.le_refl _) (Nat.le_refl _) ⟨rfl, trivial, _, rfl, hF⟩
def F_X5_lay_47 (k : Int32 → ovSt → Prop) (σ : ovSt) : Prop := (k (-1000000001) σ)
set_option maxRecDepth 100000 in
set_option maxHeartbeats 4000000 in
theorem V_X5_lay_47 {k : Int32 → ovSt → Prop} (σ : ovSt) (hF : F_X5_lay_47 k σ) : vv_X5_lay k 47 [] [] σ := by
  unfold F_X5_lay_47 at hF
  refine ov_ldc dX5_lay_47 qc_X5_71 ?_
  exact ov_ireturn dX5_lay_49 (Nat.le_refl _) (Nat.le_refl _) ⟨rfl, trivial, _, rfl, hF⟩
def F_X5_lay_160 (k : Int32 → ovSt → Prop) (x5 : Int32) (σ : ovSt) : Prop := (k x5 σ)
set_option maxRecDepth 100000 in
set_option maxHeartbeats 4000000 in
theorem V_X5_lay_160 {k : Int32 → ovSt → Prop} (x5 : Int32) (σ : ovSt) (hF : F_X5_lay_160 k x5 σ) : vv_X5_lay k 160 [(5, .int x5)] [] σ := by
  unfold F_X5_lay_160 at hF
  refine ov_iload dX5_lay_160 0 rfl ?_
  exact ov_ireturn dX5_lay_162 (Nat.le_refl _) (Nat.le_refl _) ⟨rfl, trivial, _, rfl, hF⟩
def F_X5_lay_70 (k : Int32 → ovSt → Prop) (x1 : Int32) (x2 : Int32) (x3 : Int32) (σ : ovSt) : Prop := (vp_in x1 5 ∧ (∀ v2 : Int32, v2 = (σ (59 + 3 * Int32.toNatClampNeg x1) 1) → (∀ σ3 : ovSt, σ3 = ov_up σ (59 + 3 * Int32.toNatClampNeg x1) 1 x2 → (if x2 = (1 : Int32) then (vp_in x3 8 ∧ (∀ σ9 : ovSt, σ9 = ov_up σ3 (59 + 3 * Int32.toNatClampNeg x1) 2 (σ3 22 (Int32.toNatClampNeg x3)) → (∀ σ10 : ovSt, σ10 = ov_up σ9 (59 + 3 * Int32.toNatClampNeg x1) 3 (σ9 23 (Int32.toNatClampNeg x3)) → (F_X5_lay_160 k v2 σ10)))) else (if x2 = (2 : Int32) then (vp_in x3 4 ∧ (F_X1_become ((59 + 3 * Int32.toNatClampNeg x1) + 1) (51 + 2 * Int32.toNatClampNeg x3) σ3 (fun σ7 => (F_X5_lay_160 k v2 σ7)))) else (if x2 = (3 : Int32) then (∀ σ4 : ovSt, σ4 = ov_up σ3 (59 + 3 * Int32.toNatClampNeg x1) 4 x3 → (F_X5_lay_160 k v2 σ4)) else (F_X5_lay_160 k v2 σ3)))))))
set_option maxRecDepth 100000 in
set_option maxHeartbeats 4000000 in
theorem V_X5_lay_70 {k : Int32 → ovSt → Prop} (x1 : Int32) (x2 : Int32) (x3 : Int32) (σ : ovSt) (hF : F_X5_lay_70 k x1 x2 x3 σ) : vv_X5_lay k 70 [(0, .ref 0), (1, .int x1), (2, .int x2), (3, .int x3)] [] σ := by
  unfold F_X5_lay_70 at hF
  refine ov_aload_n dX5_lay_70 0 rfl ?_
  refine ov_getr (T := TX5) (kf := 7) dX5_lay_71 qf_X5_49 sh_0 rfl (Nat.le_of_ble_eq_true rfl) rfl (by decide) ?_
  refine ov_iload_n dX5_lay_74 1 rfl ?_
  have h1 := hF.1
  have hF := hF.2
  refine ov_aaloadS dX5_lay_75 sh_49 h1 (ov_shQ h1) (ov_shQn h1) ?_
  refine ov_astore dX5_lay_76 (Nat.le_of_ble_eq_true rfl) [(4, .ref (59 + 3 * Int32.toNatClampNeg x1)), (0, .ref 0), (1, .int x1), (2, .int x2), (3, .int x3)] rfl ?_
  refine ov_aload dX5_lay_78 0 rfl ?_
  refine ov_geti (T := TX2) (kf := 1) dX5_lay_80 qf_X5_275 (ov_isq0 (ov_shQ2 h1)) rfl (Nat.le_of_ble_eq_true rfl) rfl ?_
  refine ov_nmI (fun v2 ev2 => ?_)
  have hF := hF v2 ev2
  refine ov_istore dX5_lay_83 (Nat.le_of_ble_eq_true rfl) [(5, .int v2), (4, .ref (59 + 3 * Int32.toNatClampNeg x1)), (0, .ref 0), (1, .int x1), (2, .int x2), (3, .int x3)] rfl ?_
  refine ov_aload dX5_lay_85 1 rfl ?_
  refine ov_iload_n dX5_lay_87 4 rfl ?_
  refine ov_puti (T := TX2) (kf := 1) dX5_lay_88 qf_X5_275 (ov_isq0 (ov_shQ2 h1)) rfl (Nat.le_of_ble_eq_true rfl) rfl rfl (by decide +kernel) ?_
  refine ov_nmS (fun σ3 es3 => ?_)
  have hF := hF σ3 es3
  refine ov_iload_n dX5_lay_91 4 rfl ?_
  refine ov_iconst 1 (by decide) dX5_lay_92 ?_
  refine ov_icmp_ne 127 dX5_lay_93 (by decide) hF (fun hF => ?_) (fun hF => ?_)
  · refine ov_iload_n dX5_lay_127 4 rfl ?_
    refine ov_iconst 2 (by decide) dX5_lay_128 ?_
    refine ov_icmp_ne 149 dX5_lay_129 (by decide) hF (fun hF => ?_) (fun hF => ?_)
    · refine ov_iload_n dX5_lay_149 4 rfl ?_
      refine ov_iconst 3 (by decide) dX5_lay_150 ?_
      refine ov_icmp_ne 160 dX5_lay_151 (by decide) hF (fun hF => ?_) (fun hF => ?_)
      · refine ov_pick [0] [(5, .int v2)] rfl ?_
        exact V_X5_lay_160 v2 σ3 hF
      · refine ov_aload dX5_lay_154 1 rfl ?_
        refine ov_iload_n dX5_lay_156 5 rfl ?_
        refine ov_puti (T := TX2) (kf := 4) dX5_lay_157 qf_X5_291 (ov_isq0 (ov_shQ2 h1)) rfl (Nat.le_of_ble_eq_true rfl) rfl rfl (by decide +kernel) ?_
        refine ov_nmS (fun σ4 es4 => ?_)
        have hF := hF σ4 es4
        refine ov_pick [0] [(5, .int v2)] rfl ?_
        exact V_X5_lay_160 v2 σ4 hF
    · refine ov_aload dX5_lay_132 1 rfl ?_
      refine ov_getr (T := TX2) (kf := 0) dX5_lay_134 qf_X5_284 (ov_isq0 (ov_shQ2 h1)) rfl (Nat.le_of_ble_eq_true rfl) rfl (ov_isqn (ov_shQ2 h1) 1 (by decide)) ?_
      refine ov_aload_n dX5_lay_137 2 rfl ?_
      refine ov_getr (T := TX5) (kf := 6) dX5_lay_138 qf_X5_43 sh_0 rfl (Nat.le_of_ble_eq_true rfl) rfl (by decide) ?_
      refine ov_iload_n dX5_lay_141 5 rfl ?_
      have h5 := hF.1
      have hF := hF.2
      refine ov_aaloadR dX5_lay_142 sh_48 h5 (ov_shR h5) (ov_shRn h5) ?_
      refine ov_callV [.ref (51 + 2 * Int32.toNatClampNeg x3)] dX5_lay_143 (c_X1_become hF) (Nat.le_of_ble_eq_true rfl) (Nat.le_of_ble_eq_true rfl) lk_X5_288 (ov_isr0 (ov_isq1 (ov_shQ2 h1))) rfl (Nat.le_of_ble_eq_true rfl) (Nat.le_refl _) (Nat.le_refl _) (fun rr σ7 hF => ?_)
      obtain ⟨rfl, hF⟩ := hF
      show vv_X5_lay k 146 [(5, .int v2), (4, .ref (59 + 3 * Int32.toNatClampNeg x1)), (0, .ref 0), (1, .int x1), (2, .int x2), (3, .int x3)] [] σ7
      refine ov_goto 160 dX5_lay_146 (by decide) ?_
      refine ov_pick [0] [(5, .int v2)] rfl ?_
      exact V_X5_lay_160 v2 σ7 hF
  · refine ov_aload dX5_lay_96 1 rfl ?_
    refine ov_aload_n dX5_lay_98 2 rfl ?_
    refine ov_getr (T := TX5) (kf := 1) dX5_lay_99 qf_X5_21 sh_0 rfl (Nat.le_of_ble_eq_true rfl) rfl (by decide) ?_
    refine ov_getr (T := TX3) (kf := 1) dX5_lay_102 qf_X5_91 (ov_stk0 (by unfold ov_stk; decide)) rfl (Nat.le_of_ble_eq_true rfl) rfl (by decide) ?_
    refine ov_iload_n dX5_lay_105 5 rfl ?_
    have h8 := hF.1
    have hF := hF.2
    refine ov_iaload dX5_lay_106 sh_22 h8 ?_
    refine ov_puti (T := TX2) (kf := 2) dX5_lay_107 qf_X5_278 (ov_isq0 (ov_shQ2 h1)) rfl (Nat.le_of_ble_eq_true rfl) rfl rfl (by decide +kernel) ?_
    refine ov_nmS (fun σ9 es9 => ?_)
    have hF := hF σ9 es9
    refine ov_aload dX5_lay_110 1 rfl ?_
    refine ov_aload_n dX5_lay_112 2 rfl ?_
    refine ov_getr (T := TX5) (kf := 1) dX5_lay_113 qf_X5_21 sh_0 rfl (Nat.le_of_ble_eq_true rfl) rfl (by decide) ?_
    refine ov_getr (T := TX3) (kf := 2) dX5_lay_116 qf_X5_94 (ov_stk0 (by unfold ov_stk; decide)) rfl (Nat.le_of_ble_eq_true rfl) rfl (by decide) ?_
    refine ov_iload_n dX5_lay_119 5 rfl ?_
    refine ov_iaload dX5_lay_120 sh_23 h8 ?_
    refine ov_puti (T := TX2) (kf := 3) dX5_lay_121 qf_X5_281 (ov_isq0 (ov_shQ2 h1)) rfl (Nat.le_of_ble_eq_true rfl) rfl rfl (by decide +kernel) ?_
    refine ov_nmS (fun σ10 es10 => ?_)
    have hF := hF σ10 es10
    refine ov_goto 160 dX5_lay_124 (by decide) ?_
    refine ov_pick [0] [(5, .int v2)] rfl ?_
    exact V_X5_lay_160 v2 σ10 hF
def F_X5_lay_50 (k : Int32 → ovSt → Prop) (x1 : Int32) (x2 : Int32) (x3 : Int32) (σ : ovSt) : Prop := (if x2 = (2 : Int32) then (vp_in x3 4 ∧ (F_X1_isMissing (51 + 2 * Int32.toNatClampNeg x3) σ (fun v12 σ13 => (if v12 = 0 then (F_X5_lay_70 k x1 x2 x3 σ13) else (k (-1000000011) σ13))))) else (F_X5_lay_70 k x1 x2 x3 σ))
set_option maxRecDepth 100000 in
set_option maxHeartbeats 4000000 in
theorem V_X5_lay_50 {k : Int32 → ovSt → Prop} (x1 : Int32) (x2 : Int32) (x3 : Int32) (σ : ovSt) (hF : F_X5_lay_50 k x1 x2 x3 σ) : vv_X5_lay k 50 [(0, .ref 0), (1, .int x1), (2, .int x2), (3, .int x3)] [] σ := by
  unfold F_X5_lay_50 at hF
  refine ov_iload_n dX5_lay_50 2 rfl ?_
  refine ov_iconst 2 (by decide) dX5_lay_51 ?_
  refine ov_icmp_ne 70 dX5_lay_52 (by decide) hF (fun hF => ?_) (fun hF => ?_)
  · exact V_X5_lay_70 x1 x2 x3 σ hF
  · refine ov_aload_n dX5_lay_55 0 rfl ?_
    refine ov_getr (T := TX5) (kf := 6) dX5_lay_56 qf_X5_43 sh_0 rfl (Nat.le_of_ble_eq_true rfl) rfl (by decide) ?_
    refine ov_iload_n dX5_lay_59 3 rfl ?_
    have h11 := hF.1
    have hF := hF.2
    refine ov_aaloadR dX5_lay_60 sh_48 h11 (ov_shR h11) (ov_shRn h11) ?_
    refine ov_callV [] dX5_lay_61 (c_X1_isMissing hF) (Nat.le_of_ble_eq_true rfl) (Nat.le_of_ble_eq_true rfl) lk_X5_198 (ov_isr0 (ov_shR2 h11)) rfl (Nat.le_of_ble_eq_true rfl) (Nat.le_refl _) (Nat.le_refl _) (fun rr σ13 hF => ?_)
    obtain ⟨v12, rfl, hF⟩ := hF
    show vv_X5_lay k 64 [(0, .ref 0), (1, .int x1), (2, .int x2), (3, .int x3)] [.int v12] σ13
    refine ov_if_eq 70 dX5_lay_64 (by decide) hF (fun hF => ?_) (fun hF => ?_)
    · exact V_X5_lay_70 x1 x2 x3 σ13 hF
    · refine ov_ldc dX5_lay_67 qc_X5_202 ?_
      exact ov_ireturn dX5_lay_69 (Nat.le_refl _) (Nat.le_refl _) ⟨rfl, trivial, _, rfl, hF⟩
def F_X5_lay_35 (k : Int32 → ovSt → Prop) (x1 : Int32) (x2 : Int32) (x3 : Int32) (σ : ovSt) : Prop := (if x2 = (2 : Int32) then (F_X5_isSheet x3 σ (fun v14 σ15 => (if v14 = 0 then (F_X5_lay_47 k σ15) else (F_X5_lay_50 k x1 x2 x3 σ15)))) else (F_X5_lay_50 k x1 x2 x3 σ))
set_option maxRecDepth 100000 in
set_option maxHeartbeats 4000000 in
theorem V_X5_lay_35 {k : Int32 → ovSt → Prop} (x1 : Int32) (x2 : Int32) (x3 : Int32) (σ : ovSt) (hF : F_X5_lay_35 k x1 x2 x3 σ) : vv_X5_lay k 35 [(0, .ref 0), (1, .int x1), (2, .int x2), (3, .int x3)] [] σ := by
  unfold F_X5_lay_35 at hF
  refine ov_iload_n dX5_lay_35 2 rfl ?_
  refine ov_iconst 2 (by decide) dX5_lay_36 ?_
  refine ov_icmp_ne 50 dX5_lay_37 (by decide) hF (fun hF => ?_) (fun hF => ?_)
  · exact V_X5_lay_50 x1 x2 x3 σ hF
  · refine ov_iload_n dX5_lay_40 3 rfl ?_
    refine ov_callS [.int x3] dX5_lay_41 (c_X5_isSheet hF) (Nat.le_of_ble_eq_true rfl) (Nat.le_of_ble_eq_true rfl) lk_X5_195 (Nat.le_of_ble_eq_true rfl) (Nat.le_refl _) (Nat.le_refl _) (fun rr σ15 hF => ?_)
    obtain ⟨v14, rfl, hF⟩ := hF
    show vv_X5_lay k 44 [(0, .ref 0), (1, .int x1), (2, .int x2), (3, .int x3)] [.int v14] σ15
    refine ov_if_ne 50 dX5_lay_44 (by decide) hF (fun hF => ?_) (fun hF => ?_)
    · exact V_X5_lay_50 x1 x2 x3 σ15 hF
    · refine ov_pick [] [] rfl ?_
      exact V_X5_lay_47 σ15 hF
def F_X5_lay (x1 : Int32) (x2 : Int32) (x3 : Int32) (σ : ovSt) (k : Int32 → ovSt → Prop) : Prop := (F_X5_isSlot x1 σ (fun v16 σ17 => (if v16 = 0 then (F_X5_lay_16 k σ17) else (F_X5_within x2 0 3 σ17 (fun v18 σ19 => (if v18 = 0 then (F_X5_lay_16 k σ19) else (if x2 = (1 : Int32) then (F_X3_has 21 x3 σ19 (fun v20 σ21 => (if v20 = 0 then (F_X5_lay_47 k σ21) else (F_X5_lay_35 k x1 x2 x3 σ21)))) else (F_X5_lay_35 k x1 x2 x3 σ19))))))))
set_option maxRecDepth 100000 in
set_option maxHeartbeats 4000000 in
theorem c_X5_lay {x1 : Int32} {x2 : Int32} {x3 : Int32} {σ : ovSt} {k : Int32 → ovSt → Prop} (hF : F_X5_lay x1 x2 x3 σ k) : ov_Ct 2 yX5_lay cX5_lay 6 (some .int) ov_S0 [.ref 0, .int x1, .int x2, .int x3] σ (ovKi k) := by
  refine ov_Ct.of (by decide) (Nat.le_of_ble_eq_true rfl) ?_
  unfold F_X5_lay at hF
  show vv_X5_lay k 0 [(0, .ref 0), (1, .int x1), (2, .int x2), (3, .int x3)] [] σ
  refine ov_iload_n dX5_lay_0 1 rfl ?_
  refine ov_callS [.int x1] dX5_lay_1 (c_X5_isSlot hF) (Nat.le_of_ble_eq_true rfl) (Nat.le_of_ble_eq_true rfl) lk_X5_272 (Nat.le_of_ble_eq_true rfl) (Nat.le_refl _) (Nat.le_refl _) (fun rr σ17 hF => ?_)
  obtain ⟨v16, rfl, hF⟩ := hF
  show vv_X5_lay k 4 [(0, .ref 0), (1, .int x1), (2, .int x2), (3, .int x3)] [.int v16] σ17
  refine ov_if_eq 16 dX5_lay_4 (by decide) hF (fun hF => ?_) (fun hF => ?_)
  · refine ov_pick [] [] rfl ?_
    exact V_X5_lay_16 σ17 hF
  · refine ov_iload_n dX5_lay_7 2 rfl ?_
    refine ov_iconst 0 (by decide) dX5_lay_8 ?_
    refine ov_iconst 3 (by decide) dX5_lay_9 ?_
    refine ov_callS [.int x2, .int 0, .int 3] dX5_lay_10 (c_X5_within hF) (Nat.le_of_ble_eq_true rfl) (Nat.le_of_ble_eq_true rfl) lk_X5_67 (Nat.le_of_ble_eq_true rfl) (Nat.le_refl _) (Nat.le_refl _) (fun rr σ19 hF => ?_)
    obtain ⟨v18, rfl, hF⟩ := hF
    show vv_X5_lay k 13 [(0, .ref 0), (1, .int x1), (2, .int x2), (3, .int x3)] [.int v18] σ19
    refine ov_if_ne 19 dX5_lay_13 (by decide) hF (fun hF => ?_) (fun hF => ?_)
    · refine ov_iload_n dX5_lay_19 2 rfl ?_
      refine ov_iconst 1 (by decide) dX5_lay_20 ?_
      refine ov_icmp_ne 35 dX5_lay_21 (by decide) hF (fun hF => ?_) (fun hF => ?_)
      · exact V_X5_lay_35 x1 x2 x3 σ19 hF
      · refine ov_aload_n dX5_lay_24 0 rfl ?_
        refine ov_getr (T := TX5) (kf := 1) dX5_lay_25 qf_X5_21 sh_0 rfl (Nat.le_of_ble_eq_true rfl) rfl (by decide) ?_
        refine ov_iload_n dX5_lay_28 3 rfl ?_
        refine ov_callV [.int x3] dX5_lay_29 (c_X3_has hF) (Nat.le_of_ble_eq_true rfl) (Nat.le_of_ble_eq_true rfl) lk_X5_80 (ov_stk0 (by unfold ov_stk; decide)) rfl (Nat.le_of_ble_eq_true rfl) (Nat.le_refl _) (Nat.le_refl _) (fun rr σ21 hF => ?_)
        obtain ⟨v20, rfl, hF⟩ := hF
        show vv_X5_lay k 32 [(0, .ref 0), (1, .int x1), (2, .int x2), (3, .int x3)] [.int v20] σ21
        refine ov_if_eq 47 dX5_lay_32 (by decide) hF (fun hF => ?_) (fun hF => ?_)
        · refine ov_pick [] [] rfl ?_
          exact V_X5_lay_47 σ21 hF
        · exact V_X5_lay_35 x1 x2 x3 σ21 hF
    · refine ov_pick [] [] rfl ?_
      exact V_X5_lay_16 σ19 hF
/-! X5_ask -/
abbrev vv_X5_ask (k : Int32 → ovSt → Prop) (pc : Nat) (L : List (Nat × Value)) (st : List Value) (σ : ovSt) : Prop := ov_V (ovZs 2 yX5_ask cX5_ask 4) (ovKs (some .int) ov_S0 (ovKi k)) (0, 0) ov_S0 pc L st σ
def F_X5_ask_16 (k : Int32 → ovSt → Prop) (σ : ovSt) : Prop := (k (-1000000001) σ)
set_option maxRecDepth 100000 in
set_option maxHeartbeats 4000000 in
theorem V_X5_ask_16 {k : Int32 → ovSt → Prop} (σ : ovSt) (hF : F_X5_ask_16 k σ) : vv_X5_ask k 16 [] [] σ := by
  unfold F_X5_ask_16 at hF
  refine ov_ldc dX5_ask_16 qc_X5_71 ?_
  exact ov_ireturn dX5_ask_18 (Nat.le_refl _) (Nat.le_refl _) ⟨rfl, trivial, _, rfl, hF⟩
def F_X5_ask_55 (k : Int32 → ovSt → Prop) (σ : ovSt) : Prop := (k (-1000000012) σ)
set_option maxRecDepth 100000 in
set_option maxHeartbeats 4000000 in
theorem V_X5_ask_55 {k : Int32 → ovSt → Prop} (σ : ovSt) (hF : F_X5_ask_55 k σ) : vv_X5_ask k 55 [] [] σ := by
  unfold F_X5_ask_55 at hF
  refine ov_ldc dX5_ask_55 qc_X5_121 ?_
  exact ov_ireturn dX5_ask_57 (Nat.le_refl _) (Nat.le_refl _) ⟨rfl, trivial, _, rfl, hF⟩
def F_X5_ask (x1 : Int32) (x2 : Int32) (σ : ovSt) (k : Int32 → ovSt → Prop) : Prop := (F_X5_isSlot x1 σ (fun v1 σ2 => (if v1 = 0 then (F_X5_ask_16 k σ2) else (F_X5_within x2 0 5 σ2 (fun v3 σ4 => (if v3 = 0 then (F_X5_ask_16 k σ4) else (vp_in x1 5 ∧ (if (σ4 (59 + 3 * Int32.toNatClampNeg x1) 1) = 0 then (k (-1000000011) σ4) else (if (σ4 (59 + 3 * Int32.toNatClampNeg x1) 1) = (1 : Int32) then (F_X5_isOfKind (σ4 (59 + 3 * Int32.toNatClampNeg x1) 2) x2 σ4 (fun v6 σ7 => (if v6 = 0 then (F_X5_ask_55 k σ7) else (F_X5_worthOf (σ7 (59 + 3 * Int32.toNatClampNeg x1) 2) (σ7 (59 + 3 * Int32.toNatClampNeg x1) 3) σ7 (fun v8 σ9 => (k v8 σ9)))))) else (F_X5_ask_55 k σ4))))))))))
set_option maxRecDepth 100000 in
set_option maxHeartbeats 4000000 in
theorem c_X5_ask {x1 : Int32} {x2 : Int32} {σ : ovSt} {k : Int32 → ovSt → Prop} (hF : F_X5_ask x1 x2 σ k) : ov_Ct 2 yX5_ask cX5_ask 4 (some .int) ov_S0 [.ref 0, .int x1, .int x2] σ (ovKi k) := by
  refine ov_Ct.of (by decide) (Nat.le_of_ble_eq_true rfl) ?_
  unfold F_X5_ask at hF
  show vv_X5_ask k 0 [(0, .ref 0), (1, .int x1), (2, .int x2)] [] σ
  refine ov_iload_n dX5_ask_0 1 rfl ?_
  refine ov_callS [.int x1] dX5_ask_1 (c_X5_isSlot hF) (Nat.le_of_ble_eq_true rfl) (Nat.le_of_ble_eq_true rfl) lk_X5_272 (Nat.le_of_ble_eq_true rfl) (Nat.le_refl _) (Nat.le_refl _) (fun rr σ2 hF => ?_)
  obtain ⟨v1, rfl, hF⟩ := hF
  show vv_X5_ask k 4 [(0, .ref 0), (1, .int x1), (2, .int x2)] [.int v1] σ2
  refine ov_if_eq 16 dX5_ask_4 (by decide) hF (fun hF => ?_) (fun hF => ?_)
  · refine ov_pick [] [] rfl ?_
    exact V_X5_ask_16 σ2 hF
  · refine ov_iload_n dX5_ask_7 2 rfl ?_
    refine ov_iconst 0 (by decide) dX5_ask_8 ?_
    refine ov_iconst 5 (by decide) dX5_ask_9 ?_
    refine ov_callS [.int x2, .int 0, .int 5] dX5_ask_10 (c_X5_within hF) (Nat.le_of_ble_eq_true rfl) (Nat.le_of_ble_eq_true rfl) lk_X5_67 (Nat.le_of_ble_eq_true rfl) (Nat.le_refl _) (Nat.le_refl _) (fun rr σ4 hF => ?_)
    obtain ⟨v3, rfl, hF⟩ := hF
    show vv_X5_ask k 13 [(0, .ref 0), (1, .int x1), (2, .int x2)] [.int v3] σ4
    refine ov_if_ne 19 dX5_ask_13 (by decide) hF (fun hF => ?_) (fun hF => ?_)
    · refine ov_aload_n dX5_ask_19 0 rfl ?_
      refine ov_getr (T := TX5) (kf := 7) dX5_ask_20 qf_X5_49 sh_0 rfl (Nat.le_of_ble_eq_true rfl) rfl (by decide) ?_
      refine ov_iload_n dX5_ask_23 1 rfl ?_
      have h5 := hF.1
      have hF := hF.2
      refine ov_aaloadS dX5_ask_24 sh_49 h5 (ov_shQ h5) (ov_shQn h5) ?_
      refine ov_astore_n dX5_ask_25 (Nat.le_of_ble_eq_true rfl) [(3, .ref (59 + 3 * Int32.toNatClampNeg x1)), (0, .ref 0), (1, .int x1), (2, .int x2)] rfl ?_
      refine ov_aload_n dX5_ask_26 0 rfl ?_
      refine ov_geti (T := TX2) (kf := 1) dX5_ask_27 qf_X5_275 (ov_isq0 (ov_shQ2 h5)) rfl (Nat.le_of_ble_eq_true rfl) rfl ?_
      refine ov_if_ne 36 dX5_ask_30 (by decide) hF (fun hF => ?_) (fun hF => ?_)
      · refine ov_aload_n dX5_ask_36 0 rfl ?_
        refine ov_geti (T := TX2) (kf := 1) dX5_ask_37 qf_X5_275 (ov_isq0 (ov_shQ2 h5)) rfl (Nat.le_of_ble_eq_true rfl) rfl ?_
        refine ov_iconst 1 (by decide) dX5_ask_40 ?_
        refine ov_icmp_ne 55 dX5_ask_41 (by decide) hF (fun hF => ?_) (fun hF => ?_)
        · refine ov_pick [] [] rfl ?_
          exact V_X5_ask_55 σ4 hF
        · refine ov_aload_n dX5_ask_44 0 rfl ?_
          refine ov_geti (T := TX2) (kf := 2) dX5_ask_45 qf_X5_278 (ov_isq0 (ov_shQ2 h5)) rfl (Nat.le_of_ble_eq_true rfl) rfl ?_
          refine ov_iload_n dX5_ask_48 3 rfl ?_
          refine ov_callS [.int (σ4 (59 + 3 * Int32.toNatClampNeg x1) 2), .int x2] dX5_ask_49 (c_X5_isOfKind hF) (Nat.le_of_ble_eq_true rfl) (Nat.le_of_ble_eq_true rfl) lk_X5_117 (Nat.le_of_ble_eq_true rfl) (Nat.le_refl _) (Nat.le_refl _) (fun rr σ7 hF => ?_)
          obtain ⟨v6, rfl, hF⟩ := hF
          show vv_X5_ask k 52 [(3, .ref (59 + 3 * Int32.toNatClampNeg x1)), (0, .ref 0), (1, .int x1), (2, .int x2)] [.int v6] σ7
          refine ov_if_ne 58 dX5_ask_52 (by decide) hF (fun hF => ?_) (fun hF => ?_)
          · refine ov_aload_n dX5_ask_58 0 rfl ?_
            refine ov_geti (T := TX2) (kf := 2) dX5_ask_59 qf_X5_278 (ov_isq0 (ov_shQ2 h5)) rfl (Nat.le_of_ble_eq_true rfl) rfl ?_
            refine ov_aload_n dX5_ask_62 0 rfl ?_
            refine ov_geti (T := TX2) (kf := 3) dX5_ask_63 qf_X5_281 (ov_isq0 (ov_shQ2 h5)) rfl (Nat.le_of_ble_eq_true rfl) rfl ?_
            refine ov_callS [.int (σ7 (59 + 3 * Int32.toNatClampNeg x1) 2), .int (σ7 (59 + 3 * Int32.toNatClampNeg x1) 3)] dX5_ask_66 (c_X5_worthOf hF) (Nat.le_of_ble_eq_true rfl) (Nat.le_of_ble_eq_true rfl) lk_X5_107 (Nat.le_of_ble_eq_true rfl) (Nat.le_refl _) (Nat.le_refl _) (fun rr σ9 hF => ?_)
            obtain ⟨v8, rfl, hF⟩ := hF
            show vv_X5_ask k 69 [(3, .ref (59 + 3 * Int32.toNatClampNeg x1)), (0, .ref 0), (1, .int x1), (2, .int x2)] [.int v8] σ9
            exact ov_ireturn dX5_ask_69 (Nat.le_refl _) (Nat.le_refl _) ⟨rfl, trivial, _, rfl, hF⟩
          · refine ov_pick [] [] rfl ?_
            exact V_X5_ask_55 σ7 hF
      · refine ov_ldc dX5_ask_33 qc_X5_202 ?_
        exact ov_ireturn dX5_ask_35 (Nat.le_refl _) (Nat.le_refl _) ⟨rfl, trivial, _, rfl, hF⟩
    · refine ov_pick [] [] rfl ?_
      exact V_X5_ask_16 σ4 hF
/-! X5_item -/
abbrev vv_X5_item (k : Int32 → ovSt → Prop) (pc : Nat) (L : List (Nat × Value)) (st : List Value) (σ : ovSt) : Prop := ov_V (ovZs 2 yX5_item cX5_item 4) (ovKs (some .int) ov_S0 (ovKi k)) (0, 0) ov_S0 pc L st σ
def F_X5_item_77 (k : Int32 → ovSt → Prop) (t0 : Int32) (σ : ovSt) : Prop := (k t0 σ)
set_option maxRecDepth 100000 in
set_option maxHeartbeats 4000000 in
theorem V_X5_item_77 {k : Int32 → ovSt → Prop} (t0 : Int32) (σ : ovSt) (hF : F_X5_item_77 k t0 σ) : vv_X5_item k 77 [] [.int t0] σ := by
  unfold F_X5_item_77 at hF
  exact ov_ireturn dX5_item_77 (Nat.le_refl _) (Nat.le_refl _) ⟨rfl, trivial, _, rfl, hF⟩
def F_X5_item (x1 : Int32) (x2 : Int32) (σ : ovSt) (k : Int32 → ovSt → Prop) : Prop := (F_X5_isSlot x1 σ (fun v1 σ2 => (if v1 = 0 then (k (-1000000001) σ2) else (vp_in x1 5 ∧ (if (σ2 (59 + 3 * Int32.toNatClampNeg x1) 1) = 0 then (k (-1000000011) σ2) else (if (σ2 (59 + 3 * Int32.toNatClampNeg x1) 1) = (2 : Int32) then (F_X1_hasPlace ((59 + 3 * Int32.toNatClampNeg x1) + 1) x2 σ2 (fun v4 σ5 => (if v4 = 0 then (k (-1000000013) σ5) else (F_X1_isNumber ((59 + 3 * Int32.toNatClampNeg x1) + 1) x2 σ5 (fun v6 σ7 => (if v6 = 0 then (F_X5_item_77 k (-1000000012) σ7) else (vp_in x2 24 ∧ (F_X5_item_77 k (σ7 (((59 + 3 * Int32.toNatClampNeg x1) + 1) + 1) (Int32.toNatClampNeg x2)) σ7)))))))) else (k (-1000000012) σ2)))))))
set_option maxRecDepth 100000 in
set_option maxHeartbeats 4000000 in
theorem c_X5_item {x1 : Int32} {x2 : Int32} {σ : ovSt} {k : Int32 → ovSt → Prop} (hF : F_X5_item x1 x2 σ k) : ov_Ct 2 yX5_item cX5_item 4 (some .int) ov_S0 [.ref 0, .int x1, .int x2] σ (ovKi k) := by
  refine ov_Ct.of (by decide) (Nat.le_of_ble_eq_true rfl) ?_
  unfold F_X5_item at hF
  show vv_X5_item k 0 [(0, .ref 0), (1, .int x1), (2, .int x2)] [] σ
  refine ov_iload_n dX5_item_0 1 rfl ?_
  refine ov_callS [.int x1] dX5_item_1 (c_X5_isSlot hF) (Nat.le_of_ble_eq_true rfl) (Nat.le_of_ble_eq_true rfl) lk_X5_272 (Nat.le_of_ble_eq_true rfl) (Nat.le_refl _) (Nat.le_refl _) (fun rr σ2 hF => ?_)
  obtain ⟨v1, rfl, hF⟩ := hF
  show vv_X5_item k 4 [(0, .ref 0), (1, .int x1), (2, .int x2)] [.int v1] σ2
  refine ov_if_ne 10 dX5_item_4 (by decide) hF (fun hF => ?_) (fun hF => ?_)
  · refine ov_aload_n dX5_item_10 0 rfl ?_
    refine ov_getr (T := TX5) (kf := 7) dX5_item_11 qf_X5_49 sh_0 rfl (Nat.le_of_ble_eq_true rfl) rfl (by decide) ?_
    refine ov_iload_n dX5_item_14 1 rfl ?_
    have h3 := hF.1
    have hF := hF.2
    refine ov_aaloadS dX5_item_15 sh_49 h3 (ov_shQ h3) (ov_shQn h3) ?_
    refine ov_astore_n dX5_item_16 (Nat.le_of_ble_eq_true rfl) [(3, .ref (59 + 3 * Int32.toNatClampNeg x1)), (0, .ref 0), (1, .int x1), (2, .int x2)] rfl ?_
    refine ov_aload_n dX5_item_17 0 rfl ?_
    refine ov_geti (T := TX2) (kf := 1) dX5_item_18 qf_X5_275 (ov_isq0 (ov_shQ2 h3)) rfl (Nat.le_of_ble_eq_true rfl) rfl ?_
    refine ov_if_ne 27 dX5_item_21 (by decide) hF (fun hF => ?_) (fun hF => ?_)
    · refine ov_aload_n dX5_item_27 0 rfl ?_
      refine ov_geti (T := TX2) (kf := 1) dX5_item_28 qf_X5_275 (ov_isq0 (ov_shQ2 h3)) rfl (Nat.le_of_ble_eq_true rfl) rfl ?_
      refine ov_iconst 2 (by decide) dX5_item_31 ?_
      refine ov_icmp_eq 38 dX5_item_32 (by decide) hF (fun hF => ?_) (fun hF => ?_)
      · refine ov_aload_n dX5_item_38 0 rfl ?_
        refine ov_getr (T := TX2) (kf := 0) dX5_item_39 qf_X5_284 (ov_isq0 (ov_shQ2 h3)) rfl (Nat.le_of_ble_eq_true rfl) rfl (ov_isqn (ov_shQ2 h3) 1 (by decide)) ?_
        refine ov_iload_n dX5_item_42 3 rfl ?_
        refine ov_callV [.int x2] dX5_item_43 (c_X1_hasPlace hF) (Nat.le_of_ble_eq_true rfl) (Nat.le_of_ble_eq_true rfl) lk_X5_252 (ov_isr0 (ov_isq1 (ov_shQ2 h3))) rfl (Nat.le_of_ble_eq_true rfl) (Nat.le_refl _) (Nat.le_refl _) (fun rr σ5 hF => ?_)
        obtain ⟨v4, rfl, hF⟩ := hF
        show vv_X5_item k 46 [(3, .ref (59 + 3 * Int32.toNatClampNeg x1)), (0, .ref 0), (1, .int x1), (2, .int x2)] [.int v4] σ5
        refine ov_if_ne 52 dX5_item_46 (by decide) hF (fun hF => ?_) (fun hF => ?_)
        · refine ov_aload_n dX5_item_52 0 rfl ?_
          refine ov_getr (T := TX2) (kf := 0) dX5_item_53 qf_X5_284 (ov_isq0 (ov_shQ2 h3)) rfl (Nat.le_of_ble_eq_true rfl) rfl (ov_isqn (ov_shQ2 h3) 1 (by decide)) ?_
          refine ov_iload_n dX5_item_56 3 rfl ?_
          refine ov_callV [.int x2] dX5_item_57 (c_X1_isNumber hF) (Nat.le_of_ble_eq_true rfl) (Nat.le_of_ble_eq_true rfl) lk_X5_210 (ov_isr0 (ov_isq1 (ov_shQ2 h3))) rfl (Nat.le_of_ble_eq_true rfl) (Nat.le_refl _) (Nat.le_refl _) (fun rr σ7 hF => ?_)
          obtain ⟨v6, rfl, hF⟩ := hF
          show vv_X5_item k 60 [(3, .ref (59 + 3 * Int32.toNatClampNeg x1)), (0, .ref 0), (1, .int x1), (2, .int x2)] [.int v6] σ7
          refine ov_if_eq 75 dX5_item_60 (by decide) hF (fun hF => ?_) (fun hF => ?_)
          · refine ov_ldc dX5_item_75 qc_X5_121 ?_
            refine ov_pick [] [] rfl ?_
            exact V_X5_item_77 (-1000000012) σ7 hF
          · refine ov_aload_n dX5_item_63 0 rfl ?_
            refine ov_getr (T := TX2) (kf := 0) dX5_item_64 qf_X5_284 (ov_isq0 (ov_shQ2 h3)) rfl (Nat.le_of_ble_eq_true rfl) rfl (ov_isqn (ov_shQ2 h3) 1 (by decide)) ?_
            refine ov_getr (T := TX1) (kf := 0) dX5_item_67 qf_X5_213 (ov_isr0 (ov_isq1 (ov_shQ2 h3))) rfl (Nat.le_of_ble_eq_true rfl) rfl (ov_isrn (ov_isq1 (ov_shQ2 h3)) 1 (by decide)) ?_
            refine ov_iload_n dX5_item_70 3 rfl ?_
            have h8 := hF.1
            have hF := hF.2
            refine ov_iaload dX5_item_71 (ov_isr1 (ov_isq1 (ov_shQ2 h3))) h8 ?_
            refine ov_goto 77 dX5_item_72 (by decide) ?_
            refine ov_pick [] [] rfl ?_
            exact V_X5_item_77 (σ7 (((59 + 3 * Int32.toNatClampNeg x1) + 1) + 1) (Int32.toNatClampNeg x2)) σ7 hF
        · refine ov_ldc dX5_item_49 qc_X5_255 ?_
          exact ov_ireturn dX5_item_51 (Nat.le_refl _) (Nat.le_refl _) ⟨rfl, trivial, _, rfl, hF⟩
      · refine ov_ldc dX5_item_35 qc_X5_121 ?_
        exact ov_ireturn dX5_item_37 (Nat.le_refl _) (Nat.le_refl _) ⟨rfl, trivial, _, rfl, hF⟩
    · refine ov_ldc dX5_item_24 qc_X5_202 ?_
      exact ov_ireturn dX5_item_26 (Nat.le_refl _) (Nat.le_refl _) ⟨rfl, trivial, _, rfl, hF⟩
  · refine ov_ldc dX5_item_7 qc_X5_71 ?_
    exact ov_ireturn dX5_item_9 (Nat.le_refl _) (Nat.le_refl _) ⟨rfl, trivial, _, rfl, hF⟩
/-! X5_rest -/
abbrev vv_X5_rest (k : Int32 → ovSt → Prop) (pc : Nat) (L : List (Nat × Value)) (st : List Value) (σ : ovSt) : Prop := ov_V (ovZs 2 yX5_rest cX5_rest 4) (ovKs (some .int) ov_S0 (ovKi k)) (0, 0) ov_S0 pc L st σ
def F_X5_rest_53 (k : Int32 → ovSt → Prop) (t0 : Int32) (σ : ovSt) : Prop := (k t0 σ)
set_option maxRecDepth 100000 in
set_option maxHeartbeats 4000000 in
theorem V_X5_rest_53 {k : Int32 → ovSt → Prop} (t0 : Int32) (σ : ovSt) (hF : F_X5_rest_53 k t0 σ) : vv_X5_rest k 53 [] [.int t0] σ := by
  unfold F_X5_rest_53 at hF
  exact ov_ireturn dX5_rest_53 (Nat.le_refl _) (Nat.le_refl _) ⟨rfl, trivial, _, rfl, hF⟩
def F_X5_rest (x1 : Int32) (x2 : Int32) (σ : ovSt) (k : Int32 → ovSt → Prop) : Prop := (F_X5_isSlot x1 σ (fun v1 σ2 => (if v1 = 0 then (k (-1000000001) σ2) else (vp_in x1 5 ∧ (if (σ2 (59 + 3 * Int32.toNatClampNeg x1) 1) = 0 then (k (-1000000011) σ2) else (if (σ2 (59 + 3 * Int32.toNatClampNeg x1) 1) = (3 : Int32) then (if x2 = 0 then (F_X5_rest_53 k (-1000000002) σ2) else (¬ x2 = 0 ∧ (F_X5_rest_53 k ((σ2 (59 + 3 * Int32.toNatClampNeg x1) 4) - (σ2 (59 + 3 * Int32.toNatClampNeg x1) 4) / x2 * x2) σ2))) else (k (-1000000012) σ2)))))))
set_option maxRecDepth 100000 in
set_option maxHeartbeats 4000000 in
theorem c_X5_rest {x1 : Int32} {x2 : Int32} {σ : ovSt} {k : Int32 → ovSt → Prop} (hF : F_X5_rest x1 x2 σ k) : ov_Ct 2 yX5_rest cX5_rest 4 (some .int) ov_S0 [.ref 0, .int x1, .int x2] σ (ovKi k) := by
  refine ov_Ct.of (by decide) (Nat.le_of_ble_eq_true rfl) ?_
  unfold F_X5_rest at hF
  show vv_X5_rest k 0 [(0, .ref 0), (1, .int x1), (2, .int x2)] [] σ
  refine ov_iload_n dX5_rest_0 1 rfl ?_
  refine ov_callS [.int x1] dX5_rest_1 (c_X5_isSlot hF) (Nat.le_of_ble_eq_true rfl) (Nat.le_of_ble_eq_true rfl) lk_X5_272 (Nat.le_of_ble_eq_true rfl) (Nat.le_refl _) (Nat.le_refl _) (fun rr σ2 hF => ?_)
  obtain ⟨v1, rfl, hF⟩ := hF
  show vv_X5_rest k 4 [(0, .ref 0), (1, .int x1), (2, .int x2)] [.int v1] σ2
  refine ov_if_ne 10 dX5_rest_4 (by decide) hF (fun hF => ?_) (fun hF => ?_)
  · refine ov_aload_n dX5_rest_10 0 rfl ?_
    refine ov_getr (T := TX5) (kf := 7) dX5_rest_11 qf_X5_49 sh_0 rfl (Nat.le_of_ble_eq_true rfl) rfl (by decide) ?_
    refine ov_iload_n dX5_rest_14 1 rfl ?_
    have h3 := hF.1
    have hF := hF.2
    refine ov_aaloadS dX5_rest_15 sh_49 h3 (ov_shQ h3) (ov_shQn h3) ?_
    refine ov_astore_n dX5_rest_16 (Nat.le_of_ble_eq_true rfl) [(3, .ref (59 + 3 * Int32.toNatClampNeg x1)), (0, .ref 0), (1, .int x1), (2, .int x2)] rfl ?_
    refine ov_aload_n dX5_rest_17 0 rfl ?_
    refine ov_geti (T := TX2) (kf := 1) dX5_rest_18 qf_X5_275 (ov_isq0 (ov_shQ2 h3)) rfl (Nat.le_of_ble_eq_true rfl) rfl ?_
    refine ov_if_ne 27 dX5_rest_21 (by decide) hF (fun hF => ?_) (fun hF => ?_)
    · refine ov_aload_n dX5_rest_27 0 rfl ?_
      refine ov_geti (T := TX2) (kf := 1) dX5_rest_28 qf_X5_275 (ov_isq0 (ov_shQ2 h3)) rfl (Nat.le_of_ble_eq_true rfl) rfl ?_
      refine ov_iconst 3 (by decide) dX5_rest_31 ?_
      refine ov_icmp_eq 38 dX5_rest_32 (by decide) hF (fun hF => ?_) (fun hF => ?_)
      · refine ov_iload_n dX5_rest_38 3 rfl ?_
        refine ov_if_ne 47 dX5_rest_39 (by decide) hF (fun hF => ?_) (fun hF => ?_)
        · refine ov_aload_n dX5_rest_47 0 rfl ?_
          refine ov_geti (T := TX2) (kf := 4) dX5_rest_48 qf_X5_291 (ov_isq0 (ov_shQ2 h3)) rfl (Nat.le_of_ble_eq_true rfl) rfl ?_
          refine ov_iload_n dX5_rest_51 3 rfl ?_
          have h4 := hF.1
          have hF := hF.2
          refine ov_irem h4 dX5_rest_52 ?_
          refine ov_pick [] [] rfl ?_
          exact V_X5_rest_53 ((σ2 (59 + 3 * Int32.toNatClampNeg x1) 4) - (σ2 (59 + 3 * Int32.toNatClampNeg x1) 4) / x2 * x2) σ2 hF
        · refine ov_ldc dX5_rest_42 qc_X5_219 ?_
          refine ov_goto 53 dX5_rest_44 (by decide) ?_
          refine ov_pick [] [] rfl ?_
          exact V_X5_rest_53 (-1000000002) σ2 hF
      · refine ov_ldc dX5_rest_35 qc_X5_121 ?_
        exact ov_ireturn dX5_rest_37 (Nat.le_refl _) (Nat.le_refl _) ⟨rfl, trivial, _, rfl, hF⟩
    · refine ov_ldc dX5_rest_24 qc_X5_202 ?_
      exact ov_ireturn dX5_rest_26 (Nat.le_refl _) (Nat.le_refl _) ⟨rfl, trivial, _, rfl, hF⟩
  · refine ov_ldc dX5_rest_7 qc_X5_71 ?_
    exact ov_ireturn dX5_rest_9 (Nat.le_refl _) (Nat.le_refl _) ⟨rfl, trivial, _, rfl, hF⟩
/-! X5_tell -/
abbrev vv_X5_tell (k : Int32 → ovSt → Prop) (pc : Nat) (L : List (Nat × Value)) (st : List Value) (σ : ovSt) : Prop := ov_V (ovZs 0 yX5_tell cX5_tell 2) (ovKs (some .int) ov_S0 (ovKi k)) (0, 0) ov_S0 pc L st σ
def F_X5_tell (x1 : Int32) (σ : ovSt) (k : Int32 → ovSt → Prop) : Prop := (if (σ 0 9) < (60 : Int32) then (vp_in (σ 0 9) 60 ∧ (∀ σ2 : ovSt, σ2 = ov_up σ 50 (Int32.toNatClampNeg (σ 0 9)) x1 → (∀ σ3 : ovSt, σ3 = ov_up σ2 0 9 ((σ2 0 9) + 1) → (k (σ3 0 9) σ3)))) else (k (-1000000003) σ))
set_option maxRecDepth 100000 in
set_option maxHeartbeats 4000000 in
theorem c_X5_tell {x1 : Int32} {σ : ovSt} {k : Int32 → ovSt → Prop} (hF : F_X5_tell x1 σ k) : ov_Ct 0 yX5_tell cX5_tell 2 (some .int) ov_S0 [.ref 0, .int x1] σ (ovKi k) := by
  refine ov_Ct.of (by decide) (Nat.le_of_ble_eq_true rfl) ?_
  unfold F_X5_tell at hF
  show vv_X5_tell k 0 [(0, .ref 0), (1, .int x1)] [] σ
  refine ov_aload_n dX5_tell_0 0 rfl ?_
  refine ov_geti (T := TX5) (kf := 9) dX5_tell_1 qf_X5_57 sh_0 rfl (Nat.le_of_ble_eq_true rfl) rfl ?_
  refine ov_bipush 60 (by decide) dX5_tell_4 ?_
  refine ov_icmp_lt 12 dX5_tell_6 (by decide) hF (fun hF => ?_) (fun hF => ?_)
  · refine ov_aload_n dX5_tell_12 0 rfl ?_
    refine ov_getr (T := TX5) (kf := 8) dX5_tell_13 qf_X5_53 sh_0 rfl (Nat.le_of_ble_eq_true rfl) rfl (by decide) ?_
    refine ov_aload_n dX5_tell_16 0 rfl ?_
    refine ov_geti (T := TX5) (kf := 9) dX5_tell_17 qf_X5_57 sh_0 rfl (Nat.le_of_ble_eq_true rfl) rfl ?_
    refine ov_iload_n dX5_tell_20 1 rfl ?_
    have h1 := hF.1
    have hF := hF.2
    refine ov_iastore dX5_tell_21 sh_50 h1 ?_
    refine ov_nmS (fun σ2 es2 => ?_)
    have hF := hF σ2 es2
    refine ov_aload_n dX5_tell_22 0 rfl ?_
    refine ov_dup rfl dX5_tell_23 ?_
    refine ov_geti (T := TX5) (kf := 9) dX5_tell_24 qf_X5_57 sh_0 rfl (Nat.le_of_ble_eq_true rfl) rfl ?_
    refine ov_iconst 1 (by decide) dX5_tell_27 ?_
    refine ov_iadd dX5_tell_28 ?_
    refine ov_puti (T := TX5) (kf := 9) dX5_tell_29 qf_X5_57 sh_0 rfl (Nat.le_of_ble_eq_true rfl) rfl rfl (by decide +kernel) ?_
    refine ov_nmS (fun σ3 es3 => ?_)
    have hF := hF σ3 es3
    refine ov_aload_n dX5_tell_32 0 rfl ?_
    refine ov_geti (T := TX5) (kf := 9) dX5_tell_33 qf_X5_57 sh_0 rfl (Nat.le_of_ble_eq_true rfl) rfl ?_
    exact ov_ireturn dX5_tell_36 (Nat.le_refl _) (Nat.le_refl _) ⟨rfl, trivial, _, rfl, hF⟩
  · refine ov_ldc dX5_tell_9 qc_X5_79 ?_
    exact ov_ireturn dX5_tell_11 (Nat.le_refl _) (Nat.le_refl _) ⟨rfl, trivial, _, rfl, hF⟩
/-! X5_waitsAt -/
abbrev vv_X5_waitsAt (k : Int32 → ovSt → Prop) (pc : Nat) (L : List (Nat × Value)) (st : List Value) (σ : ovSt) : Prop := ov_V (ovZs 0 yX5_waitsAt cX5_waitsAt 3) (ovKs (some .boolean) ov_S0 (ovKi k)) (0, 0) ov_S0 pc L st σ
def F_X5_waitsAt_23 (k : Int32 → ovSt → Prop) (t0 : Int32) (σ : ovSt) : Prop := (ov_bl t0 ∧ (k t0 σ))
set_option maxRecDepth 100000 in
set_option maxHeartbeats 4000000 in
theorem V_X5_waitsAt_23 {k : Int32 → ovSt → Prop} (t0 : Int32) (σ : ovSt) (hF : F_X5_waitsAt_23 k t0 σ) : vv_X5_waitsAt k 23 [] [.int t0] σ := by
  unfold F_X5_waitsAt_23 at hF
  have h1 := hF.1
  have hF := hF.2
  exact ov_ireturn dX5_waitsAt_23 (Nat.le_refl _) (Nat.le_refl _) ⟨rfl, h1, _, rfl, hF⟩
def F_X5_waitsAt_22 (k : Int32 → ovSt → Prop) (σ : ovSt) : Prop := (F_X5_waitsAt_23 k 0 σ)
set_option maxRecDepth 100000 in
set_option maxHeartbeats 4000000 in
theorem V_X5_waitsAt_22 {k : Int32 → ovSt → Prop} (σ : ovSt) (hF : F_X5_waitsAt_22 k σ) : vv_X5_waitsAt k 22 [] [] σ := by
  unfold F_X5_waitsAt_22 at hF
  refine ov_iconst 0 (by decide) dX5_waitsAt_22 ?_
  exact V_X5_waitsAt_23 0 σ hF
def F_X5_waitsAt (x1 : Int32) (x2 : Int32) (σ : ovSt) (k : Int32 → ovSt → Prop) : Prop := (if (σ 0 9) ≤ x1 then (F_X5_waitsAt_22 k σ) else (vp_in x1 60 ∧ (if (σ 50 (Int32.toNatClampNeg x1)) = x2 then (F_X5_waitsAt_23 k 1 σ) else (F_X5_waitsAt_22 k σ))))
set_option maxRecDepth 100000 in
set_option maxHeartbeats 4000000 in
theorem c_X5_waitsAt {x1 : Int32} {x2 : Int32} {σ : ovSt} {k : Int32 → ovSt → Prop} (hF : F_X5_waitsAt x1 x2 σ k) : ov_Ct 0 yX5_waitsAt cX5_waitsAt 3 (some .boolean) ov_S0 [.ref 0, .int x1, .int x2] σ (ovKi k) := by
  refine ov_Ct.of (by decide) (Nat.le_of_ble_eq_true rfl) ?_
  unfold F_X5_waitsAt at hF
  show vv_X5_waitsAt k 0 [(0, .ref 0), (1, .int x1), (2, .int x2)] [] σ
  refine ov_iload_n dX5_waitsAt_0 1 rfl ?_
  refine ov_aload_n dX5_waitsAt_1 0 rfl ?_
  refine ov_geti (T := TX5) (kf := 9) dX5_waitsAt_2 qf_X5_57 sh_0 rfl (Nat.le_of_ble_eq_true rfl) rfl ?_
  refine ov_icmp_ge 22 dX5_waitsAt_5 (by decide) hF (fun hF => ?_) (fun hF => ?_)
  · refine ov_pick [] [] rfl ?_
    exact V_X5_waitsAt_22 σ hF
  · refine ov_aload_n dX5_waitsAt_8 0 rfl ?_
    refine ov_getr (T := TX5) (kf := 8) dX5_waitsAt_9 qf_X5_53 sh_0 rfl (Nat.le_of_ble_eq_true rfl) rfl (by decide) ?_
    refine ov_iload_n dX5_waitsAt_12 1 rfl ?_
    have h2 := hF.1
    have hF := hF.2
    refine ov_iaload dX5_waitsAt_13 sh_50 h2 ?_
    refine ov_iload_n dX5_waitsAt_14 2 rfl ?_
    refine ov_icmp_ne 22 dX5_waitsAt_15 (by decide) hF (fun hF => ?_) (fun hF => ?_)
    · refine ov_pick [] [] rfl ?_
      exact V_X5_waitsAt_22 σ hF
    · refine ov_iconst 1 (by decide) dX5_waitsAt_18 ?_
      refine ov_goto 23 dX5_waitsAt_19 (by decide) ?_
      refine ov_pick [] [] rfl ?_
      exact V_X5_waitsAt_23 1 σ hF
/-! X5_firstUntrue -/
abbrev vv_X5_firstUntrue (k : Int32 → ovSt → Prop) (pc : Nat) (L : List (Nat × Value)) (st : List Value) (σ : ovSt) : Prop := ov_V (ovZs 5 yX5_firstUntrue cX5_firstUntrue 4) (ovKs (some .int) ov_S0 (ovKi k)) (0, 0) ov_S0 pc L st σ
def F_X5_firstUntrue_91 (k : Int32 → ovSt → Prop) (t0 : Int32) (σ : ovSt) : Prop := (k t0 σ)
set_option maxRecDepth 100000 in
set_option maxHeartbeats 4000000 in
theorem V_X5_firstUntrue_91 {k : Int32 → ovSt → Prop} (t0 : Int32) (σ : ovSt) (hF : F_X5_firstUntrue_91 k t0 σ) : vv_X5_firstUntrue k 91 [] [.int t0] σ := by
  unfold F_X5_firstUntrue_91 at hF
  exact ov_ireturn dX5_firstUntrue_91 (Nat.le_refl _) (Nat.le_refl _) ⟨rfl, trivial, _, rfl, hF⟩
def F_X5_firstUntrue_15 (k : Int32 → ovSt → Prop) : Nat → Int32 → Int32 → Int32 → ovSt → Prop
  | 0 => fun _ _ _ _ => False
  | n + 1 => fun x1 x2 x3 σ => (if x1 ≤ x3 then (if x2 = (σ 0 9) then (F_X5_firstUntrue_91 k 0 σ) else (F_X5_firstUntrue_91 k (1 + x2) σ)) else (F_X3_passDay 33 σ (fun σ2 => (F_X3_tasteOfAll 33 σ2 (fun v3 σ4 => (F_X5_waitsAt x2 v3 σ4 (fun v5 σ6 => (if v5 = 0 then (k (1 + x2) σ6) else (F_X3_amountOfAll 33 σ6 (fun v7 σ8 => (F_X5_waitsAt (x2 + 1) v7 σ8 (fun v9 σ10 => (if v9 = 0 then (k (2 + x2) σ10) else F_X5_firstUntrue_15 k n x1 (x2 + 2) (x3 + 1) σ10)))))))))))))
set_option maxRecDepth 100000 in
set_option maxHeartbeats 4000000 in
theorem V_X5_firstUntrue_15 {k : Int32 → ovSt → Prop} : ∀ (n : Nat) (x1 : Int32) (x2 : Int32) (x3 : Int32) (σ : ovSt), F_X5_firstUntrue_15 k n x1 x2 x3 σ → vv_X5_firstUntrue k 15 [(0, .ref 0), (1, .int x1), (2, .int x2), (3, .int x3)] [] σ := by
  intro n
  induction n with
  | zero => intro x1 x2 x3 σ hF; exact hF.elim
  | succ n ih =>
    intro x1 x2 x3 σ hF
    unfold F_X5_firstUntrue_15 at hF
    refine ov_iload_n dX5_firstUntrue_15 3 rfl ?_
    refine ov_iload_n dX5_firstUntrue_16 1 rfl ?_
    refine ov_icmp_ge 76 dX5_firstUntrue_17 (by decide) hF (fun hF => ?_) (fun hF => ?_)
    · refine ov_iload_n dX5_firstUntrue_76 2 rfl ?_
      refine ov_aload_n dX5_firstUntrue_77 0 rfl ?_
      refine ov_geti (T := TX5) (kf := 9) dX5_firstUntrue_78 qf_X5_57 sh_0 rfl (Nat.le_of_ble_eq_true rfl) rfl ?_
      refine ov_icmp_ne 88 dX5_firstUntrue_81 (by decide) hF (fun hF => ?_) (fun hF => ?_)
      · refine ov_iconst 1 (by decide) dX5_firstUntrue_88 ?_
        refine ov_iload_n dX5_firstUntrue_89 2 rfl ?_
        refine ov_iadd dX5_firstUntrue_90 ?_
        refine ov_pick [] [] rfl ?_
        exact V_X5_firstUntrue_91 (1 + x2) σ hF
      · refine ov_iconst 0 (by decide) dX5_firstUntrue_84 ?_
        refine ov_goto 91 dX5_firstUntrue_85 (by decide) ?_
        refine ov_pick [] [] rfl ?_
        exact V_X5_firstUntrue_91 0 σ hF
    · refine ov_aload_n dX5_firstUntrue_20 0 rfl ?_
      refine ov_getr (T := TX5) (kf := 3) dX5_firstUntrue_21 qf_X5_28 sh_0 rfl (Nat.le_of_ble_eq_true rfl) rfl (by decide) ?_
      refine ov_callV [] dX5_firstUntrue_24 (c_X3_passDay hF) (Nat.le_of_ble_eq_true rfl) (Nat.le_of_ble_eq_true rfl) lk_X5_192 (ov_stk0 (by unfold ov_stk; decide)) rfl (Nat.le_of_ble_eq_true rfl) (Nat.le_refl _) (Nat.le_refl _) (fun rr σ2 hF => ?_)
      obtain ⟨rfl, hF⟩ := hF
      show vv_X5_firstUntrue k 27 [(0, .ref 0), (1, .int x1), (2, .int x2), (3, .int x3)] [] σ2
      refine ov_aload_n dX5_firstUntrue_27 0 rfl ?_
      refine ov_iload_n dX5_firstUntrue_28 2 rfl ?_
      refine ov_aload_n dX5_firstUntrue_29 0 rfl ?_
      refine ov_getr (T := TX5) (kf := 3) dX5_firstUntrue_30 qf_X5_28 sh_0 rfl (Nat.le_of_ble_eq_true rfl) rfl (by decide) ?_
      refine ov_callV [] dX5_firstUntrue_33 (c_X3_tasteOfAll hF) (Nat.le_of_ble_eq_true rfl) (Nat.le_of_ble_eq_true rfl) lk_X5_151 (ov_stk0 (by unfold ov_stk; decide)) rfl (Nat.le_of_ble_eq_true rfl) (Nat.le_refl _) (Nat.le_refl _) (fun rr σ4 hF => ?_)
      obtain ⟨v3, rfl, hF⟩ := hF
      show vv_X5_firstUntrue k 36 [(0, .ref 0), (1, .int x1), (2, .int x2), (3, .int x3)] [.int v3, .int x2, .ref 0] σ4
      refine ov_callV [.int x2, .int v3] dX5_firstUntrue_36 (c_X5_waitsAt hF) (Nat.le_of_ble_eq_true rfl) (Nat.le_of_ble_eq_true rfl) lk_X5_297 sh_0 rfl (Nat.le_of_ble_eq_true rfl) (Nat.le_refl _) (Nat.le_refl _) (fun rr σ6 hF => ?_)
      obtain ⟨v5, rfl, hF⟩ := hF
      show vv_X5_firstUntrue k 39 [(0, .ref 0), (1, .int x1), (2, .int x2), (3, .int x3)] [.int v5] σ6
      refine ov_if_ne 46 dX5_firstUntrue_39 (by decide) hF (fun hF => ?_) (fun hF => ?_)
      · refine ov_aload_n dX5_firstUntrue_46 0 rfl ?_
        refine ov_iload_n dX5_firstUntrue_47 2 rfl ?_
        refine ov_iconst 1 (by decide) dX5_firstUntrue_48 ?_
        refine ov_iadd dX5_firstUntrue_49 ?_
        refine ov_aload_n dX5_firstUntrue_50 0 rfl ?_
        refine ov_getr (T := TX5) (kf := 3) dX5_firstUntrue_51 qf_X5_28 sh_0 rfl (Nat.le_of_ble_eq_true rfl) rfl (by decide) ?_
        refine ov_callV [] dX5_firstUntrue_54 (c_X3_amountOfAll hF) (Nat.le_of_ble_eq_true rfl) (Nat.le_of_ble_eq_true rfl) lk_X5_161 (ov_stk0 (by unfold ov_stk; decide)) rfl (Nat.le_of_ble_eq_true rfl) (Nat.le_refl _) (Nat.le_refl _) (fun rr σ8 hF => ?_)
        obtain ⟨v7, rfl, hF⟩ := hF
        show vv_X5_firstUntrue k 57 [(0, .ref 0), (1, .int x1), (2, .int x2), (3, .int x3)] [.int v7, .int (x2 + 1), .ref 0] σ8
        refine ov_callV [.int (x2 + 1), .int v7] dX5_firstUntrue_57 (c_X5_waitsAt hF) (Nat.le_of_ble_eq_true rfl) (Nat.le_of_ble_eq_true rfl) lk_X5_297 sh_0 rfl (Nat.le_of_ble_eq_true rfl) (Nat.le_refl _) (Nat.le_refl _) (fun rr σ10 hF => ?_)
        obtain ⟨v9, rfl, hF⟩ := hF
        show vv_X5_firstUntrue k 60 [(0, .ref 0), (1, .int x1), (2, .int x2), (3, .int x3)] [.int v9] σ10
        refine ov_if_ne 67 dX5_firstUntrue_60 (by decide) hF (fun hF => ?_) (fun hF => ?_)
        · refine ov_iinc dX5_firstUntrue_67 2 rfl (x2 + 2) rfl (Nat.le_of_ble_eq_true rfl) [(2, .int (x2 + 2)), (0, .ref 0), (1, .int x1), (3, .int x3)] rfl ?_
          refine ov_iinc dX5_firstUntrue_70 3 rfl (x3 + 1) rfl (Nat.le_of_ble_eq_true rfl) [(3, .int (x3 + 1)), (2, .int (x2 + 2)), (0, .ref 0), (1, .int x1)] rfl ?_
          refine ov_goto 15 dX5_firstUntrue_73 (by decide) ?_
          refine ov_pick [2, 3, 1, 0] [(0, .ref 0), (1, .int x1), (2, .int (x2 + 2)), (3, .int (x3 + 1))] rfl ?_
          exact ih x1 (x2 + 2) (x3 + 1) σ10 hF
        · refine ov_iconst 2 (by decide) dX5_firstUntrue_63 ?_
          refine ov_iload_n dX5_firstUntrue_64 2 rfl ?_
          refine ov_iadd dX5_firstUntrue_65 ?_
          exact ov_ireturn dX5_firstUntrue_66 (Nat.le_refl _) (Nat.le_refl _) ⟨rfl, trivial, _, rfl, hF⟩
      · refine ov_iconst 1 (by decide) dX5_firstUntrue_42 ?_
        refine ov_iload_n dX5_firstUntrue_43 2 rfl ?_
        refine ov_iadd dX5_firstUntrue_44 ?_
        exact ov_ireturn dX5_firstUntrue_45 (Nat.le_refl _) (Nat.le_refl _) ⟨rfl, trivial, _, rfl, hF⟩
def F_X5_firstUntrue (x1 : Int32) (σ : ovSt) (k : Int32 → ovSt → Prop) : Prop := (F_X3_become 33 27 σ (fun σ12 => (∃ n13, F_X5_firstUntrue_15 k n13 x1 0 0 σ12)))
set_option maxRecDepth 100000 in
set_option maxHeartbeats 4000000 in
theorem c_X5_firstUntrue {x1 : Int32} {σ : ovSt} {k : Int32 → ovSt → Prop} (hF : F_X5_firstUntrue x1 σ k) : ov_Ct 5 yX5_firstUntrue cX5_firstUntrue 4 (some .int) ov_S0 [.ref 0, .int x1] σ (ovKi k) := by
  refine ov_Ct.of (by decide) (Nat.le_of_ble_eq_true rfl) ?_
  unfold F_X5_firstUntrue at hF
  show vv_X5_firstUntrue k 0 [(0, .ref 0), (1, .int x1)] [] σ
  refine ov_aload_n dX5_firstUntrue_0 0 rfl ?_
  refine ov_getr (T := TX5) (kf := 3) dX5_firstUntrue_1 qf_X5_28 sh_0 rfl (Nat.le_of_ble_eq_true rfl) rfl (by decide) ?_
  refine ov_aload_n dX5_firstUntrue_4 0 rfl ?_
  refine ov_getr (T := TX5) (kf := 2) dX5_firstUntrue_5 qf_X5_25 sh_0 rfl (Nat.le_of_ble_eq_true rfl) rfl (by decide) ?_
  refine ov_callV [.ref 27] dX5_firstUntrue_8 (c_X3_become hF) (Nat.le_of_ble_eq_true rfl) (Nat.le_of_ble_eq_true rfl) lk_X5_171 (ov_stk0 (by unfold ov_stk; decide)) rfl (Nat.le_of_ble_eq_true rfl) (Nat.le_refl _) (Nat.le_refl _) (fun rr σ12 hF => ?_)
  obtain ⟨rfl, hF⟩ := hF
  show vv_X5_firstUntrue k 11 [(0, .ref 0), (1, .int x1)] [] σ12
  refine ov_iconst 0 (by decide) dX5_firstUntrue_11 ?_
  refine ov_istore_n dX5_firstUntrue_12 (Nat.le_of_ble_eq_true rfl) [(2, .int 0), (0, .ref 0), (1, .int x1)] rfl ?_
  refine ov_iconst 0 (by decide) dX5_firstUntrue_13 ?_
  refine ov_istore_n dX5_firstUntrue_14 (Nat.le_of_ble_eq_true rfl) [(3, .int 0), (2, .int 0), (0, .ref 0), (1, .int x1)] rfl ?_
  refine ov_pick [2, 3, 1, 0] [(0, .ref 0), (1, .int x1), (2, .int 0), (3, .int 0)] rfl ?_
  obtain ⟨n13, hF⟩ := hF
  exact V_X5_firstUntrue_15 n13 x1 0 0 σ12 hF
/-! X5_check -/
abbrev vv_X5_check (k : Int32 → ovSt → Prop) (pc : Nat) (L : List (Nat × Value)) (st : List Value) (σ : ovSt) : Prop := ov_V (ovZs 6 yX5_check cX5_check 3) (ovKs (some .int) ov_S0 (ovKi k)) (0, 0) ov_S0 pc L st σ
def F_X5_check_49 (k : Int32 → ovSt → Prop) (x2 : Int32) (σ : ovSt) : Prop := (∀ σ1 : ovSt, σ1 = ov_up σ 0 9 0 → (k x2 σ1))
set_option maxRecDepth 100000 in
set_option maxHeartbeats 4000000 in
theorem V_X5_check_49 {k : Int32 → ovSt → Prop} (x2 : Int32) (σ : ovSt) (hF : F_X5_check_49 k x2 σ) : vv_X5_check k 49 [(0, .ref 0), (2, .int x2)] [] σ := by
  unfold F_X5_check_49 at hF
  refine ov_aload_n dX5_check_49 0 rfl ?_
  refine ov_iconst 0 (by decide) dX5_check_50 ?_
  refine ov_puti (T := TX5) (kf := 9) dX5_check_51 qf_X5_57 sh_0 rfl (Nat.le_of_ble_eq_true rfl) rfl rfl (by decide +kernel) ?_
  refine ov_nmS (fun σ1 es1 => ?_)
  have hF := hF σ1 es1
  refine ov_iload_n dX5_check_54 1 rfl ?_
  exact ov_ireturn dX5_check_55 (Nat.le_refl _) (Nat.le_refl _) ⟨rfl, trivial, _, rfl, hF⟩
def F_X5_check (x1 : Int32) (σ : ovSt) (k : Int32 → ovSt → Prop) : Prop := (F_X5_within x1 1 30 σ (fun v2 σ3 => (if v2 = 0 then (F_X5_check_49 k (-1000000001) σ3) else (if (σ3 0 10) = 0 then (F_X5_check_49 k (-1000000002) σ3) else (F_X5_firstUntrue (ov_min x1 (9999 - (σ3 27 9))) σ3 (fun v4 σ5 => (F_X5_check_49 k v4 σ5)))))))
set_option maxRecDepth 100000 in
set_option maxHeartbeats 4000000 in
theorem c_X5_check {x1 : Int32} {σ : ovSt} {k : Int32 → ovSt → Prop} (hF : F_X5_check x1 σ k) : ov_Ct 6 yX5_check cX5_check 3 (some .int) ov_S0 [.ref 0, .int x1] σ (ovKi k) := by
  refine ov_Ct.of (by decide) (Nat.le_of_ble_eq_true rfl) ?_
  unfold F_X5_check at hF
  show vv_X5_check k 0 [(0, .ref 0), (1, .int x1)] [] σ
  refine ov_iload_n dX5_check_0 1 rfl ?_
  refine ov_iconst 1 (by decide) dX5_check_1 ?_
  refine ov_bipush 30 (by decide) dX5_check_2 ?_
  refine ov_callS [.int x1, .int 1, .int 30] dX5_check_4 (c_X5_within hF) (Nat.le_of_ble_eq_true rfl) (Nat.le_of_ble_eq_true rfl) lk_X5_67 (Nat.le_of_ble_eq_true rfl) (Nat.le_refl _) (Nat.le_refl _) (fun rr σ3 hF => ?_)
  obtain ⟨v2, rfl, hF⟩ := hF
  show vv_X5_check k 7 [(0, .ref 0), (1, .int x1)] [.int v2] σ3
  refine ov_if_ne 16 dX5_check_7 (by decide) hF (fun hF => ?_) (fun hF => ?_)
  · refine ov_aload_n dX5_check_16 0 rfl ?_
    refine ov_geti (T := TX5) (kf := 10) dX5_check_17 qf_X5_61 sh_0 rfl (Nat.le_of_ble_eq_true rfl) rfl ?_
    refine ov_if_ne 29 dX5_check_20 (by decide) hF (fun hF => ?_) (fun hF => ?_)
    · refine ov_aload_n dX5_check_29 0 rfl ?_
      refine ov_iload_n dX5_check_30 1 rfl ?_
      refine ov_sipush 9999 (by decide) dX5_check_31 ?_
      refine ov_aload_n dX5_check_34 0 rfl ?_
      refine ov_getr (T := TX5) (kf := 2) dX5_check_35 qf_X5_25 sh_0 rfl (Nat.le_of_ble_eq_true rfl) rfl (by decide) ?_
      refine ov_geti (T := TX3) (kf := 9) dX5_check_38 qf_X5_144 (ov_stk0 (by unfold ov_stk; decide)) rfl (Nat.le_of_ble_eq_true rfl) rfl ?_
      refine ov_isub dX5_check_41 ?_
      refine ov_mmin dX5_check_42 lk_X5_127 (Nat.le_of_ble_eq_true rfl) (Nat.le_of_ble_eq_true rfl) (Nat.le_refl _) (Nat.le_refl _) ?_
      refine ov_callV [.int (ov_min x1 (9999 - (σ3 27 9)))] dX5_check_45 (c_X5_firstUntrue hF) (Nat.le_of_ble_eq_true rfl) (Nat.le_of_ble_eq_true rfl) lk_X5_294 sh_0 rfl (Nat.le_of_ble_eq_true rfl) (Nat.le_refl _) (Nat.le_refl _) (fun rr σ5 hF => ?_)
      obtain ⟨v4, rfl, hF⟩ := hF
      show vv_X5_check k 48 [(0, .ref 0), (1, .int x1)] [.int v4] σ5
      refine ov_istore_n dX5_check_48 (Nat.le_of_ble_eq_true rfl) [(2, .int v4), (0, .ref 0), (1, .int x1)] rfl ?_
      refine ov_pick [1, 0] [(0, .ref 0), (2, .int v4)] rfl ?_
      exact V_X5_check_49 v4 σ5 hF
    · refine ov_ldc dX5_check_23 qc_X5_219 ?_
      refine ov_istore_n dX5_check_25 (Nat.le_of_ble_eq_true rfl) [(2, .int (-1000000002)), (0, .ref 0), (1, .int x1)] rfl ?_
      refine ov_goto 49 dX5_check_26 (by decide) ?_
      refine ov_pick [1, 0] [(0, .ref 0), (2, .int (-1000000002))] rfl ?_
      exact V_X5_check_49 (-1000000002) σ3 hF
  · refine ov_ldc dX5_check_10 qc_X5_71 ?_
    refine ov_istore_n dX5_check_12 (Nat.le_of_ble_eq_true rfl) [(2, .int (-1000000001)), (0, .ref 0), (1, .int x1)] rfl ?_
    refine ov_goto 49 dX5_check_13 (by decide) ?_
    refine ov_pick [1, 0] [(0, .ref 0), (2, .int (-1000000001))] rfl ?_
    exact V_X5_check_49 (-1000000001) σ3 hF
/-! X5_keep -/
abbrev vv_X5_keep (k : Int32 → ovSt → Prop) (pc : Nat) (L : List (Nat × Value)) (st : List Value) (σ : ovSt) : Prop := ov_V (ovZs 2 yX5_keep cX5_keep 1) (ovKs (some .int) ov_S0 (ovKi k)) (0, 0) ov_S0 pc L st σ
def F_X5_keep (σ : ovSt) (k : Int32 → ovSt → Prop) : Prop := (F_X3_become 27 21 σ (fun σ2 => (∀ σ3 : ovSt, σ3 = ov_up σ2 0 10 1 → (k (σ3 21 6) σ3))))
set_option maxRecDepth 100000 in
set_option maxHeartbeats 4000000 in
theorem c_X5_keep {σ : ovSt} {k : Int32 → ovSt → Prop} (hF : F_X5_keep σ k) : ov_Ct 2 yX5_keep cX5_keep 1 (some .int) ov_S0 [.ref 0] σ (ovKi k) := by
  refine ov_Ct.of (by decide) (Nat.le_of_ble_eq_true rfl) ?_
  unfold F_X5_keep at hF
  show vv_X5_keep k 0 [(0, .ref 0)] [] σ
  refine ov_aload_n dX5_keep_0 0 rfl ?_
  refine ov_getr (T := TX5) (kf := 2) dX5_keep_1 qf_X5_25 sh_0 rfl (Nat.le_of_ble_eq_true rfl) rfl (by decide) ?_
  refine ov_aload_n dX5_keep_4 0 rfl ?_
  refine ov_getr (T := TX5) (kf := 1) dX5_keep_5 qf_X5_21 sh_0 rfl (Nat.le_of_ble_eq_true rfl) rfl (by decide) ?_
  refine ov_callV [.ref 21] dX5_keep_8 (c_X3_become hF) (Nat.le_of_ble_eq_true rfl) (Nat.le_of_ble_eq_true rfl) lk_X5_171 (ov_stk0 (by unfold ov_stk; decide)) rfl (Nat.le_of_ble_eq_true rfl) (Nat.le_refl _) (Nat.le_refl _) (fun rr σ2 hF => ?_)
  obtain ⟨rfl, hF⟩ := hF
  show vv_X5_keep k 11 [(0, .ref 0)] [] σ2
  refine ov_aload_n dX5_keep_11 0 rfl ?_
  refine ov_iconst 1 (by decide) dX5_keep_12 ?_
  refine ov_putz (T := TX5) (kf := 10) rfl rfl dX5_keep_13 qf_X5_61 sh_0 rfl (Nat.le_of_ble_eq_true rfl) rfl rfl (by decide +kernel) ?_
  refine ov_nmS (fun σ3 es3 => ?_)
  have hF := hF σ3 es3
  refine ov_aload_n dX5_keep_16 0 rfl ?_
  refine ov_getr (T := TX5) (kf := 1) dX5_keep_17 qf_X5_21 sh_0 rfl (Nat.le_of_ble_eq_true rfl) rfl (by decide) ?_
  refine ov_geti (T := TX3) (kf := 6) dX5_keep_20 qf_X5_72 (ov_stk0 (by unfold ov_stk; decide)) rfl (Nat.le_of_ble_eq_true rfl) rfl ?_
  exact ov_ireturn dX5_keep_23 (Nat.le_refl _) (Nat.le_refl _) ⟨rfl, trivial, _, rfl, hF⟩
/-! X5_back -/
abbrev vv_X5_back (k : Int32 → ovSt → Prop) (pc : Nat) (L : List (Nat × Value)) (st : List Value) (σ : ovSt) : Prop := ov_V (ovZs 2 yX5_back cX5_back 1) (ovKs (some .int) ov_S0 (ovKi k)) (0, 0) ov_S0 pc L st σ
def F_X5_back (σ : ovSt) (k : Int32 → ovSt → Prop) : Prop := (if (σ 0 10) = 0 then (k (-1000000002) σ) else (F_X3_become 21 27 σ (fun σ2 => (k (σ2 21 6) σ2))))
set_option maxRecDepth 100000 in
set_option maxHeartbeats 4000000 in
theorem c_X5_back {σ : ovSt} {k : Int32 → ovSt → Prop} (hF : F_X5_back σ k) : ov_Ct 2 yX5_back cX5_back 1 (some .int) ov_S0 [.ref 0] σ (ovKi k) := by
  refine ov_Ct.of (by decide) (Nat.le_of_ble_eq_true rfl) ?_
  unfold F_X5_back at hF
  show vv_X5_back k 0 [(0, .ref 0)] [] σ
  refine ov_aload_n dX5_back_0 0 rfl ?_
  refine ov_geti (T := TX5) (kf := 10) dX5_back_1 qf_X5_61 sh_0 rfl (Nat.le_of_ble_eq_true rfl) rfl ?_
  refine ov_if_ne 10 dX5_back_4 (by decide) hF (fun hF => ?_) (fun hF => ?_)
  · refine ov_aload_n dX5_back_10 0 rfl ?_
    refine ov_getr (T := TX5) (kf := 1) dX5_back_11 qf_X5_21 sh_0 rfl (Nat.le_of_ble_eq_true rfl) rfl (by decide) ?_
    refine ov_aload_n dX5_back_14 0 rfl ?_
    refine ov_getr (T := TX5) (kf := 2) dX5_back_15 qf_X5_25 sh_0 rfl (Nat.le_of_ble_eq_true rfl) rfl (by decide) ?_
    refine ov_callV [.ref 27] dX5_back_18 (c_X3_become hF) (Nat.le_of_ble_eq_true rfl) (Nat.le_of_ble_eq_true rfl) lk_X5_171 (ov_stk0 (by unfold ov_stk; decide)) rfl (Nat.le_of_ble_eq_true rfl) (Nat.le_refl _) (Nat.le_refl _) (fun rr σ2 hF => ?_)
    obtain ⟨rfl, hF⟩ := hF
    show vv_X5_back k 21 [(0, .ref 0)] [] σ2
    refine ov_aload_n dX5_back_21 0 rfl ?_
    refine ov_getr (T := TX5) (kf := 1) dX5_back_22 qf_X5_21 sh_0 rfl (Nat.le_of_ble_eq_true rfl) rfl (by decide) ?_
    refine ov_geti (T := TX3) (kf := 6) dX5_back_25 qf_X5_72 (ov_stk0 (by unfold ov_stk; decide)) rfl (Nat.le_of_ble_eq_true rfl) rfl ?_
    exact ov_ireturn dX5_back_28 (Nat.le_refl _) (Nat.le_refl _) ⟨rfl, trivial, _, rfl, hF⟩
  · refine ov_ldc dX5_back_7 qc_X5_219 ?_
    exact ov_ireturn dX5_back_9 (Nat.le_refl _) (Nat.le_refl _) ⟨rfl, trivial, _, rfl, hF⟩
/-! X5_count -/
abbrev vv_X5_count (k : Int32 → ovSt → Prop) (pc : Nat) (L : List (Nat × Value)) (st : List Value) (σ : ovSt) : Prop := ov_V (ovZs 0 yX5_count cX5_count 2) (ovKs (some .int) ov_S0 (ovKi k)) (0, 0) ov_S0 pc L st σ
def F_X5_count (x1 : Int32) (σ : ovSt) (k : Int32 → ovSt → Prop) : Prop := (if x1 = 0 then (k (σ 21 6) σ) else (if x1 = 1 then (k (σ 21 9) σ) else (if x1 = 2 then (k (σ 21 7) σ) else (if x1 = 3 then (k (σ 21 8) σ) else (if x1 = 4 then (k (σ 21 13) σ) else (if x1 = 5 then (k (σ 0 9) σ) else (if x1 = 6 then (k (σ 45 2) σ) else (if x1 = 7 then (k (σ 21 12) σ) else (k (-1000000001) σ)))))))))
set_option maxRecDepth 100000 in
set_option maxHeartbeats 4000000 in
theorem c_X5_count {x1 : Int32} {σ : ovSt} {k : Int32 → ovSt → Prop} (hF : F_X5_count x1 σ k) : ov_Ct 0 yX5_count cX5_count 2 (some .int) ov_S0 [.ref 0, .int x1] σ (ovKi k) := by
  refine ov_Ct.of (by decide) (Nat.le_of_ble_eq_true rfl) ?_
  unfold F_X5_count at hF
  show vv_X5_count k 0 [(0, .ref 0), (1, .int x1)] [] σ
  refine ov_iload_n dX5_count_0 1 rfl ?_
  refine ov_br hF (fun z1 hF => ?_) (fun z1 hF => ?_)
  · refine ov_tin 0 47 48 dX5_count_1 z1 (by decide) (by decide) rfl (by decide) ?_
    refine ov_aload_n dX5_count_48 0 rfl ?_
    refine ov_getr (T := TX5) (kf := 1) dX5_count_49 qf_X5_21 sh_0 rfl (Nat.le_of_ble_eq_true rfl) rfl (by decide) ?_
    refine ov_geti (T := TX3) (kf := 6) dX5_count_52 qf_X5_72 (ov_stk0 (by unfold ov_stk; decide)) rfl (Nat.le_of_ble_eq_true rfl) rfl ?_
    exact ov_ireturn dX5_count_55 (Nat.le_refl _) (Nat.le_refl _) ⟨rfl, trivial, _, rfl, hF⟩
  · refine ov_br hF (fun z2 hF => ?_) (fun z2 hF => ?_)
    · refine ov_tin 1 55 56 dX5_count_1 z2 (by decide) (by decide) rfl (by decide) ?_
      refine ov_aload_n dX5_count_56 0 rfl ?_
      refine ov_getr (T := TX5) (kf := 1) dX5_count_57 qf_X5_21 sh_0 rfl (Nat.le_of_ble_eq_true rfl) rfl (by decide) ?_
      refine ov_geti (T := TX3) (kf := 9) dX5_count_60 qf_X5_144 (ov_stk0 (by unfold ov_stk; decide)) rfl (Nat.le_of_ble_eq_true rfl) rfl ?_
      exact ov_ireturn dX5_count_63 (Nat.le_refl _) (Nat.le_refl _) ⟨rfl, trivial, _, rfl, hF⟩
    · refine ov_br hF (fun z3 hF => ?_) (fun z3 hF => ?_)
      · refine ov_tin 2 63 64 dX5_count_1 z3 (by decide) (by decide) rfl (by decide) ?_
        refine ov_aload_n dX5_count_64 0 rfl ?_
        refine ov_getr (T := TX5) (kf := 1) dX5_count_65 qf_X5_21 sh_0 rfl (Nat.le_of_ble_eq_true rfl) rfl (by decide) ?_
        refine ov_geti (T := TX3) (kf := 7) dX5_count_68 qf_X5_138 (ov_stk0 (by unfold ov_stk; decide)) rfl (Nat.le_of_ble_eq_true rfl) rfl ?_
        exact ov_ireturn dX5_count_71 (Nat.le_refl _) (Nat.le_refl _) ⟨rfl, trivial, _, rfl, hF⟩
      · refine ov_br hF (fun z4 hF => ?_) (fun z4 hF => ?_)
        · refine ov_tin 3 71 72 dX5_count_1 z4 (by decide) (by decide) rfl (by decide) ?_
          refine ov_aload_n dX5_count_72 0 rfl ?_
          refine ov_getr (T := TX5) (kf := 1) dX5_count_73 qf_X5_21 sh_0 rfl (Nat.le_of_ble_eq_true rfl) rfl (by decide) ?_
          refine ov_geti (T := TX3) (kf := 8) dX5_count_76 qf_X5_141 (ov_stk0 (by unfold ov_stk; decide)) rfl (Nat.le_of_ble_eq_true rfl) rfl ?_
          exact ov_ireturn dX5_count_79 (Nat.le_refl _) (Nat.le_refl _) ⟨rfl, trivial, _, rfl, hF⟩
        · refine ov_br hF (fun z5 hF => ?_) (fun z5 hF => ?_)
          · refine ov_tin 4 79 80 dX5_count_1 z5 (by decide) (by decide) rfl (by decide) ?_
            refine ov_aload_n dX5_count_80 0 rfl ?_
            refine ov_getr (T := TX5) (kf := 1) dX5_count_81 qf_X5_21 sh_0 rfl (Nat.le_of_ble_eq_true rfl) rfl (by decide) ?_
            refine ov_geti (T := TX3) (kf := 13) dX5_count_84 qf_X5_232 (ov_stk0 (by unfold ov_stk; decide)) rfl (Nat.le_of_ble_eq_true rfl) rfl ?_
            exact ov_ireturn dX5_count_87 (Nat.le_refl _) (Nat.le_refl _) ⟨rfl, trivial, _, rfl, hF⟩
          · refine ov_br hF (fun z6 hF => ?_) (fun z6 hF => ?_)
            · refine ov_tin 5 87 88 dX5_count_1 z6 (by decide) (by decide) rfl (by decide) ?_
              refine ov_aload_n dX5_count_88 0 rfl ?_
              refine ov_geti (T := TX5) (kf := 9) dX5_count_89 qf_X5_57 sh_0 rfl (Nat.le_of_ble_eq_true rfl) rfl ?_
              exact ov_ireturn dX5_count_92 (Nat.le_refl _) (Nat.le_refl _) ⟨rfl, trivial, _, rfl, hF⟩
            · refine ov_br hF (fun z7 hF => ?_) (fun z7 hF => ?_)
              · refine ov_tin 6 92 93 dX5_count_1 z7 (by decide) (by decide) rfl (by decide) ?_
                refine ov_aload_n dX5_count_93 0 rfl ?_
                refine ov_getr (T := TX5) (kf := 5) dX5_count_94 qf_X5_37 sh_0 rfl (Nat.le_of_ble_eq_true rfl) rfl (by decide) ?_
                refine ov_geti (T := TX4) (kf := 2) dX5_count_97 qf_X5_220 sh_45 rfl (Nat.le_of_ble_eq_true rfl) rfl ?_
                exact ov_ireturn dX5_count_100 (Nat.le_refl _) (Nat.le_refl _) ⟨rfl, trivial, _, rfl, hF⟩
              · refine ov_br hF (fun z8 hF => ?_) (fun z8 hF => ?_)
                · refine ov_tin 7 100 101 dX5_count_1 z8 (by decide) (by decide) rfl (by decide) ?_
                  refine ov_aload_n dX5_count_101 0 rfl ?_
                  refine ov_getr (T := TX5) (kf := 1) dX5_count_102 qf_X5_21 sh_0 rfl (Nat.le_of_ble_eq_true rfl) rfl (by decide) ?_
                  refine ov_geti (T := TX3) (kf := 12) dX5_count_105 qf_X5_135 (ov_stk0 (by unfold ov_stk; decide)) rfl (Nat.le_of_ble_eq_true rfl) rfl ?_
                  exact ov_ireturn dX5_count_108 (Nat.le_refl _) (Nat.le_refl _) ⟨rfl, trivial, _, rfl, hF⟩
                · refine ov_tout 109 dX5_count_1 (by have q0 := lv_neT (k := 0) (a := 0) z1 rfl; have q1 := lv_neT (k := 1) (a := 1) z2 rfl; have q2 := lv_neT (k := 2) (a := 2) z3 rfl; have q3 := lv_neT (k := 3) (a := 3) z4 rfl; have q4 := lv_neT (k := 4) (a := 4) z5 rfl; have q5 := lv_neT (k := 5) (a := 5) z6 rfl; have q6 := lv_neT (k := 6) (a := 6) z7 rfl; have q7 := lv_neT (k := 7) (a := 7) z8 rfl; omega) (by decide) ?_
                  refine ov_ldc dX5_count_109 qc_X5_71 ?_
                  exact ov_ireturn dX5_count_111 (Nat.le_refl _) (Nat.le_refl _) ⟨rfl, trivial, _, rfl, hF⟩
