/-! ===== the classes' own words, by their numbers ===== -/
theorem ov_g0 : ∀ w ∈ u_ws RX0 TX0 5, w ∈ gW := fun w h => List.mem_filter.mpr ⟨((goodIn_of (big := lw_tbl) (u_ws RX0 TX0 5) (by decide +kernel)) w h).1, by revert w; decide +kernel⟩
theorem ov_g1 : ∀ w ∈ u_ws RX1 TX1 3, w ∈ gW := fun w h => List.mem_filter.mpr ⟨((goodIn_of (big := lw_tbl) (u_ws RX1 TX1 3) (by decide +kernel)) w h).1, by revert w; decide +kernel⟩
theorem ov_g2 : ∀ w ∈ u_ws RX2 TX2 5, w ∈ gW := fun w h => List.mem_filter.mpr ⟨((goodIn_of (big := lw_tbl) (u_ws RX2 TX2 5) (by decide +kernel)) w h).1, by revert w; decide +kernel⟩
theorem ov_g3 : ∀ w ∈ u_ws RX3 TX3 14, w ∈ gW := fun w h => List.mem_filter.mpr ⟨((goodIn_of (big := lw_tbl) (u_ws RX3 TX3 14) (by decide +kernel)) w h).1, by revert w; decide +kernel⟩
theorem ov_g4 : ∀ w ∈ u_ws RX4 TX4 9, w ∈ gW := fun w h => List.mem_filter.mpr ⟨((goodIn_of (big := lw_tbl) (u_ws RX4 TX4 9) (by decide +kernel)) w h).1, by revert w; decide +kernel⟩
theorem ov_g5 : ∀ w ∈ u_ws RX5 TX5 11, w ∈ gW := fun w h => List.mem_filter.mpr ⟨((goodIn_of (big := lw_tbl) (u_ws RX5 TX5 11) (by decide +kernel)) w h).1, by revert w; decide +kernel⟩
theorem ov_g6 : ∀ w ∈ u_ws RX6 TX6 35, w ∈ gW := fun w h => List.mem_filter.mpr ⟨((goodIn_of (big := lw_tbl) (u_ws RX6 TX6 35) (by decide +kernel)) w h).1, by revert w; decide +kernel⟩
theorem ov_gc {ci : Nat} {C : String} {T : u_T} {N : Nat} (h : vwCl[ci]? = some (C, T, N)) : ∀ w ∈ u_ws C T N, w ∈ gW := by
  match ci, h with
  | 0, h => cases h; exact ov_g0
  | 1, h => cases h; exact ov_g1
  | 2, h => cases h; exact ov_g2
  | 3, h => cases h; exact ov_g3
  | 4, h => cases h; exact ov_g4
  | 5, h => cases h; exact ov_g5
  | 6, h => cases h; exact ov_g6
  | k + 7, h => cases h
theorem ov_gt {ci : Nat} {C : String} {T : u_T} {N : Nat} (h : vwCl[ci]? = some (C, T, N)) : ∃ ty0 : Nat → FieldType, (∀ k, k < N → parseFieldDescriptor (T k).2.2.1 = some (ty0 k)) ∧ (∀ a, a < N → ∀ b, b < N → a ≠ b → (T a).2.1 ≠ (T b).2.1) := by
  match ci, h with
  | 0, h => cases h; exact ⟨tyX0, tyX0_ok, nmX0⟩
  | 1, h => cases h; exact ⟨tyX1, tyX1_ok, nmX1⟩
  | 2, h => cases h; exact ⟨tyX2, tyX2_ok, nmX2⟩
  | 3, h => cases h; exact ⟨tyX3, tyX3_ok, nmX3⟩
  | 4, h => cases h; exact ⟨tyX4, tyX4_ok, nmX4⟩
  | 5, h => cases h; exact ⟨tyX5, tyX5_ok, nmX5⟩
  | 6, h => cases h; exact ⟨tyX6, tyX6_ok, nmX6⟩
  | k + 7, h => cases h
theorem ov_cl7 {ci : Nat} {C : String} {T : u_T} {N : Nat} (h : vwCl[ci]? = some (C, T, N)) : ci < 7 := (List.getElem?_eq_some_iff.mp h).1
theorem ov_at_o {cy : Nat → ClassId} {ad : Nat → Nat} {σ : ovSt} {S : ovSh} {i ci ln : Nat} {rs : List (Option Nat)} (h : S[i]? = some (ci, ln, rs)) (hc : ci < 7) : (ov_ws cy ad σ 0 S)[i]? = some (ad i, .inr (ci, ov_fl ad (σ i) 0 rs)) := by
  rw [ov_ws_at h]
  simp [ov_ce, hc]
theorem ov_at_i {cy : Nat → ClassId} {ad : Nat → Nat} {σ : ovSt} {S : ovSh} {i kd ln : Nat} {rs : List (Option Nat)} (h : S[i]? = some (kd, ln, rs)) (h1 : ¬ kd < 7) (h2 : kd < 11) : (ov_ws cy ad σ 0 S)[i]? = some (ad i, .inl (cy kd, ln, .inl (σ i))) := by
  rw [ov_ws_at h]
  simp [ov_ce, h1, h2]
theorem ov_at_q {cy : Nat → ClassId} {ad : Nat → Nat} {σ : ovSt} {S : ovSh} {i kd ln : Nat} {rs : List (Option Nat)} (h : S[i]? = some (kd, ln, rs)) (h1 : ¬ kd < 7) (h2 : ¬ kd < 11) : (ov_ws cy ad σ 0 S)[i]? = some (ad i, .inl (cy kd, ln, .inr (.inr (.inr (.inr (fun k => ((rs[k]?).getD none).bind (ov_rq ad))))))) := by
  rw [ov_ws_at h]
  simp [ov_ce, h1, h2]
theorem ov_set_o {cy : Nat → ClassId} {ad : Nat → Nat} {σ : ovSt} {S : ovSh} {i ci ln kf : Nat} {rs : List (Option Nat)} (h : S[i]? = some (ci, ln, rs)) (hc : ci < 7) (hr : rs[kf]? = some none) (v : Int32) : (ov_ws cy ad σ 0 S).set i (ad i, .inr (ci, (ov_fl ad (σ i) 0 rs).set kf (.int v))) = ov_ws cy ad (ov_up σ i kf v) 0 S := by
  rw [ov_fl_set hr, ← ov_row_up, ← ov_ws_set h]
  simp [ov_ce, hc]
theorem ov_set_i {cy : Nat → ClassId} {ad : Nat → Nat} {σ : ovSt} {S : ovSh} {i kd ln : Nat} {rs : List (Option Nat)} (h : S[i]? = some (kd, ln, rs)) (h1 : ¬ kd < 7) (h2 : kd < 11) (f : Nat → Int32) : (ov_ws cy ad σ 0 S).set i (ad i, .inl (cy kd, ln, .inl f)) = ov_ws cy ad (ov_row σ i f) 0 S := by
  rw [← ov_ws_set h]
  simp [ov_ce, h1, h2]
/-! ===== rows ===== -/
theorem ov_br {c A B G : Prop} [Decidable c] (hF : if c then A else B) (h1 : c → A → G) (h2 : ¬ c → B → G) : G := by
  by_cases z : c
  · rw [if_pos z] at hF; exact h1 z hF
  · rw [if_neg z] at hF; exact h2 z hF
section OVH
variable {Z : ovZ} {k : ovK} {n : Nat × Nat} {S : ovSh} {pc : Nat} {L : List (Nat × Value)} {st : List Value} {σ : ovSt}
theorem ov_nmI {x : Int32} (h : ∀ v : Int32, v = x → ov_V Z k n S pc L (.int v :: st) σ) : ov_V Z k n S pc L (.int x :: st) σ := h x rfl
theorem ov_nmL {x : Int64} (h : ∀ v : Int64, v = x → ov_V Z k n S pc L (.long v :: st) σ) : ov_V Z k n S pc L (.long x :: st) σ := h x rfl
theorem ov_nmS (h : ∀ σ' : ovSt, σ' = σ → ov_V Z k n S pc L st σ') : ov_V Z k n S pc L st σ := h σ rfl
theorem ov_geti {index i ci ln kf N : Nat} {rs : List (Option Nat)} {C : String} {T : u_T} (hd : decode Z.2.1.2.1 pc = .ok (.getfield index, 3)) (hw : Cond.fieldLink Z.2.1.1.cls index (T kf).1 (T kf).2.1 (T kf).2.2.1 ∈ gW) (hS : S[i]? = some (ci, ln, rs)) (hc : vwCl[ci]? = some (C, T, N)) (hk : kf < N) (hr : rs[kf]? = some none) (h : ov_V Z k n S (pc + 3) L (.int (σ i kf) :: st) σ) : ov_V Z k n S pc L (.ref i :: st) σ := by
  intro p l e R s m args below meth c Q D cy A ad0 ad H locs ls hC hT hE hW hl
  exact va_get hC.1 hC.2.1 hC.2.2.2.2.1 (ov_gc hc) hC.2.2.2.1 hE.1 hW.1 i (ov_at_o hS (ov_cl7 hc)) hc kf hk (hC.2.2.2.2.1 _ hw) (fun _ h9 => h9) (v := .int (σ i kf)) (by rw [ov_fl_get, hr]; simp [ov_fv]) hd (h p l e R s m args below meth c Q D cy A ad0 ad H locs ls hC hT hE hW hl)
theorem ov_getr {index i ci ln kf N j : Nat} {rs : List (Option Nat)} {C : String} {T : u_T} (hd : decode Z.2.1.2.1 pc = .ok (.getfield index, 3)) (hw : Cond.fieldLink Z.2.1.1.cls index (T kf).1 (T kf).2.1 (T kf).2.2.1 ∈ gW) (hS : S[i]? = some (ci, ln, rs)) (hc : vwCl[ci]? = some (C, T, N)) (hk : kf < N) (hr : rs[kf]? = some (some j)) (hj : ¬ j = 9999) (h : ov_V Z k n S (pc + 3) L (.ref j :: st) σ) : ov_V Z k n S pc L (.ref i :: st) σ := by
  intro p l e R s m args below meth c Q D cy A ad0 ad H locs ls hC hT hE hW hl
  exact va_get hC.1 hC.2.1 hC.2.2.2.2.1 (ov_gc hc) hC.2.2.2.1 hE.1 hW.1 i (ov_at_o hS (ov_cl7 hc)) hc kf hk (hC.2.2.2.2.1 _ hw) (fun _ h9 => h9) (v := .ref (ad j)) (by rw [ov_fl_get, hr]; simp [ov_fv, ov_rq, va_rf, hj]) hd (h p l e R s m args below meth c Q D cy A ad0 ad H locs ls hC hT hE hW hl)
theorem ov_puti {index i ci ln kf N : Nat} {x : Int32} {rs : List (Option Nat)} {C : String} {T : u_T} (hd : decode Z.2.1.2.1 pc = .ok (.putfield index, 3)) (hw : Cond.fieldLink Z.2.1.1.cls index (T kf).1 (T kf).2.1 (T kf).2.2.1 ∈ gW) (hS : S[i]? = some (ci, ln, rs)) (hc : vwCl[ci]? = some (C, T, N)) (hk : kf < N) (hr : rs[kf]? = some none) (hfin : (T kf).2.2.2 = false) (hp : parseFieldDescriptor (T kf).2.2.1 = some .int) (h : ov_V Z k n S (pc + 3) L st (ov_up σ i kf x)) : ov_V Z k n S pc L (.int x :: .ref i :: st) σ := by
  intro p l e R s m args below meth c Q D cy A ad0 ad H locs ls hC hT hE hW hl
  obtain ⟨ty0, hty, hnm⟩ := ov_gt hc
  refine va_put (v := .int x) hC.1 hC.2.1 hC.2.2.2.2.1 (ov_gc hc) ty0 hty hnm hC.2.2.2.1 hE.1 hW.1 hW.2.1 hW.2.2 i (ov_at_o hS (ov_cl7 hc)) hc kf hk (hC.2.2.2.2.1 _ hw) (fun _ h9 => h9) hfin hp (vp_nar_int x) rfl (by rw [ov_fl_len]; exact (List.getElem?_eq_some_iff.mp hr).1) hd (fun H1 locs1 hP1 hD1 hS1 => ?_)
  rw [ov_set_o hS (ov_cl7 hc) hr] at hP1 hD1
  exact h p l e R s m args below meth c Q D cy A ad0 ad H1 locs1 ls hC hT hE ⟨hP1, hD1, hS1⟩ hl
theorem ov_putz {index i ci ln kf N : Nat} {x : Int32} {rs : List (Option Nat)} {C : String} {T : u_T} (hn : narrow .boolean (.int x) = .int x) (hf : fits .boolean (.int x) = true) (hd : decode Z.2.1.2.1 pc = .ok (.putfield index, 3)) (hw : Cond.fieldLink Z.2.1.1.cls index (T kf).1 (T kf).2.1 (T kf).2.2.1 ∈ gW) (hS : S[i]? = some (ci, ln, rs)) (hc : vwCl[ci]? = some (C, T, N)) (hk : kf < N) (hr : rs[kf]? = some none) (hfin : (T kf).2.2.2 = false) (hp : parseFieldDescriptor (T kf).2.2.1 = some .boolean) (h : ov_V Z k n S (pc + 3) L st (ov_up σ i kf x)) : ov_V Z k n S pc L (.int x :: .ref i :: st) σ := by
  intro p l e R s m args below meth c Q D cy A ad0 ad H locs ls hC hT hE hW hl
  obtain ⟨ty0, hty, hnm⟩ := ov_gt hc
  refine va_put (v := .int x) hC.1 hC.2.1 hC.2.2.2.2.1 (ov_gc hc) ty0 hty hnm hC.2.2.2.1 hE.1 hW.1 hW.2.1 hW.2.2 i (ov_at_o hS (ov_cl7 hc)) hc kf hk (hC.2.2.2.2.1 _ hw) (fun _ h9 => h9) hfin hp hn hf (by rw [ov_fl_len]; exact (List.getElem?_eq_some_iff.mp hr).1) hd (fun H1 locs1 hP1 hD1 hS1 => ?_)
  rw [ov_set_o hS (ov_cl7 hc) hr] at hP1 hD1
  exact h p l e R s m args below meth c Q D cy A ad0 ad H1 locs1 ls hC hT hE ⟨hP1, hD1, hS1⟩ hl
theorem ov_iaload {i ln : Nat} {x : Int32} {rs : List (Option Nat)} (hd : decode Z.2.1.2.1 pc = .ok (.iaload, 1)) (hS : S[i]? = some (9, ln, rs)) (hi : vp_in x ln) (h : ov_V Z k n S (pc + 1) L (.int (σ i x.toNatClampNeg) :: st) σ) : ov_V Z k n S pc L (.int x :: .ref i :: st) σ := by
  intro p l e R s m args below meth c Q D cy A ad0 ad H locs ls hC hT hE hW hl
  exact va_iald hC.1 hC.2.1 hE.1 hW.1 i 2 (ov_at_i hS (by decide) (by decide)) rfl hi hd (h p l e R s m args below meth c Q D cy A ad0 ad H locs ls hC hT hE hW hl)
theorem ov_baload {i ln : Nat} {x : Int32} {rs : List (Option Nat)} (hd : decode Z.2.1.2.1 pc = .ok (.baload, 1)) (hS : S[i]? = some (7, ln, rs)) (hi : vp_in x ln) (h : ov_V Z k n S (pc + 1) L (.int (σ i x.toNatClampNeg) :: st) σ) : ov_V Z k n S pc L (.int x :: .ref i :: st) σ := by
  intro p l e R s m args below meth c Q D cy A ad0 ad H locs ls hC hT hE hW hl
  exact va_bald hC.1 hC.2.1 hE.1 hW.1 i 0 (ov_at_i hS (by decide) (by decide)) rfl hi hd (h p l e R s m args below meth c Q D cy A ad0 ad H locs ls hC hT hE hW hl)
theorem ov_zaload {i ln : Nat} {x : Int32} {rs : List (Option Nat)} (hd : decode Z.2.1.2.1 pc = .ok (.baload, 1)) (hS : S[i]? = some (10, ln, rs)) (hi : vp_in x ln) (h : ov_V Z k n S (pc + 1) L (.int (σ i x.toNatClampNeg) :: st) σ) : ov_V Z k n S pc L (.int x :: .ref i :: st) σ := by
  intro p l e R s m args below meth c Q D cy A ad0 ad H locs ls hC hT hE hW hl
  exact va_zald hC.1 hC.2.1 hE.1 hW.1 i 3 (ov_at_i hS (by decide) (by decide)) rfl hi hd (h p l e R s m args below meth c Q D cy A ad0 ad H locs ls hC hT hE hW hl)
theorem ov_caload {i ln : Nat} {x : Int32} {rs : List (Option Nat)} (hd : decode Z.2.1.2.1 pc = .ok (.caload, 1)) (hS : S[i]? = some (8, ln, rs)) (hi : vp_in x ln) (h : ov_V Z k n S (pc + 1) L (.int (σ i x.toNatClampNeg) :: st) σ) : ov_V Z k n S pc L (.int x :: .ref i :: st) σ := by
  intro p l e R s m args below meth c Q D cy A ad0 ad H locs ls hC hT hE hW hl
  exact va_cald hC.1 hC.2.1 hE.1 hW.1 i 1 (ov_at_i hS (by decide) (by decide)) rfl hi hd (h p l e R s m args below meth c Q D cy A ad0 ad H locs ls hC hT hE hW hl)
theorem ov_iastore {i ln : Nat} {x j : Int32} {rs : List (Option Nat)} (hd : decode Z.2.1.2.1 pc = .ok (.iastore, 1)) (hS : S[i]? = some (9, ln, rs)) (hi : vp_in j ln) (h : ov_V Z k n S (pc + 1) L st (ov_up σ i j.toNatClampNeg x)) : ov_V Z k n S pc L (.int x :: .int j :: .ref i :: st) σ := by
  intro p l e R s m args below meth c Q D cy A ad0 ad H locs ls hC hT hE hW hl
  refine va_iast hC.1 hC.2.1 hE.1 hW.1 hW.2.1 hW.2.2 i 2 (ov_at_i hS (by decide) (by decide)) rfl hi hd (fun H1 locs1 hP1 hD1 hS1 => ?_)
  rw [ov_set_i hS (by decide) (by decide)] at hP1 hD1
  exact h p l e R s m args below meth c Q D cy A ad0 ad H1 locs1 ls hC hT hE ⟨hP1, hD1, hS1⟩ hl
theorem ov_bastore {i ln : Nat} {x j : Int32} {rs : List (Option Nat)} (hd : decode Z.2.1.2.1 pc = .ok (.bastore, 1)) (hS : S[i]? = some (7, ln, rs)) (hi : vp_in j ln) (h : ov_V Z k n S (pc + 1) L st (ov_up σ i j.toNatClampNeg (vp_nar .byte x))) : ov_V Z k n S pc L (.int x :: .int j :: .ref i :: st) σ := by
  intro p l e R s m args below meth c Q D cy A ad0 ad H locs ls hC hT hE hW hl
  refine va_bast hC.1 hC.2.1 hE.1 hW.1 hW.2.1 hW.2.2 i 0 (ov_at_i hS (by decide) (by decide)) rfl hi hd (fun H1 locs1 hP1 hD1 hS1 => ?_)
  rw [ov_set_i hS (by decide) (by decide)] at hP1 hD1
  exact h p l e R s m args below meth c Q D cy A ad0 ad H1 locs1 ls hC hT hE ⟨hP1, hD1, hS1⟩ hl
theorem ov_zastore {i ln : Nat} {x j : Int32} {rs : List (Option Nat)} (hd : decode Z.2.1.2.1 pc = .ok (.bastore, 1)) (hS : S[i]? = some (10, ln, rs)) (hi : vp_in j ln) (h : ov_V Z k n S (pc + 1) L st (ov_up σ i j.toNatClampNeg (vp_nar .boolean x))) : ov_V Z k n S pc L (.int x :: .int j :: .ref i :: st) σ := by
  intro p l e R s m args below meth c Q D cy A ad0 ad H locs ls hC hT hE hW hl
  refine va_zast hC.1 hC.2.1 hE.1 hW.1 hW.2.1 hW.2.2 i 3 (ov_at_i hS (by decide) (by decide)) rfl hi hd (fun H1 locs1 hP1 hD1 hS1 => ?_)
  rw [ov_set_i hS (by decide) (by decide)] at hP1 hD1
  exact h p l e R s m args below meth c Q D cy A ad0 ad H1 locs1 ls hC hT hE ⟨hP1, hD1, hS1⟩ hl
theorem ov_castore {i ln : Nat} {x j : Int32} {rs : List (Option Nat)} (hd : decode Z.2.1.2.1 pc = .ok (.castore, 1)) (hS : S[i]? = some (8, ln, rs)) (hi : vp_in j ln) (h : ov_V Z k n S (pc + 1) L st (ov_up σ i j.toNatClampNeg (vp_nar .char x))) : ov_V Z k n S pc L (.int x :: .int j :: .ref i :: st) σ := by
  intro p l e R s m args below meth c Q D cy A ad0 ad H locs ls hC hT hE hW hl
  refine va_cast hC.1 hC.2.1 hE.1 hW.1 hW.2.1 hW.2.2 i 1 (ov_at_i hS (by decide) (by decide)) rfl hi hd (fun H1 locs1 hP1 hD1 hS1 => ?_)
  rw [ov_set_i hS (by decide) (by decide)] at hP1 hD1
  exact h p l e R s m args below meth c Q D cy A ad0 ad H1 locs1 ls hC hT hE ⟨hP1, hD1, hS1⟩ hl
theorem ov_aaloadR {i ln j : Nat} {x : Int32} {rs : List (Option Nat)} (hd : decode Z.2.1.2.1 pc = .ok (.aaload, 1)) (hS : S[i]? = some (11, ln, rs)) (hi : vp_in x ln) (hr : rs[x.toNatClampNeg]? = some (some j)) (hj : ¬ j = 9999) (h : ov_V Z k n S (pc + 1) L (.ref j :: st) σ) : ov_V Z k n S pc L (.int x :: .ref i :: st) σ := by
  intro p l e R s m args below meth c Q D cy A ad0 ad H locs ls hC hT hE hW hl
  refine va_aldq hC.1 hC.2.1 hE.1 hW.1 i 4 (ov_at_q hS (by decide) (by decide)) rfl hi hd ?_
  rw [hr, show va_rf ((((some (some j) : Option (Option Nat)).getD none)).bind (ov_rq ad)) = .ref (ad j) by simp [ov_rq, va_rf, hj]]
  exact (h p l e R s m args below meth c Q D cy A ad0 ad H locs ls hC hT hE hW hl)
theorem ov_aaloadS {i ln j : Nat} {x : Int32} {rs : List (Option Nat)} (hd : decode Z.2.1.2.1 pc = .ok (.aaload, 1)) (hS : S[i]? = some (12, ln, rs)) (hi : vp_in x ln) (hr : rs[x.toNatClampNeg]? = some (some j)) (hj : ¬ j = 9999) (h : ov_V Z k n S (pc + 1) L (.ref j :: st) σ) : ov_V Z k n S pc L (.int x :: .ref i :: st) σ := by
  intro p l e R s m args below meth c Q D cy A ad0 ad H locs ls hC hT hE hW hl
  refine va_aldq hC.1 hC.2.1 hE.1 hW.1 i 5 (ov_at_q hS (by decide) (by decide)) rfl hi hd ?_
  rw [hr, show va_rf ((((some (some j) : Option (Option Nat)).getD none)).bind (ov_rq ad)) = .ref (ad j) by simp [ov_rq, va_rf, hj]]
  exact (h p l e R s m args below meth c Q D cy A ad0 ad H locs ls hC hT hE hW hl)
theorem ov_aaloadI {i ln j : Nat} {x : Int32} {rs : List (Option Nat)} (hd : decode Z.2.1.2.1 pc = .ok (.aaload, 1)) (hS : S[i]? = some (13, ln, rs)) (hi : vp_in x ln) (hr : rs[x.toNatClampNeg]? = some (some j)) (hj : ¬ j = 9999) (h : ov_V Z k n S (pc + 1) L (.ref j :: st) σ) : ov_V Z k n S pc L (.int x :: .ref i :: st) σ := by
  intro p l e R s m args below meth c Q D cy A ad0 ad H locs ls hC hT hE hW hl
  have hlt : x.toNatClampNeg < ln := Nat.not_le.mp fun q => hi (Or.inr q)
  have ee : va_rf (((rs[x.toNatClampNeg]?).getD none).bind (ov_rq ad)) = .ref (ad j) := by simp [hr, ov_rq, va_rf, hj]
  exact W.aald (v := .ref (ad j)) (ty := .array .int) hC.1 hC.2.1 (hW.1 i _ (ov_at_q hS (by decide) (by decide))) ((hE.1.2 6 _ rfl).1 ln (fun q => va_rf (((rs[q]?).getD none).bind (ov_rq ad)))) rfl (fun q => by cases q) (by show ¬ (x < 0 ∨ (arrV _ _ _).slots.size ≤ _); rw [arrV_size]; exact hi) (by show (arrV _ _ _).slots[_]? = _; rw [arrV_read _ _ hlt, ee]) rfl rfl hd (h p l e R s m args below meth c Q D cy A ad0 ad H locs ls hC hT hE hW hl)
theorem ov_above {index : Nat} (hd : decode Z.2.1.2.1 pc = .ok (.getstatic index, 3)) (hw : Cond.fieldLink Z.2.1.1.cls index "OldPot" "ABOVE" "[I" ∈ gW) (h : ov_V Z k n S (pc + 3) L (.ref 5000 :: st) σ) : ov_V Z k n S pc L st σ := by
  intro p l e R s m args below meth c Q D cy A ad0 ad H locs ls hC hT hE hW hl
  exact va_gets hC.1 hC.2.1 hE.2.2.1.1.1 hW.2.2 hC.2.2.2.1 (hC.2.2.2.2.1 _ hw) (fun _ h9 => h9) hd (h p l e R s m args below meth c Q D cy A ad0 ad H locs ls hC hT hE hW hl)
theorem ov_aboveld {x : Int32} (hd : decode Z.2.1.2.1 pc = .ok (.iaload, 1)) (hi : vp_in x 6) (h : ov_V Z k n S (pc + 1) L (.int (ov_abv x.toNatClampNeg) :: st) σ) : ov_V Z k n S pc L (.int x :: .ref 5000 :: st) σ := by
  intro p l e R s m args below meth c Q D cy A ad0 ad H locs ls hC hT hE hW hl
  exact va_ti hC.1 hC.2.1 hE.2.2.1.1.2 hW.2.2 hi rfl hd (h p l e R s m args below meth c Q D cy A ad0 ad H locs ls hC hT hE hW hl)
theorem ov_ireturn {x : Int32} (hd : decode Z.2.1.2.1 pc = .ok (.ireturn, 1)) (h1 : n.1 ≤ Z.2.2.2.1.1) (h2 : n.2 ≤ Z.2.2.2.1.2) (h : k (some (.int x)) S σ) : ov_V Z k n S pc L [.int x] σ := by
  intro p l e R s m args below meth c Q D cy A ad0 ad H locs ls hC hT hE hW hl
  exact W.widen h1 h2 (hT ad H locs ls pc S σ (some (.int x)) hE.2.2.2.2 hW h hd)
theorem ov_lreturn {x : Int64} (hd : decode Z.2.1.2.1 pc = .ok (.lreturn, 1)) (h1 : n.1 ≤ Z.2.2.2.1.1) (h2 : n.2 ≤ Z.2.2.2.1.2) (h : k (some (.long x)) S σ) : ov_V Z k n S pc L [.long x] σ := by
  intro p l e R s m args below meth c Q D cy A ad0 ad H locs ls hC hT hE hW hl
  exact W.widen h1 h2 (hT ad H locs ls pc S σ (some (.long x)) hE.2.2.2.2 hW h hd)
theorem ov_areturn {x : Nat} (hd : decode Z.2.1.2.1 pc = .ok (.areturn, 1)) (h1 : n.1 ≤ Z.2.2.2.1.1) (h2 : n.2 ≤ Z.2.2.2.1.2) (h : k (some (.ref x)) S σ) : ov_V Z k n S pc L [.ref x] σ := by
  intro p l e R s m args below meth c Q D cy A ad0 ad H locs ls hC hT hE hW hl
  exact W.widen h1 h2 (hT ad H locs ls pc S σ (some (.ref x)) hE.2.2.2.2 hW h hd)
theorem ov_return (hd : decode Z.2.1.2.1 pc = .ok (.return_, 1)) (h1 : n.1 ≤ Z.2.2.2.1.1) (h2 : n.2 ≤ Z.2.2.2.1.2) (h : k none S σ) : ov_V Z k n S pc L [] σ := by
  intro p l e R s m args below meth c Q D cy A ad0 ad H locs ls hC hT hE hW hl
  exact W.widen h1 h2 (hT ad H locs ls pc S σ none hE.2.2.2.2 hW h hd)
theorem ov_tin {dflt lo hi : Int} {offs : Array Int} {len : Nat} {x : Int32} (v : Int32) (off : Int) (tgt : Nat) (hd : decode Z.2.1.2.1 pc = .ok (.tableswitch dflt lo hi offs, len)) (hx : x = v) (h1 : ¬ v.toInt < lo) (h2 : ¬ hi < v.toInt) (ho : offs[(v.toInt - lo).toNat]? = some off) (ht : (pc : Int) + off = (tgt : Int)) (h : ov_V Z k n S tgt L st σ) : ov_V Z k n S pc L (.int x :: st) σ := by
  intro p l e R s m args below meth c Q D cy A ad0 ad H locs ls hC hT hE hW hl
  subst hx
  exact lv_tableIn hC.1 hC.2.1 hd h1 h2 ho ht (h p l e R s m args below meth c Q D cy A ad0 ad H locs ls hC hT hE hW hl)
theorem ov_tout {dflt lo hi : Int} {offs : Array Int} {len : Nat} {x : Int32} (tgt : Nat) (hd : decode Z.2.1.2.1 pc = .ok (.tableswitch dflt lo hi offs, len)) (hx : x.toInt < lo ∨ hi < x.toInt) (ht : (pc : Int) + dflt = (tgt : Int)) (h : ov_V Z k n S tgt L st σ) : ov_V Z k n S pc L (.int x :: st) σ := by
  intro p l e R s m args below meth c Q D cy A ad0 ad H locs ls hC hT hE hW hl
  exact lv_tableOut hC.1 hC.2.1 hd hx ht (h p l e R s m args below meth c Q D cy A ad0 ad H locs ls hC hT hE hW hl)
theorem ov_lsw {dflt : Int} {ps : Array (Int × Int)} {len : Nat} {x : Int32} (off : Int) (tgt : Nat) (hd : decode Z.2.1.2.1 pc = .ok (.lookupswitch dflt ps, len)) (hp : (ps.toList.zip (ps.toList.drop 1)).all (fun (a, next) => a.1 < next.1) = true) (ho : Op.lookupswitch.offset ps.toList dflt x.toInt = off) (ht : (pc : Int) + off = (tgt : Int)) (h : ov_V Z k n S tgt L st σ) : ov_V Z k n S pc L (.int x :: st) σ := by
  intro p l e R s m args below meth c Q D cy A ad0 ad H locs ls hC hT hE hW hl
  exact lv_lookup hC.1 hC.2.1 hd hp ho ht (h p l e R s m args below meth c Q D cy A ad0 ad H locs ls hC hT hE hW hl)
end OVH
