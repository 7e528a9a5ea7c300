/-! ===== the model's reader is the two-stack reader ===== -/
theorem e6_rank (x : Int32) (σ : ovSt) (k : Int32 → ovSt → Prop) : F_X6_rank x σ k = k (nI (mc_rk x)) σ := by
  unfold F_X6_rank F_X6_rank_51 mc_rk
  by_cases a : x = -1
  · rw [if_pos a, if_pos a]; rfl
  rw [if_neg a, if_neg a]
  by_cases b : x = -2
  · rw [if_pos b, if_pos b]; rfl
  rw [if_neg b, if_neg b]
  by_cases c : x < -5
  · rw [if_pos c, if_pos c]
    by_cases d : x < -7
    · rw [if_pos d, if_pos d]
      by_cases e : x < -9
      · rw [if_pos e, if_pos e]; rfl
      · rw [if_neg e, if_neg e]; rfl
    · rw [if_neg d, if_neg d]; rfl
  · rw [if_neg c, if_neg c]; rfl
theorem mc_rk_le (m : Int32) : mc_rk m ≤ 6 := by
  unfold mc_rk
  repeat' split
  all_goals omega
def mr_R (σ : ovSt) (W C : List Int32) : Prop := σ 74 18 = nI C.length ∧ σ 74 19 = nI (tk_lv C) ∧ σ 74 21 = nI W.length ∧ pu_rep (σ 85) W ∧ ∀ i, i < C.length → σ 84 i = C.getD i 0
/-- what settling changes -/
def ms_f (σ σ' : ovSt) : Prop := pu_ag (fun i => i = 74 ∨ i = 84) σ σ' ∧ ∀ q, q ≠ 18 → q ≠ 21 → σ' 74 q = σ 74 q
theorem ms_f.rf (σ : ovSt) : ms_f σ σ := ⟨pu_ag.rf _ σ, fun _ _ _ => rfl⟩
theorem ms_f.tr {a b c : ovSt} (h1 : ms_f a b) (h2 : ms_f b c) : ms_f a c := ⟨h1.1.tr h2.1, fun q x y => (h2.2 q x y).trans (h1.2 q x y)⟩
theorem p6_settle {r : Nat} (hr : r ≤ 6) {k : ovSt → Prop} : ∀ (W C : List Int32) (σ : ovSt), (∀ m, m ∈ W → m < 0) → C.length + W.length ≤ 96 → mr_R σ W C → (∀ σ', ms_f σ σ' → mr_R σ' (mc_sp r W).2 (C ++ (mc_sp r W).1) → k σ') → F_X6_settle_0 k (W.length + 1) (nI r) σ
  | [], C, σ, hneg, hlen, hR, h => by
    unfold F_X6_settle_0 F_X6_settle_82
    rw [hR.2.2.1, if_pos (by decide)]
    refine h σ (ms_f.rf σ) ?_
    show mr_R σ [] (C ++ [])
    rw [List.append_nil]; exact hR
  | m :: W, C, σ, hneg, hlen, hR, h => by
    obtain ⟨r1, r2, r3, r4, r5⟩ := hR
    rw [List.length_cons] at hlen r3
    unfold F_X6_settle_0 F_X6_settle_82
    have stop : (mc_sp r (m :: W) = ([], m :: W)) → k σ := by
      intro e
      refine h σ (ms_f.rf σ) ?_
      rw [e]
      show mr_R σ (m :: W) (C ++ [])
      rw [List.append_nil]
      exact ⟨r1, r2, r3, r4, r5⟩
    rw [r3, if_neg (show ¬ nI (W.length + 1) ≤ 0 from by rw [show (0 : Int32) = nI 0 from rfl, nI_leI (by omega) (by omega)]; omega), nI_pred, pu_cl (by omega), r4.1]
    refine ⟨vp_in_nI (by omega) (by omega), ?_⟩
    by_cases z : m = -11
    · rw [if_pos z]
      exact stop (by unfold mc_sp; rw [if_pos z])
    rw [if_neg z, e6_rank]
    have hk := mc_rk_le m
    by_cases y : mc_rk m < r
    · rw [if_pos (nI_lt y (by omega))]
      exact stop (by unfold mc_sp; rw [if_neg z, if_pos y])
    rw [if_neg (by rw [nI_ltI (by omega) (by omega)]; exact y), r3, nI_pred]
    intro σ4 e4
    have f21 : σ4 74 21 = nI W.length := by rw [e4, pu_up_same, pu_ue]
    have f18 : σ4 74 18 = nI C.length := by rw [e4, pu_up_same, pu_un (by omega), r1]
    rw [f21, f18, pu_cl (by omega), pu_cl (by omega)]
    refine ⟨vp_in_nI (by omega) (by omega), vp_in_nI (by omega) (by omega), ?_⟩
    rw [show σ4 85 W.length = m from by rw [e4, pu_up_ne (by omega)]; exact r4.1]
    intro σ7 e7 σ8 e8
    rw [show σ7 74 18 = nI C.length from by rw [e7, pu_up_ne (by omega), f18], ← nI_succ] at e8
    have q8 : ms_f σ σ8 := by
      refine ⟨?_, fun q x y => ?_⟩
      · rw [e8]; refine pu_ag.up ?_ (Or.inl rfl)
        rw [e7]; refine pu_ag.up ?_ (Or.inr rfl)
        rw [e4]; exact pu_ag.up1 (Or.inl rfl)
      · rw [e8, pu_up_same, pu_un x, e7, pu_up_ne (by omega), e4, pu_up_same, pu_un y]
    have hm : m < 0 := hneg m List.mem_cons_self
    refine p6_settle hr W (C ++ [m]) σ8 (fun x hx => hneg x (List.mem_cons_of_mem _ hx)) (by rw [List.length_append]; have e : [m].length = 1 := rfl; omega) ⟨?_, ?_, ?_, ?_, fun i hi => ?_⟩ (fun σ9 f9 R9 => h σ9 (q8.tr f9) ?_)
    · rw [e8, pu_up_same, pu_ue, List.length_append]; rfl
    · rw [q8.2 19 (by omega) (by omega), r2, tk_lv_app]
      show nI (tk_lv C) = nI (tk_lv C + ((if m < 0 then 0 else 1) + 0))
      rw [if_pos hm]; rfl
    · rw [e8, pu_up_same, pu_un (by omega), e7, pu_up_ne (by omega), f21]
    · rw [q8.1 85 (by omega)]; exact r4.2
    · rw [List.length_append] at hi
      have hi : i < C.length + 1 := hi
      rw [e8, pu_up_ne (by omega), e7, pu_up_same, e4, pu_up_ne (by omega)]
      by_cases w : i = C.length
      · rw [w, pu_ue, tk_getD_last]
      · rw [pu_un w, tk_getD_app (by omega)]; exact r5 i (by omega)
    · have e : mc_sp r (m :: W) = (m :: (mc_sp r W).1, (mc_sp r W).2) := by
        show (if m = -11 then _ else if mc_rk m < r then _ else _) = _
        rw [if_neg z, if_neg y]
      rw [e]
      show mr_R σ9 (mc_sp r W).2 (C ++ m :: (mc_sp r W).1)
      rw [show C ++ m :: (mc_sp r W).1 = C ++ [m] ++ (mc_sp r W).1 by rw [List.append_assoc]; rfl]
      exact R9
theorem p6_nots_loop {k : Int32 → ovSt → Prop} {W : List Int32} (hW : W.length ≤ 96) {σ : ovSt} (h21 : σ 74 21 = nI W.length) (hr : pu_rep (σ 85) W) (h : k (nI (mc_nt W)) σ) : ∀ (m j : Nat), j + m = W.length → F_X6_notsOpen_4 k (m + 1) (nI (mc_nt (W.drop m))) (nI j) σ
  | 0, j, hj => by
    unfold F_X6_notsOpen_4
    rw [h21, if_pos (nI_le (by omega) (by omega)), List.drop_zero]
    exact h
  | m + 1, j, hj => by
    obtain ⟨a, hd⟩ : ∃ a, W.drop m = a :: W.drop (m + 1) := ⟨_, List.drop_eq_getElem_cons (by omega)⟩
    have hrd : ∀ (V : List Int32) (m : Nat), pu_rep (σ 85) V → pu_rep (σ 85) (V.drop m) := by
      intro V
      induction V with
      | nil => intro m _; rw [List.drop_nil]; trivial
      | cons a V ih =>
        intro m hv
        cases m with
        | zero => exact hv
        | succ m => exact ih m hv.2
    have h2 := hrd W m hr
    rw [hd] at h2
    have l2 : (W.drop (m + 1)).length = j := by rw [List.length_drop]; omega
    have h85 : σ 85 j = a := by rw [← l2]; exact h2.1
    have ih := p6_nots_loop hW h21 hr h m (j + 1) (by omega)
    rw [hd] at ih
    unfold F_X6_notsOpen_4 F_X6_notsOpen_29
    rw [h21, if_neg (by rw [nI_leI (by omega) (by omega)]; omega), pu_cl (by omega), h85, show nI j + 1 = nI (j + 1) from (nI_succ j).symm]
    refine ⟨vp_in_nI (by omega) (by omega), ?_⟩
    have en : mc_nt (a :: W.drop (m + 1)) = (if a = -10 then 1 else 0) + mc_nt (W.drop (m + 1)) := rfl
    rw [en] at ih
    by_cases z : a = -10
    · rw [if_pos z] at ih ⊢
      intro v hv
      rw [hv, show nI (mc_nt (W.drop (m + 1))) + 1 = nI (1 + mc_nt (W.drop (m + 1))) from by rw [nI_1, Nat.add_comm]]
      exact ih
    · rw [if_neg z] at ih ⊢
      intro v hv
      rw [hv, Int32.add_zero]
      rw [Nat.zero_add] at ih
      exact ih
theorem p6_notsOpen {k : Int32 → ovSt → Prop} {W : List Int32} (hW : W.length ≤ 96) {σ : ovSt} (h21 : σ 74 21 = nI W.length) (hr : pu_rep (σ 85) W) (h : k (nI (mc_nt W)) σ) : F_X6_notsOpen σ k := by
  unfold F_X6_notsOpen
  refine ⟨W.length + 1, ?_⟩
  have q := p6_nots_loop hW h21 hr h W.length 0 (by omega)
  rw [List.drop_length] at q
  exact q
theorem e6_nameOf {key b : Nat} (hk : key < 3) (hb : b < 256) {σ : ovSt} (h14 : σ 74 14 = nI key) (k : Int32 → ovSt → Prop) : F_X6_nameOf (nI b) σ k = k (tk_nm key b) σ := by
  have e : ∀ c : Nat, c < 256 → (nI b = nI c ↔ c = b) := fun c hc => by rw [nI_eq (by omega) (by omega)]; exact ⟨fun q => q.symm, fun q => q.symm⟩
  unfold F_X6_nameOf F_X6_nameOf_63 F_X6_nameOf_85 F_X6_nameOf_107 tk_nm tk_ns
  rw [h14]
  rcases (show key = 0 ∨ key = 1 ∨ key = 2 by omega) with q | q | q
  · subst q
    rw [if_pos (show nI 0 = 0 from rfl), if_pos rfl]
    unfold tk_ix tk_ix tk_ix tk_ix
    by_cases a : 97 = b
    · rw [if_pos a, if_pos (show nI b = (97 : Int32) from (e 97 (by omega)).mpr a)]; rfl
    rw [if_neg a, if_neg (show ¬ nI b = (97 : Int32) from fun q => a ((e 97 (by omega)).mp q))]
    by_cases a2 : 103 = b
    · rw [if_pos a2, if_pos (show nI b = (103 : Int32) from (e 103 (by omega)).mpr a2)]; rfl
    rw [if_neg a2, if_neg (show ¬ nI b = (103 : Int32) from fun q => a2 ((e 103 (by omega)).mp q))]
    by_cases a3 : 116 = b
    · rw [if_pos a3, if_pos (show nI b = (116 : Int32) from (e 116 (by omega)).mpr a3)]; rfl
    rw [if_neg a3, if_neg (show ¬ nI b = (116 : Int32) from fun q => a3 ((e 116 (by omega)).mp q))]
  · subst q
    rw [if_neg (by decide), if_pos (show nI 1 = 1 from rfl), if_neg (show ¬ (1 : Nat) = 0 by decide), if_pos rfl]
    unfold tk_ix tk_ix tk_ix
    by_cases a : 116 = b
    · rw [if_pos a, if_pos (show nI b = (116 : Int32) from (e 116 (by omega)).mpr a)]; rfl
    rw [if_neg a, if_neg (show ¬ nI b = (116 : Int32) from fun q => a ((e 116 (by omega)).mp q))]
    by_cases a2 : 119 = b
    · rw [if_pos a2, if_pos (show nI b = (119 : Int32) from (e 119 (by omega)).mpr a2)]; rfl
    rw [if_neg a2, if_neg (show ¬ nI b = (119 : Int32) from fun q => a2 ((e 119 (by omega)).mp q))]
  · subst q
    rw [if_neg (by decide), if_neg (by decide), if_neg (show ¬ (2 : Nat) = 0 by decide), if_neg (show ¬ (2 : Nat) = 1 by decide)]
    unfold tk_ix tk_ix tk_ix
    by_cases a : 100 = b
    · rw [if_pos a, if_pos (show nI b = (100 : Int32) from (e 100 (by omega)).mpr a)]; rfl
    rw [if_neg a, if_neg (show ¬ nI b = (100 : Int32) from fun q => a ((e 100 (by omega)).mp q))]
    by_cases a2 : 116 = b
    · rw [if_pos a2, if_pos (show nI b = (116 : Int32) from (e 116 (by omega)).mpr a2)]; rfl
    rw [if_neg a2, if_neg (show ¬ nI b = (116 : Int32) from fun q => a2 ((e 116 (by omega)).mp q))]
theorem e6_signHere {σ : ovSt} {T : Nat → Nat} {n : Nat} {c : Int32 × Nat × Nat} (hM : tk_M σ T c) (hg : tk_gd T n c) (k : Int32 → ovSt → Prop) : F_X6_signHere σ k = k (mc_sg c.1) σ := by
  obtain ⟨-, -, m11, -, -, m12, -, -⟩ := hM
  unfold F_X6_signHere
  rw [m11]
  by_cases z : tk_m c.1 = 3
  · rw [if_pos z, m12 z]
    unfold mc_sg
    repeat' split
    all_goals rfl
  · rw [if_neg z]
    have e : mc_sg c.1 = 0 := by
      rcases hg.2.2.2 with q | q | q | q | ⟨b, hb, q⟩
      · rw [q]; decide
      · rw [q]; decide
      · rw [q]; decide
      · rw [q]; decide
      · rw [q] at z; exact absurd (tk_m_sign hb) z
    rw [e]
theorem tk_M.goE {σ : ovSt} {T : Nat → Nat} {c : Int32 × Nat × Nat} (hM : tk_M σ T c) (h : tk_wd c.1 = true ∨ tk_m c.1 = 3) : (tk_wd c.1 = true ∧ σ 74 13 = nI c.2.2) ∨ (tk_wd c.1 = false ∧ (σ 74 13).toInt < c.2.2) := by
  obtain ⟨-, -, -, -, -, -, m1, m2⟩ := hM
  by_cases z : tk_wd c.1 = true
  · exact Or.inl ⟨z, m1 z⟩
  · have z' : tk_wd c.1 = false := by
      cases hh : tk_wd c.1 with
      | true => exact absurd hh z
      | false => rfl
    exact Or.inr ⟨z', m2 (h.resolve_left z)⟩
/-- the model's whole state of reading -/
def mr_Z (q : Nat) : Prop := (9 ≤ q ∧ q ≤ 13) ∨ q = 18 ∨ q = 19 ∨ q = 21
def mr_f (σ σ' : ovSt) : Prop := pu_ag (fun i => i = 74 ∨ (84 ≤ i ∧ i ≤ 86)) σ σ' ∧ ∀ q, ¬ mr_Z q → σ' 74 q = σ 74 q
theorem mr_f.rf (σ : ovSt) : mr_f σ σ := ⟨pu_ag.rf _ σ, fun _ _ => rfl⟩
theorem mr_f.tr {a b c : ovSt} (h1 : mr_f a b) (h2 : mr_f b c) : mr_f a c := ⟨h1.1.tr h2.1, fun q x => (h2.2 q x).trans (h1.2 q x)⟩
theorem ms_f.m {a b : ovSt} (h : ms_f a b) : mr_f a b := ⟨h.1.mono (fun i hi => by omega), fun q hq => h.2 q (fun e => hq (by unfold mr_Z; omega)) (fun e => hq (by unfold mr_Z; omega))⟩
theorem tk_e74.m {a b : ovSt} (h : tk_e74 a b tk_Z6) : mr_f a b := ⟨h.1.mono (fun i hi => by omega), fun q hq => h.2 q (fun e => hq (by unfold tk_Z6 at e; unfold mr_Z; omega))⟩
theorem mr_f.up {a b : ovSt} (h : mr_f a b) {i q : Nat} (hi : 84 ≤ i ∧ i ≤ 86) (v : Int32) : mr_f a (ov_up b i q v) := ⟨pu_ag.up h.1 (Or.inr hi), fun j hj => by rw [pu_up_ne (by omega)]; exact h.2 j hj⟩
theorem mr_f.up74 {a b : ovSt} (h : mr_f a b) {q : Nat} (hq : mr_Z q) (v : Int32) : mr_f a (ov_up b 74 q v) := ⟨pu_ag.up h.1 (Or.inl rfl), fun j hj => by rw [pu_up_same, pu_un (fun e => hj (by rw [e]; exact hq))]; exact h.2 j hj⟩
def mr_S (σ : ovSt) (T : Nat → Nat) (n key : Nat) (c : Int32 × Nat × Nat) (p : Nat) (W C : List Int32) (t : Nat → Bool) : Prop :=
  tk_BM σ T n ∧ tk_M σ T c ∧ σ 74 14 = nI key ∧ mr_R σ W C ∧ ∀ i, i ≤ p → σ 86 i = (if t i = true then 1 else 0)
theorem tk_BM.f {σ σ' : ovSt} {T : Nat → Nat} {n : Nat} (h : tk_BM σ T n) (hf : mr_f σ σ') : tk_BM σ' T n := by
  obtain ⟨h1, h2, h3⟩ := h
  refine ⟨h1, by rw [hf.2 8 (by unfold mr_Z; omega)]; exact h2, fun i hi => ?_⟩
  rw [hf.1 81 (by omega)]
  exact h3 i hi
/-- going on to the next token -/
theorem mr_go {T : Nat → Nat} {n key : Nat} {c : Int32 × Nat × Nat} {W C : List Int32} {k : ovSt → Prop} {σ0 σ : ovSt} (hf : mr_f σ0 σ) (hB : tk_BM σ0 T n) (hM : tk_M σ0 T c) (h14 : σ0 74 14 = nI key) (hq : ∀ q, 9 ≤ q → q ≤ 13 → σ 74 q = σ0 74 q) (hok : tk_ok n c) (hw : tk_wd c.1 = true ∨ tk_m c.1 = 3) (hR : mr_R σ W C) (h : ∀ σ', mr_f σ σ' → σ' 86 = σ 86 → tk_BM σ' T n → tk_M σ' T (tk_nx T n c) → σ' 74 14 = nI key → mr_R σ' W C → k σ') : F_X6_go σ k := by
  have hE := hM.goE hw
  have B := hB.f hf
  refine p6_go (T := T) (n := n) (c := c) hok.2.1 B (by rw [hq 9 (by omega) (by omega)]; exact hM.1) (by rw [hq 13 (by omega) (by omega)]; exact hE) (fun σ1 e1 M1 => ?_)
  obtain ⟨r1, r2, r3, r4, r5⟩ := hR
  refine h σ1 e1.m (e1.1 86 (by omega)) (B.f e1.m) M1 ?_ ⟨?_, ?_, ?_, ?_, fun i hi => ?_⟩
  · rw [e1.2 14 (by unfold tk_Z6; omega), hf.2 14 (by unfold mr_Z; omega)]; exact h14
  · rw [e1.2 18 (by unfold tk_Z6; omega)]; exact r1
  · rw [e1.2 19 (by unfold tk_Z6; omega)]; exact r2
  · rw [e1.2 21 (by unfold tk_Z6; omega)]; exact r3
  · rw [e1.1 85 (by omega)]; exact r4
  · rw [e1.1 84 (by omega)]; exact r5 i hi
/-- a sign is pushed -/
theorem mr_push {W C : List Int32} {m : Int32} {σ σ1 σ2 : ovSt} (hR : mr_R σ W C) (e1 : σ1 = ov_up σ 85 W.length m) (e2 : σ2 = ov_up σ1 74 21 (nI (W.length + 1))) : mr_R σ2 (m :: W) C := by
  obtain ⟨r1, r2, r3, r4, r5⟩ := hR
  refine ⟨?_, ?_, ?_, ?_, fun i hi => ?_⟩
  · rw [e2, pu_up_same, pu_un (by omega), e1, pu_up_ne (by omega), r1]
  · rw [e2, pu_up_same, pu_un (by omega), e1, pu_up_ne (by omega), r2]
  · rw [e2, pu_up_same, pu_ue]; rfl
  · rw [e2, pu_up_ne (by omega), e1, pu_up_same]; exact pu_rep_push r4
  · rw [e2, pu_up_ne (by omega), e1, pu_up_ne (by omega)]; exact r5 i hi
