/-! ===== names and numbers ===== -/
theorem tk_run_all {f : Nat → Bool} : ∀ (m p i : Nat), p ≤ i → i < tk_run f m p → f i = true
  | 0, p, i, h1, h2 => by
    unfold tk_run at h2
    omega
  | m + 1, p, i, h1, h2 => by
    unfold tk_run at h2
    by_cases z : f p = true
    · rw [if_pos z] at h2
      by_cases y : i = p
      · rw [y]; exact z
      · exact tk_run_all m (p + 1) i (by omega) h2
    · rw [if_neg z] at h2
      omega
/-- a token as the tape gives it -/
def tk_gd (T : Nat → Nat) (n : Nat) (c : Int32 × Nat × Nat) : Prop := tk_ok n c ∧ (c.1 = -2 → tk_L (T c.2.1) = true) ∧ (c.1 = -3 → c.2.2 - c.2.1 ≤ 4 ∧ ∀ i, c.2.1 ≤ i → i < c.2.2 → tk_D (T i) = true) ∧ (c.1 = -1 ∨ c.1 = -2 ∨ c.1 = -3 ∨ c.1 = -4 ∨ ∃ b, b < 256 ∧ c.1 = nI b)
theorem tk_as_gd {T : Nat → Nat} {n s : Nat} (hT : ∀ i, i < n → T i < 256) (gl : Bool) (hs : s ≤ n) : tk_gd T n (tk_as T n gl s) := by
  refine ⟨(tk_as_ok gl hs).1, ?_⟩
  unfold tk_as
  by_cases z : n ≤ s
  · rw [if_pos z]
    exact ⟨fun q => absurd (show (-1 : Int32) = -2 from q) (by decide), fun q => absurd (show (-1 : Int32) = -3 from q) (by decide), Or.inl rfl⟩
  rw [if_neg z]
  by_cases zl : tk_L (T s) = true
  · rw [if_pos zl]
    refine ⟨fun _ => zl, fun q => ?_, ?_⟩
    · have q : (if gl = true then (-4 : Int32) else -2) = -3 := q
      cases gl with
      | true => exact absurd (show (-4 : Int32) = -3 from q) (by decide)
      | false => exact absurd (show (-2 : Int32) = -3 from q) (by decide)
    · cases gl with
      | true => exact Or.inr (Or.inr (Or.inr (Or.inl rfl)))
      | false => exact Or.inr (Or.inl rfl)
  rw [if_neg zl]
  by_cases zd : tk_D (T s) = true
  · rw [if_pos zd]
    by_cases y : gl = true ∨ 4 < tk_dg T n s - s
    · rw [if_pos y]
      exact ⟨fun q => absurd (show (-4 : Int32) = -2 from q) (by decide), fun q => absurd (show (-4 : Int32) = -3 from q) (by decide), Or.inr (Or.inr (Or.inr (Or.inl rfl)))⟩
    · rw [if_neg y]
      refine ⟨fun q => absurd (show (-3 : Int32) = -2 from q) (by decide), fun _ => ⟨?_, fun i h1 h2 => ?_⟩, Or.inr (Or.inr (Or.inl rfl))⟩
      · show tk_dg T n s - s ≤ 4
        rcases Nat.lt_or_ge 4 (tk_dg T n s - s) with w | w
        · exact absurd (Or.inr w) y
        · exact w
      · have h1 : s ≤ i := h1
        have h2 : i < tk_dg T n s := h2
        exact tk_run_all (f := fun i => tk_D (T i)) (n - s) s i h1 h2
  rw [if_neg zd]
  have hb := hT s (by omega)
  exact ⟨fun q => absurd q (tk_nIne hb (by decide)), fun q => absurd q (tk_nIne hb (by decide)), Or.inr (Or.inr (Or.inr (Or.inr ⟨T s, hb, rfl⟩)))⟩
theorem tk_nx_gd {T : Nat → Nat} {n : Nat} (hT : ∀ i, i < n → T i < 256) {c : Int32 × Nat × Nat} (h : tk_ok n c) : tk_gd T n (tk_nx T n c) := by
  unfold tk_nx tk_at
  exact tk_as_gd hT _ (tk_sk_le h.2.1).2
theorem tk_val_lt {T : Nat → Nat} {s : Nat} : ∀ (m : Nat), (∀ i, i < m → tk_D (T (s + i)) = true) → tk_val T s m < 10 ^ m
  | 0, _ => by unfold tk_val; decide
  | m + 1, h => by
    have h1 := tk_val_lt m (fun i hi => h i (by omega))
    have h2 := (tk_D_iff _).mp (h m (by omega))
    unfold tk_val
    rw [Nat.pow_succ]
    omega
def tk_ix : List Nat → Nat → Nat → Int32
  | [], _, _ => -1
  | a :: r, b, j => if a = b then nI j else tk_ix r b (j + 1)
def tk_ns (key : Nat) : List Nat := if key = 0 then [97, 103, 116] else if key = 1 then [116, 119] else [100, 116]
def tk_nm (key b : Nat) : Int32 := tk_ix (tk_ns key) b 0
/-- the code of a leaf, -1 if there is none -/
def tk_lf (T : Nat → Nat) (key : Nat) (c : Int32 × Nat × Nat) : Int32 := if c.1 = -3 then nI (tk_val T c.2.1 (c.2.2 - c.2.1)) else if c.1 = -2 ∧ c.2.2 - c.2.1 = 1 ∧ 0 ≤ tk_nm key (T c.2.1) then 10000 + tk_nm key (T c.2.1) else -1
theorem tk_txt3 : tk_txt 6003 (tk_ns 0) := by
  refine ⟨⟨by omega, by omega⟩, rfl, by decide, fun j hj => ?_⟩
  have hj : j < 3 := hj
  rcases (show j = 0 ∨ j = 1 ∨ j = 2 by omega) with q | q | q <;> (subst q; exact ⟨rfl, by decide⟩)
theorem tk_txt4 : tk_txt 6004 (tk_ns 1) := by
  refine ⟨⟨by omega, by omega⟩, rfl, by decide, fun j hj => ?_⟩
  have hj : j < 2 := hj
  rcases (show j = 0 ∨ j = 1 by omega) with q | q <;> (subst q; exact ⟨rfl, by decide⟩)
theorem tk_txt5 : tk_txt 6005 (tk_ns 2) := by
  refine ⟨⟨by omega, by omega⟩, rfl, by decide, fun j hj => ?_⟩
  have hj : j < 2 := hj
  rcases (show j = 0 ∨ j = 1 by omega) with q | q <;> (subst q; exact ⟨rfl, by decide⟩)
theorem p_ix_loop {k : Int32 → ovSt → Prop} {w b : Nat} {W : List Nat} (hW : tk_txt w W) (hb : b < 128) {σ : ovSt} : ∀ (m j : Nat), j + m = W.length → k (tk_ix (W.drop j) b j) σ → F_J1_indexOfChar_4cfef_7 w k (m + 1) (nI W.length) (nI b) (nI j) σ
  | 0, j, hj, h => by
    have hl := hW.2.2.1
    unfold F_J1_indexOfChar_4cfef_7
    rw [if_pos (nI_le (by omega) (by omega))]
    rw [show W.drop j = [] from List.drop_eq_nil_of_le (by omega)] at h
    exact h
  | m + 1, j, hj, h => by
    have hl := hW.2.2.1
    obtain ⟨c1, c2⟩ := hW.2.2.2 j (by omega)
    unfold F_J1_indexOfChar_4cfef_7
    rw [if_neg (by rw [nI_leI (by omega) (by omega)]; omega), pu_cl (by omega), c1]
    refine ⟨vp_in_nI (by rw [hW.2.1]; omega) (by rw [hW.2.1]; omega), ?_⟩
    rw [tk_drop (by omega)] at h
    unfold tk_ix at h
    by_cases z : W.getD j 0 = b
    · rw [if_pos z] at h
      rw [if_pos (by rw [z])]
      exact h
    · rw [if_neg z] at h
      rw [if_neg (by rw [nI_eq (by omega) (by omega)]; exact z), ← nI_succ]
      exact p_ix_loop hW hb m (j + 1) (by omega) h
theorem e_ch2 : ∀ b : Nat, b < 128 → (Int32.toUInt32 (nI b) % 65536).toInt32 = nI b := by decide +kernel
theorem e_ch8 : ∀ b : Nat, b < 128 → (Int32.toInt8 (nI b)).toInt32 = nI b := by decide +kernel
theorem p_indexOf {k : Int32 → ovSt → Prop} {w b : Nat} {W : List Nat} (hW : tk_txt w W) (hW1 : 0 < W.length) (hb : b < 128) {σ : ovSt} (h : k (tk_ix W b 0) σ) : F_J0_indexOf_0f7a4 w (nI b) σ k := by
  have hl := hW.2.2.1
  unfold F_J0_indexOf_0f7a4 F_J0_indexOf_7cf53 F_J0_isLatin1_aae02 F_J0_isLatin1_aae02_18
  refine ⟨hW.1, hW.1, hW.1, ?_⟩
  rw [if_neg (by decide), if_pos rfl]
  refine ⟨pu_bl1, ?_⟩
  show (if (1 : Int32) = 0 then _ else _)
  rw [if_neg (by decide)]
  refine e_len hW.1 ?_
  unfold F_J1_indexOf_4cfef F_J1_canEncode_9a6ad F_J1_canEncode_9a6ad_16
  refine ⟨hW.1, ?_⟩
  rw [if_neg (nI_pos (by omega)), if_neg (show ¬ (255 : Int32) < nI b from by rw [show (255 : Int32) = nI 255 from rfl, nI_ltI (by omega) (by omega)]; omega)]
  refine ⟨pu_bl1, ?_⟩
  show (if (1 : Int32) = 0 then _ else _)
  rw [if_neg (by decide)]
  intro v3 hv3 v4 hv4
  have e3 : v3 = nI 0 := by rw [hv3]; decide
  have e4 : v4 = nI W.length := by
    rw [hv4, hW.2.1]
    show (if nI W.length < nI W.length then nI W.length else nI W.length) = nI W.length
    split <;> rfl
  subst e3
  subst e4
  rw [if_pos (nI_lt hW1 (by omega))]
  unfold F_J1_indexOfChar_4cfef
  refine ⟨hW.1, ?_⟩
  intro v2 hv2
  rw [e_ch8 b hb] at hv2
  subst hv2
  exact ⟨W.length + 1, p_ix_loop hW hb W.length 0 (by omega) h⟩
theorem pu_byte_lo {b : Nat} (h : b < 128) : pu_byte b = nI b := by unfold pu_byte; rw [if_pos h]
theorem p4_nameAhead {k : Int32 → ovSt → Prop} {T : Nat → Nat} {n key : Nat} (hkey : key < 3) {σ : ovSt} {c : Int32 × Nat × Nat} (hB : tk_BC σ T n) (hC : tk_C σ c) (hg : tk_gd T n c) (h2 : c.1 = -2) (h6 : σ 45 6 = nI key) (h : k (if c.2.2 - c.2.1 = 1 then tk_nm key (T c.2.1) else -1) σ) : F_X4_nameAhead σ k := by
  have hn := hB.1
  obtain ⟨⟨o1, o2, o3⟩, g2, -, -⟩ := hg
  have hs : c.2.1 < c.2.2 := o3 (by rw [h2]; decide)
  have hL := (tk_L_iff _).mp (g2 h2)
  unfold F_X4_nameAhead F_X4_nameAhead_37
  rw [hC.2.2, hC.2.1, pk_sub o1]
  by_cases z : c.2.2 - c.2.1 = 1
  · rw [if_pos z] at h
    rw [if_pos (by rw [z]; rfl)]
    unfold tk_nm at h
    obtain ⟨t1, t2⟩ := hB.2.2 c.2.1 (by omega)
    have key2 : ∀ (w : Nat) (W : List Nat), tk_txt w W → 0 < W.length → k (tk_ix W (T c.2.1) 0) σ → (ov_iss w ∧ (vp_in (σ 45 4) 96 ∧ (F_J0_indexOf_0f7a4 w (Int32.toUInt32 (σ 46 (Int32.toNatClampNeg (σ 45 4))) % 65536).toInt32 σ (fun v4 σ5 => k v4 σ5)))) := by
      intro w W hW hW1 hk
      refine ⟨hW.1, ?_, ?_⟩
      · rw [hC.2.1]; exact vp_in_nI (by omega) (by omega)
      · rw [hC.2.1, pu_cl (by omega), t2, pu_byte_lo (by omega), e_ch2 _ (by omega)]
        exact p_indexOf hW hW1 (by omega) hk
    unfold F_X4_namesOf F_X4_namesOf_21
    rw [h6]
    rcases (show key = 0 ∨ key = 1 ∨ key = 2 by omega) with q | q | q
    · subst q; rw [if_pos (show nI 0 = 0 from rfl)]; exact key2 6003 (tk_ns 0) tk_txt3 (by decide) h
    · subst q; rw [if_neg (by decide), if_pos (show nI 1 = 1 from rfl)]; exact key2 6004 (tk_ns 1) tk_txt4 (by decide) h
    · subst q; rw [if_neg (by decide), if_neg (by decide)]; exact key2 6005 (tk_ns 2) tk_txt5 (by decide) h
  · rw [if_neg z] at h
    rw [if_neg (by rw [show (1 : Int32) = nI 1 from rfl, nI_eq (by omega) (by omega)]; exact z)]
    exact h
theorem p4_num_loop {k : Int32 → ovSt → Prop} {T : Nat → Nat} {n s e : Nat} {σ : ovSt} (hB : tk_BC σ T n) (he : e ≤ n) (h5 : σ 45 5 = nI e) (hd : ∀ i, s ≤ i → i < e → tk_D (T i) = true) (h : k (nI (tk_val T s (e - s))) σ) : ∀ (m j : Nat), s + j + m = e → F_X4_numberAhead_7 k (m + 1) (nI (tk_val T s j)) (nI (s + j)) σ
  | 0, j, hj => by
    have hn := hB.1
    unfold F_X4_numberAhead_7
    rw [h5, if_pos (nI_le (by omega) (by omega))]
    rw [show e - s = j by omega] at h
    exact h
  | m + 1, j, hj => by
    have hn := hB.1
    have hD := (tk_D_iff _).mp (hd (s + j) (by omega) (by omega))
    obtain ⟨t1, t2⟩ := hB.2.2 (s + j) (by omega)
    unfold F_X4_numberAhead_7
    rw [h5, if_neg (by rw [nI_leI (by omega) (by omega)]; omega), pu_cl (by omega), t2, pu_byte_lo (by omega)]
    refine ⟨vp_in_nI (by omega) (by omega), ?_⟩
    intro v hv
    have ev : v = nI (tk_val T s (j + 1)) := by
      rw [hv, show (10 : Int32) = nI 10 from rfl, pk_mul, show (48 : Int32) = nI 48 from rfl, pk_sub hD.1, nI_add]
      show nI (tk_val T s j * 10 + (T (s + j) - 48)) = nI (10 * tk_val T s j + (T (s + j) - 48))
      rw [Nat.mul_comm]
    rw [ev, ← nI_succ]
    exact p4_num_loop hB he h5 hd h m (j + 1) (by omega)
theorem p4_numberAhead {k : Int32 → ovSt → Prop} {T : Nat → Nat} {n : Nat} {σ : ovSt} {c : Int32 × Nat × Nat} (hB : tk_BC σ T n) (hC : tk_C σ c) (hg : tk_gd T n c) (h3 : c.1 = -3) (h : k (nI (tk_val T c.2.1 (c.2.2 - c.2.1))) σ) : F_X4_numberAhead σ k := by
  obtain ⟨⟨o1, o2, o3⟩, -, g3, -⟩ := hg
  unfold F_X4_numberAhead
  intro v hv
  rw [hC.2.1] at hv
  subst hv
  exact ⟨c.2.2 - c.2.1 + 1, p4_num_loop hB o2 hC.2.2 (g3 h3).2 h (c.2.2 - c.2.1) 0 (by omega)⟩
/-! the class's steps -/
def tk_lv : List Int32 → Nat
  | [] => 0
  | m :: r => (if m < 0 then 0 else 1) + tk_lv r
theorem tk_lv_app (a b : List Int32) : tk_lv (a ++ b) = tk_lv a + tk_lv b := by
  induction a with
  | nil => rw [List.nil_append]; exact (Nat.zero_add _).symm
  | cons m r ih =>
    rw [List.cons_append]
    show (if m < 0 then 0 else 1) + tk_lv (r ++ b) = ((if m < 0 then 0 else 1) + tk_lv r) + tk_lv b
    rw [ih, Nat.add_assoc]
/-- the class has read up to c, with steps that mean C -/
def tk_S (σ : ovSt) (T : Nat → Nat) (n key : Nat) (c : Int32 × Nat × Nat) (C : List Int32) : Prop :=
  tk_BC σ T n ∧ tk_C σ c ∧ σ 45 6 = nI key ∧ σ 45 7 = nI C.length ∧ σ 45 8 = nI (tk_lv C) ∧ ∀ i, i < C.length → pu_crel (σ 47 i) (C.getD i 0)
def tk_fr (σ σ' : ovSt) : Prop := pu_ag (fun i => i = 45 ∨ i = 47) σ σ'
theorem tk_e45.fr {σ σ' : ovSt} {Z : Nat → Prop} (h : tk_e45 σ σ' Z) : tk_fr σ σ' := h.1.mono (fun i hi => Or.inl hi)
theorem p4_emit {k : ovSt → Prop} {N : Nat} (hN : N < 96) {x : Int32} {σ : ovSt} (h7 : σ 45 7 = nI N) (h : ∀ σ', tk_fr σ σ' → (∀ q, q ≠ 7 → σ' 45 q = σ 45 q) → σ' 45 7 = nI (N + 1) → σ' 47 = upd (σ 47) N x → k σ') : F_X4_emit x σ k := by
  unfold F_X4_emit F_X4_emit_29
  rw [h7, if_neg (by rw [show (96 : Int32) = nI 96 from rfl, nI_leI (by omega) (by omega)]; omega), pu_cl (by omega)]
  refine ⟨vp_in_nI hN (by omega), ?_⟩
  intro σ2 e2 σ3 e3
  rw [show σ2 45 7 = nI N from by rw [e2, pu_up_ne (by omega), h7], ← nI_succ] at e3
  refine h σ3 ?_ (fun q hq => ?_) ?_ ?_
  · rw [e3]; refine pu_ag.up ?_ (Or.inl rfl)
    rw [e2]; exact pu_ag.up1 (Or.inr rfl)
  · rw [e3, pu_up_same, pu_un hq, e2, pu_up_ne (by omega)]
  · rw [e3, pu_up_same, pu_ue]
  · rw [e3, pu_up_ne (by omega), e2, pu_up_same]
theorem tk_getD_app {C : List Int32} {m : Int32} {i : Nat} (h : i < C.length) : (C ++ [m]).getD i 0 = C.getD i 0 := by
  rw [List.getD_eq_getElem?_getD, List.getD_eq_getElem?_getD, List.getElem?_append_left h]
theorem tk_getD_last (C : List Int32) (m : Int32) : (C ++ [m]).getD C.length 0 = m := by
  rw [List.getD_eq_getElem?_getD, List.getElem?_append_right (Nat.le_refl _), Nat.sub_self]
  rfl
/-- a sign is emitted -/
theorem p4_emitS {k : ovSt → Prop} {T : Nat → Nat} {n key : Nat} {c : Int32 × Nat × Nat} {C : List Int32} {x m : Int32} (hm : m < 0) (hx : pu_crel x m) (hN : C.length < 96) {σ : ovSt} (hS : tk_S σ T n key c C) (h : ∀ σ', tk_fr σ σ' → tk_S σ' T n key c (C ++ [m]) → k σ') : F_X4_emit x σ k := by
  obtain ⟨hB, hC, h6, h7, h8, hc⟩ := hS
  refine p4_emit hN h7 (fun σ' hf hq g7 g47 => h σ' hf ⟨⟨hB.1, by rw [hq 2 (by omega)]; exact hB.2.1, fun i hi => by rw [hf 46 (by omega)]; exact hB.2.2 i hi⟩, ⟨by rw [hq 3 (by omega)]; exact hC.1, by rw [hq 4 (by omega)]; exact hC.2.1, by rw [hq 5 (by omega)]; exact hC.2.2⟩, by rw [hq 6 (by omega)]; exact h6, ?_, ?_, fun i hi => ?_⟩)
  · rw [g7, List.length_append]; rfl
  · rw [hq 8 (by omega), h8, tk_lv_app]
    show nI (tk_lv C) = nI (tk_lv C + ((if m < 0 then 0 else 1) + 0))
    rw [if_pos hm]
    rfl
  · rw [List.length_append] at hi
    have hi : i < C.length + 1 := hi
    rw [g47]
    by_cases z : i = C.length
    · rw [z, pu_ue, tk_getD_last]; exact hx
    · rw [pu_un z, tk_getD_app (by omega)]; exact hc i (by omega)
/-- a leaf is read -/
theorem p4_leaf {k : Int32 → ovSt → Prop} {T : Nat → Nat} {n key : Nat} {c : Int32 × Nat × Nat} {C : List Int32} {x m : Int32} (hm : ¬ m < 0) (hx : pu_crel x m) (hN : C.length < 96) (hok : tk_ok n c) {σ : ovSt} (hS : tk_S σ T n key c C) (h : ∀ σ', tk_fr σ σ' → tk_S σ' T n key (tk_nx T n c) (C ++ [m]) → k 1 σ') : F_X4_readLeaf x σ k := by
  obtain ⟨hB, hC, h6, h7, h8, hc⟩ := hS
  unfold F_X4_readLeaf
  refine p4_emit hN h7 (fun σ1 hf hq g7 g47 => ?_)
  intro σ2 e2
  rw [hq 8 (by omega), h8, ← nI_succ] at e2
  have f2 : tk_fr σ σ2 := by rw [e2]; exact pu_ag.up hf (Or.inl rfl)
  have q2 : ∀ q, q ≠ 7 → q ≠ 8 → σ2 45 q = σ 45 q := fun q h7 h8 => by rw [e2, pu_up_same, pu_un h8, hq q h7]
  have B2 : tk_BC σ2 T n := ⟨hB.1, by rw [q2 2 (by omega) (by omega)]; exact hB.2.1, fun i hi => by rw [f2 46 (by omega)]; exact hB.2.2 i hi⟩
  refine p4_next (T := T) (n := n) (c := c) hok.2.1 B2 (by rw [q2 3 (by omega) (by omega)]; exact hC.1) (by rw [q2 5 (by omega) (by omega)]; exact hC.2.2) (fun σ3 h3 hC3 => ?_)
  refine h σ3 (pu_ag.tr f2 h3.fr) ⟨B2.e h3 (by unfold tk_Z; omega), hC3, by rw [h3.2 6 (by unfold tk_Z; omega), q2 6 (by omega) (by omega)]; exact h6, ?_, ?_, fun i hi => ?_⟩
  · rw [h3.2 7 (by unfold tk_Z; omega), e2, pu_up_same, pu_un (by omega), g7, List.length_append]; rfl
  · rw [h3.2 8 (by unfold tk_Z; omega), e2, pu_up_same, pu_ue, tk_lv_app]
    show nI (tk_lv C + 1) = nI (tk_lv C + ((if m < 0 then 0 else 1) + 0))
    rw [if_neg hm]
  · rw [List.length_append] at hi
    have hi : i < C.length + 1 := hi
    rw [h3.1 47 (by omega), e2, pu_up_ne (by omega), g47]
    by_cases z : i = C.length
    · rw [z, pu_ue, tk_getD_last]; exact hx
    · rw [pu_un z, tk_getD_app (by omega)]; exact hc i (by omega)
/-- the next token -/
theorem p4_nextS {k : ovSt → Prop} {T : Nat → Nat} {n key : Nat} {c : Int32 × Nat × Nat} {C : List Int32} (hok : tk_ok n c) {σ : ovSt} (hS : tk_S σ T n key c C) (h : ∀ σ', tk_fr σ σ' → tk_S σ' T n key (tk_nx T n c) C → k σ') : F_X4_next σ k := by
  obtain ⟨hB, hC, h6, h7, h8, hc⟩ := hS
  refine p4_next (T := T) (n := n) (c := c) hok.2.1 hB hC.1 hC.2.2 (fun σ3 h3 hC3 => ?_)
  refine h σ3 h3.fr ⟨hB.e h3 (by unfold tk_Z; omega), hC3, by rw [h3.2 6 (by unfold tk_Z; omega)]; exact h6, by rw [h3.2 7 (by unfold tk_Z; omega)]; exact h7, by rw [h3.2 8 (by unfold tk_Z; omega)]; exact h8, fun i hi => ?_⟩
  rw [h3.1 47 (by omega)]
  exact hc i hi
