/-! ===== the key ===== -/
def tk_eqw (T : Nat → Nat) : Nat → List Nat → Bool
  | _, [] => true
  | s, a :: r => decide (T s = a) && tk_eqw T (s + 1) r
def tk_isk (T : Nat → Nat) (c : Int32 × Nat × Nat) (W : List Nat) : Bool := decide (c.1 = -2) && (decide (c.2.2 - c.2.1 = W.length) && tk_eqw T c.2.1 W)
def tk_kw (i : Nat) : List Nat := if i = 0 then [102, 97, 100, 101] else if i = 1 then [98, 105, 108, 108] else [108, 111, 116]
def tk_key (T : Nat → Nat) (c : Int32 × Nat × Nat) : Nat := if tk_isk T c (tk_kw 0) = true then 0 else if tk_isk T c (tk_kw 1) = true then 1 else if tk_isk T c (tk_kw 2) = true then 2 else 3
theorem e_len {w : Nat} (hw : ov_iss w) {σ : ovSt} {k : Int32 → ovSt → Prop} (h : k (nI (ov_len.getD (w - 6000) 0)) σ) : F_J0_length_8abf5 w σ k := by
  unfold F_J0_length_8abf5 F_J0_coder_7d493 F_J0_coder_7d493_14
  refine ⟨hw, hw, ?_⟩
  rw [if_neg (by decide)]
  refine ⟨rfl, ?_⟩
  have e : Int32.ofNat (ov_len.getD (w - 6000) 0) >>> ((0 : Int32) &&& 31) = Int32.ofNat (ov_len.getD (w - 6000) 0) := by
    obtain ⟨h1, h2⟩ := hw
    rcases (show w = 6000 ∨ w = 6001 ∨ w = 6002 ∨ w = 6003 ∨ w = 6004 ∨ w = 6005 by omega) with q | q | q | q | q | q <;> (subst q; decide)
  show k (Int32.ofNat (ov_len.getD (w - 6000) 0) >>> ((0 : Int32) &&& 31)) σ
  rw [e]
  exact h
theorem e_chr : ∀ b : Nat, b < 128 → (Int32.toUInt32 ((nI b) &&& 255) % 65536).toInt32 = nI b := by decide +kernel
theorem e_chn : ∀ b : Nat, b < 128 → narrow .char (.int (nI b)) = .int (nI b) := fun b hb => (pk_charN (q := b) (by omega)).1
theorem e_char {w : Nat} (hw : ov_iss w) {j b : Nat} (hl : j < ov_len.getD (w - 6000) 0) (hl2 : ov_len.getD (w - 6000) 0 ≤ 4) (hb : (ov_byt.getD (w - 6000) []).getD j 0 = nI b) (hb2 : b < 128) {σ : ovSt} {k : Int32 → ovSt → Prop} (h : k (nI b) σ) : F_J0_charAt_5068e w (nI j) σ k := by
  unfold F_J0_charAt_5068e F_J0_isLatin1_aae02 F_J0_isLatin1_aae02_18 F_J1_charAt_3b067 F_J0_checkIndex_df160 F_J3_checkIndex_8e157
  refine ⟨hw, hw, ?_⟩
  rw [if_neg (by decide), if_pos rfl]
  refine ⟨pu_bl1, ?_⟩
  show (if (1 : Int32) = 0 then _ else _)
  rw [if_neg (by decide)]
  refine ⟨hw, fun g hg => ⟨hg, ?_⟩⟩
  rw [if_neg (nI_pos (by omega)), if_pos (show nI j < Int32.ofNat (ov_len.getD (w - 6000) 0) from nI_lt hl (by omega))]
  refine ⟨vp_in_nI hl (by omega), ?_⟩
  rw [pu_cl (by omega), hb, e_chr b hb2]
  exact ⟨e_chn b hb2, h⟩
/-- a word of the class's texts -/
def tk_txt (w : Nat) (W : List Nat) : Prop := ov_iss w ∧ ov_len.getD (w - 6000) 0 = W.length ∧ W.length ≤ 4 ∧ ∀ j, j < W.length → (ov_byt.getD (w - 6000) []).getD j 0 = nI (W.getD j 0) ∧ W.getD j 0 < 128
theorem tk_txt0 : tk_txt 6000 (tk_kw 0) := by
  refine ⟨⟨by omega, by omega⟩, rfl, by decide, fun j hj => ?_⟩
  have hj : j < 4 := hj
  rcases (show j = 0 ∨ j = 1 ∨ j = 2 ∨ j = 3 by omega) with q | q | q | q <;> (subst q; exact ⟨rfl, by decide⟩)
theorem tk_txt1 : tk_txt 6001 (tk_kw 1) := by
  refine ⟨⟨by omega, by omega⟩, rfl, by decide, fun j hj => ?_⟩
  have hj : j < 4 := hj
  rcases (show j = 0 ∨ j = 1 ∨ j = 2 ∨ j = 3 by omega) with q | q | q | q <;> (subst q; exact ⟨rfl, by decide⟩)
theorem tk_txt2 : tk_txt 6002 (tk_kw 2) := by
  refine ⟨⟨by omega, by omega⟩, rfl, by decide, fun j hj => ?_⟩
  have hj : j < 3 := hj
  rcases (show j = 0 ∨ j = 1 ∨ j = 2 by omega) with q | q | q <;> (subst q; exact ⟨rfl, by decide⟩)
theorem tk_drop {W : List Nat} {j : Nat} (h : j < W.length) : W.drop j = W.getD j 0 :: W.drop (j + 1) := by
  rw [List.drop_eq_getElem_cons h, List.getD_eq_getElem?_getD, List.getElem?_eq_getElem h]
  rfl
theorem p4_word_loop {k : Int32 → ovSt → Prop} {T : Nat → Nat} {n s w : Nat} {W : List Nat} (hW : tk_txt w W) {σ : ovSt} (hB : tk_BC σ T n) (h4 : σ 45 4 = nI s) (hs : s + W.length ≤ n) : ∀ (m j : Nat), j + m = W.length → (∀ v : Int32, v = (if tk_eqw T (s + j) (W.drop j) = true then 1 else 0) → k v σ) → F_X4_isWord_20 w k (m + 1) (nI j) σ
  | 0, j, hj, h => by
    have hn := hB.1
    have hl := hW.2.2.1
    unfold F_X4_isWord_20
    refine e_len hW.1 ?_
    rw [hW.2.1, if_pos (show nI W.length ≤ nI j from nI_le (by omega) (by omega))]
    refine h 1 ?_
    rw [show W.drop j = [] from List.drop_eq_nil_of_le (by omega)]
    rfl
  | m + 1, j, hj, h => by
    have hn := hB.1
    have hl := hW.2.2.1
    obtain ⟨c1, c2⟩ := hW.2.2.2 j (by omega)
    unfold F_X4_isWord_20
    refine e_len hW.1 ?_
    rw [hW.2.1, if_neg (show ¬ nI W.length ≤ nI j from by rw [nI_leI (by omega) (by omega)]; omega), h4, nI_add, pu_cl (by omega)]
    refine ⟨vp_in_nI (by omega) (by omega), ?_⟩
    refine e_char hW.1 (by rw [hW.2.1]; omega) (by rw [hW.2.1]; omega) c1 c2 ?_
    obtain ⟨t1, t2⟩ := hB.2.2 (s + j) (by omega)
    rw [t2]
    rw [tk_drop (by omega)] at h
    unfold tk_eqw at h
    by_cases z : T (s + j) = W.getD j 0
    · rw [if_pos (by rw [pu_byte_eq t1 c2]; exact z), ← nI_succ]
      refine p4_word_loop hW hB h4 hs m (j + 1) (by omega) (fun v hv => h v ?_)
      rw [hv, decide_eq_true z, Bool.true_and, Nat.add_assoc]
    · rw [if_neg (by rw [pu_byte_eq t1 c2]; exact z)]
      refine h 0 ?_
      rw [decide_eq_false z, Bool.false_and]
      rfl
theorem p4_isWord {k : Int32 → ovSt → Prop} {T : Nat → Nat} {n w : Nat} {W : List Nat} (hW : tk_txt w W) {σ : ovSt} {c : Int32 × Nat × Nat} (hB : tk_BC σ T n) (hC : tk_C σ c) (hok : tk_ok n c) (hk : c.1 = -2) (h : ∀ v : Int32, v = (if tk_isk T c W = true then 1 else 0) → k v σ) : F_X4_isWord w σ k := by
  have hn := hB.1
  have hl := hW.2.2.1
  obtain ⟨o1, o2, o3⟩ := hok
  unfold F_X4_isWord
  refine ⟨hW.1, e_len hW.1 ?_⟩
  rw [hC.2.2, hC.2.1, pk_sub o1, hW.2.1]
  unfold tk_isk at h
  rw [decide_eq_true hk, Bool.true_and] at h
  by_cases z : c.2.2 - c.2.1 = W.length
  · rw [if_pos (by rw [z])]
    refine ⟨W.length + 1, p4_word_loop hW hB hC.2.1 (by omega) W.length 0 (by omega) (fun v hv => h v ?_)⟩
    rw [hv, decide_eq_true z]
    rfl
  · rw [if_neg (show ¬ nI (c.2.2 - c.2.1) = nI W.length from by rw [nI_eq (by omega) (by omega)]; exact z)]
    refine h 0 ?_
    rw [decide_eq_false z]
    rfl
theorem p4_readKey {k : Int32 → ovSt → Prop} {T : Nat → Nat} {n : Nat} {σ : ovSt} {c : Int32 × Nat × Nat} (hB : tk_BC σ T n) (hC : tk_C σ c) (hok : tk_ok n c) (h1 : ∀ i, i < 3 → tk_key T c = i → ∀ σ', σ' = ov_up σ 45 6 (nI i) → k 1 σ') (h0 : tk_key T c = 3 → k 0 σ) : F_X4_readKey σ k := by
  unfold tk_key at h1 h0
  have step : ∀ (i m w : Nat), i < 3 → tk_txt w (tk_kw i) → (∀ (K : Nat → ovSt → Prop), K w σ → F_X4_keyWord (nI i) σ K) → (tk_isk T c (tk_kw i) = true → ∀ σ', σ' = ov_up σ 45 6 (nI i) → k 1 σ') → (¬ tk_isk T c (tk_kw i) = true → F_X4_readKey_2 k m (nI (i + 1)) σ) → F_X4_readKey_2 k (m + 1) (nI i) σ := by
    intro i m w hi hW hkw hy hno
    unfold F_X4_readKey_2 F_X4_readKey_34
    rw [if_neg (by rw [show (3 : Int32) = nI 3 from rfl, nI_leI (by omega) (by omega)]; omega), hC.1, ← nI_succ]
    by_cases z : c.1 = -2
    · rw [if_pos z]
      refine hkw _ ⟨hW.1, ?_⟩
      refine p4_isWord hW hB hC hok z (fun v hv => ?_)
      by_cases y : tk_isk T c (tk_kw i) = true
      · rw [if_pos y] at hv
        subst hv
        rw [if_neg (by decide)]
        exact hy y
      · rw [if_neg y] at hv
        subst hv
        rw [if_pos rfl]
        exact hno y
    · rw [if_neg z]
      refine hno (fun y => z ?_)
      unfold tk_isk at y
      rw [Bool.and_eq_true, decide_eq_true_iff] at y
      exact y.1
  unfold F_X4_readKey
  refine ⟨4, ?_⟩
  refine step 0 3 6000 (by omega) tk_txt0 (fun K hK => by unfold F_X4_keyWord F_X4_keyWord_21; rw [if_pos (show nI 0 = 0 from rfl)]; exact hK) (fun y => h1 0 (by omega) (by rw [if_pos y])) (fun y0 => ?_)
  refine step 1 2 6001 (by omega) tk_txt1 (fun K hK => by unfold F_X4_keyWord F_X4_keyWord_21; rw [if_neg (by decide), if_pos (show nI 1 = 1 from rfl)]; exact hK) (fun y => h1 1 (by omega) (by rw [if_neg y0, if_pos y])) (fun y1 => ?_)
  refine step 2 1 6002 (by omega) tk_txt2 (fun K hK => by unfold F_X4_keyWord F_X4_keyWord_21; rw [if_neg (by decide), if_neg (by decide)]; exact hK) (fun y => h1 2 (by omega) (by rw [if_neg y0, if_neg y1, if_pos y])) (fun y2 => ?_)
  unfold F_X4_readKey_2
  rw [if_pos (by decide)]
  exact h0 (by rw [if_neg y0, if_neg y1, if_neg y2])
/-! the model's -/
def tk_ko (i : Nat) : Nat := if i = 0 then 0 else if i = 1 then 4 else 8
theorem p6_kw_loop {k : Int32 → ovSt → Prop} {R12 : Int32 → ovSt → Prop} {T : Nat → Nat} {n s i : Nat} (hi : i < 3) {σ : ovSt} (hB : tk_BM σ T n) (hK : pu_IK σ) (h10 : σ 74 10 = nI s) (hs : s + (tk_kw i).length ≤ n) : ∀ (m j : Nat), j + m = (tk_kw i).length → (∀ v : Int32, v = (if tk_eqw T (s + j) ((tk_kw i).drop j) = true then 1 else 0) → F_X6_takesKey_106 R12 k (nI i) v σ) → F_X6_takesKey_55 R12 k (m + 1) (nI i) (nI (tk_kw i).length) 1 (nI j) σ
  | 0, j, hj, h => by
    have hn := hB.1
    unfold F_X6_takesKey_55
    rw [if_pos (nI_le (by omega) (by omega))]
    refine h 1 ?_
    rw [show (tk_kw i).drop j = [] from List.drop_eq_nil_of_le (by omega)]
    rfl
  | m + 1, j, hj, h => by
    have hn := hB.1
    have hl : (tk_kw i).length ≤ 4 := by
      rcases (show i = 0 ∨ i = 1 ∨ i = 2 by omega) with q | q | q <;> (subst q; decide)
    have h83 : σ 83 i = nI (tk_ko i) := by
      obtain ⟨⟨a0, a1, a2, a3⟩, -⟩ := hK
      rcases (show i = 0 ∨ i = 1 ∨ i = 2 by omega) with q | q | q
      · subst q; exact a0
      · subst q; exact a1
      · subst q; exact a2
    have hw : pu_kw (tk_ko i + j) = nI ((tk_kw i).getD j 0) ∧ (tk_kw i).getD j 0 < 256 ∧ tk_ko i + j < 11 := by
      rcases (show i = 0 ∨ i = 1 ∨ i = 2 by omega) with q | q | q
      · subst q
        have hj' : j + (m + 1) = 4 := hj
        rcases (show j = 0 ∨ j = 1 ∨ j = 2 ∨ j = 3 by omega) with q | q | q | q <;> (subst q; exact ⟨rfl, by decide, by decide⟩)
      · subst q
        have hj' : j + (m + 1) = 4 := hj
        rcases (show j = 0 ∨ j = 1 ∨ j = 2 ∨ j = 3 by omega) with q | q | q | q <;> (subst q; exact ⟨rfl, by decide, by decide⟩)
      · subst q
        have hj' : j + (m + 1) = 3 := hj
        rcases (show j = 0 ∨ j = 1 ∨ j = 2 by omega) with q | q | q <;> (subst q; exact ⟨rfl, by decide, by decide⟩)
    obtain ⟨w1, w2, w3⟩ := hw
    unfold F_X6_takesKey_55 F_X6_takesKey_99
    rw [if_neg (by rw [nI_leI (by omega) (by omega)]; omega), if_neg (by decide), h10, nI_add, pu_cl (t := i) (by omega), h83, nI_add, pu_cl (t := s + j) (by omega), pu_cl (by omega), hK.2 _ w3, w1, ← nI_succ]
    refine ⟨vp_in_nI (by omega) (by omega), vp_in_nI (by omega) (by omega), vp_in_nI w3 (by omega), ?_⟩
    obtain ⟨t1, t2⟩ := hB.2.2 (s + j) (by omega)
    rw [t2]
    rw [tk_drop (by omega)] at h
    unfold tk_eqw at h
    by_cases z : T (s + j) = (tk_kw i).getD j 0
    · rw [if_pos (by rw [z])]
      refine p6_kw_loop hi hB hK h10 hs m (j + 1) (by omega) (fun v hv => h v ?_)
      rw [hv, decide_eq_true z, Bool.true_and, Nat.add_assoc]
    · rw [if_neg (by rw [nI_eq (by omega) (by omega)]; exact z)]
      have h' := h 0 (by rw [decide_eq_false z, Bool.false_and]; rfl)
      unfold F_X6_takesKey_55
      by_cases y : nI (tk_kw i).length ≤ nI (j + 1)
      · rw [if_pos y]; exact h'
      · rw [if_neg y, if_pos rfl]; exact h'
theorem p6_takesKey {k : Int32 → ovSt → Prop} {T : Nat → Nat} {n : Nat} {σ : ovSt} {c : Int32 × Nat × Nat} (hB : tk_BM σ T n) (hM : tk_M σ T c) (hok : tk_ok n c) (hK : pu_IK σ) (h1 : ∀ i, i < 3 → tk_key T c = i → ∀ σ', tk_e74 σ σ' (fun q => tk_Z6 q ∨ q = 14) → σ' 74 14 = nI i → tk_M σ' T (tk_nx T n c) → k 1 σ') (h0 : tk_key T c = 3 → k 0 σ) : F_X6_takesKey σ k := by
  have hn := hB.1
  obtain ⟨o1, o2, o3⟩ := hok
  obtain ⟨m9, m10, m11, -, -, -, m13, -⟩ := hM
  unfold F_X6_takesKey
  rw [m11]
  unfold tk_key at h1 h0
  by_cases z : c.1 = -2
  case neg =>
    have hno : ∀ W, ¬ tk_isk T c W = true := by
      intro W y
      unfold tk_isk at y
      rw [Bool.and_eq_true, decide_eq_true_iff] at y
      exact z y.1
    rw [if_neg]
    · exact h0 (by rw [if_neg (hno _), if_neg (hno _), if_neg (hno _)])
    · unfold tk_m
      rw [if_neg z]
      repeat' split
      all_goals decide
  rw [if_pos (by rw [z]; rfl)]
  have step : ∀ (i m : Nat), i < 3 → (tk_isk T c (tk_kw i) = true → ∀ σ', tk_e74 σ σ' (fun q => tk_Z6 q ∨ q = 14) → σ' 74 14 = nI i → tk_M σ' T (tk_nx T n c) → k 1 σ') → (¬ tk_isk T c (tk_kw i) = true → F_X6_takesKey_12 k m (nI (i + 1)) σ) → F_X6_takesKey_12 k (m + 1) (nI i) σ := by
    intro i m hi hy hno
    have h83 : σ 83 (i + 1) - σ 83 i = nI (tk_kw i).length := by
      obtain ⟨⟨a0, a1, a2, a3⟩, -⟩ := hK
      rcases (show i = 0 ∨ i = 1 ∨ i = 2 by omega) with q | q | q
      · subst q; rw [a0, a1]; rfl
      · subst q; rw [a1, a2]; rfl
      · subst q; rw [a2, a3]; rfl
    have hl : (tk_kw i).length ≤ 4 ∧ 0 < (tk_kw i).length := by
      rcases (show i = 0 ∨ i = 1 ∨ i = 2 by omega) with q | q | q <;> (subst q; decide)
    unfold F_X6_takesKey_12
    rw [if_neg (by rw [show (3 : Int32) = nI 3 from rfl, nI_leI (by omega) (by omega)]; omega), nI_1, pu_cl (by omega), pu_cl (by omega), m9, m10, pk_sub o1, h83]
    refine ⟨vp_in_nI (by omega) (by omega), vp_in_nI (by omega) (by omega), ?_⟩
    intro v hv
    subst hv
    have fin : ∀ v : Int32, v = (if tk_isk T c (tk_kw i) = true then 1 else 0) → F_X6_takesKey_106 (F_X6_takesKey_12 k m) k (nI i) v σ := by
      intro v hv
      unfold F_X6_takesKey_106
      by_cases y : tk_isk T c (tk_kw i) = true
      · rw [if_pos y] at hv
        rw [if_neg (by rw [hv]; decide)]
        intro σ1 e1
        have q1 : tk_e74 σ σ1 (fun q => tk_Z6 q ∨ q = 14) := by rw [e1]; exact tk_e74.up (tk_e74.rf _ _) (Or.inr rfl) _
        refine p6_go (T := T) (n := n) (c := c) o2 (hB.e q1 (by unfold tk_Z6; omega)) (by rw [e1, pu_up_same, pu_un (by omega), m9]) (Or.inl ⟨by rw [z]; rfl, by rw [e1, pu_up_same, pu_un (by omega)]; exact m13 (by rw [z]; rfl)⟩) (fun σ2 q2 hM2 => ?_)
        refine hy y σ2 (q1.tr (q2.mono (fun q hq => Or.inl hq))) ?_ hM2
        rw [q2.2 14 (by unfold tk_Z6; omega), e1, pu_up_same, pu_ue]
      · rw [if_neg y] at hv
        rw [if_pos hv, ← nI_succ]
        exact hno y
    unfold F_X6_takesKey_51
    by_cases y : c.2.2 - c.2.1 = (tk_kw i).length
    · rw [if_pos (by rw [y])]
      refine ⟨(tk_kw i).length + 1, p6_kw_loop hi hB hK m10 (by omega) (tk_kw i).length 0 (by omega) (fun v hv => fin v ?_)⟩
      unfold tk_isk
      rw [decide_eq_true z, decide_eq_true y]
      exact hv
    · rw [if_neg (by rw [nI_eq (by omega) (by omega)]; exact fun q => y q.symm)]
      refine ⟨1, ?_⟩
      unfold F_X6_takesKey_55
      have f := fin 0 (by unfold tk_isk; rw [decide_eq_true z, decide_eq_false y]; rfl)
      rw [if_neg (show ¬ nI (tk_kw i).length ≤ 0 from by rw [show (0 : Int32) = nI 0 from rfl, nI_leI (by omega) (by omega)]; omega), if_pos rfl]
      exact f
  refine ⟨4, ?_⟩
  refine step 0 3 (by omega) (fun y => h1 0 (by omega) (by rw [if_pos y])) (fun y0 => ?_)
  refine step 1 2 (by omega) (fun y => h1 1 (by omega) (by rw [if_neg y0, if_pos y])) (fun y1 => ?_)
  refine step 2 1 (by omega) (fun y => h1 2 (by omega) (by rw [if_neg y0, if_neg y1, if_pos y])) (fun y2 => ?_)
  unfold F_X6_takesKey_12
  rw [if_pos (by decide)]
  exact h0 (by rw [if_neg y0, if_neg y1, if_neg y2])
