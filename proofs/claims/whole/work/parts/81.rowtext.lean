/-! ===== a row with one more text ===== -/
theorem pu_IT.T {σ : ovSt} (h : pu_IT σ) : ∃ T n, tk_BC σ T n ∧ tk_BM σ T n := by
  obtain ⟨h1, n, hn, h2, h3⟩ := h
  have e : ∀ i, i < n → (σ 81 i).toNatClampNeg < 256 ∧ σ 81 i = nI (σ 81 i).toNatClampNeg ∧ σ 46 i = pu_byte (σ 81 i).toNatClampNeg := by
    intro i hi
    obtain ⟨b, hb, q1, q2⟩ := h3 i hi
    have : (σ 81 i).toNatClampNeg = b := by rw [q1]; exact pu_cl (by omega)
    rw [this]
    exact ⟨hb, q1, q2⟩
  exact ⟨fun i => (σ 81 i).toNatClampNeg, n, ⟨hn, h1.trans h2, fun i hi => ⟨(e i hi).1, (e i hi).2.2⟩⟩, ⟨hn, h2, fun i hi => ⟨(e i hi).1, (e i hi).2.1⟩⟩⟩
def wt_p (f : Nat → Int32) (t : Nat) (C : List Int32) (j : Nat) : Nat → Int32 := fun c => if 68 + 96 * t ≤ c ∧ c < 68 + 96 * t + j then C.getD (c - (68 + 96 * t)) 0 else f c
theorem wt_p0 (f : Nat → Int32) (t : Nat) (C : List Int32) : wt_p f t C 0 = f := by
  funext c
  unfold wt_p
  rw [if_neg (by omega)]
theorem wt_p1 (f : Nat → Int32) (t : Nat) (C : List Int32) (j : Nat) : upd (wt_p f t C j) (68 + 96 * t + j) (C.getD j 0) = wt_p f t C (j + 1) := by
  funext c
  by_cases z : c = 68 + 96 * t + j
  · rw [z, pu_ue]
    unfold wt_p
    rw [if_pos (by omega), show 68 + 96 * t + j - (68 + 96 * t) = j by omega]
  · rw [pu_un z]
    unfold wt_p
    by_cases y : 68 + 96 * t ≤ c ∧ c < 68 + 96 * t + j
    · rw [if_pos y, if_pos (by omega)]
    · rw [if_neg y, if_neg (by omega)]
def wt_g (g : Nat → Int32) (t key : Nat) (C : List Int32) : Nat → Int32 := upd (wt_p (upd (upd g (40 + 2 * t) (nI (1000 * key + C.length))) (40 + 2 * t + 1) (nI (tk_lv C))) t C C.length) 7 (nI (t + 1))
theorem wt_7 {g : Nat → Int32} {t key : Nat} {C : List Int32} : wt_g g t key C 7 = nI (t + 1) := pu_ue _ _ _
theorem wt_at {g : Nat → Int32} {t key : Nat} {C : List Int32} {c : Nat} (h7 : c ≠ 7) (h1 : c ≠ 40 + 2 * t) (h2 : c ≠ 40 + 2 * t + 1) (h3 : ¬ (68 + 96 * t ≤ c ∧ c < 68 + 96 * t + C.length)) : wt_g g t key C c = g c := by
  unfold wt_g
  rw [pu_un h7]
  unfold wt_p
  rw [if_neg h3, pu_un h2, pu_un h1]
theorem wt_t {g : Nat → Int32} {t key : Nat} {C : List Int32} (ht : t < 14) : wt_g g t key C (40 + 2 * t) = nI (1000 * key + C.length) := by
  unfold wt_g
  rw [pu_un (by omega)]
  unfold wt_p
  rw [if_neg (by omega), pu_un (by omega), pu_ue]
theorem wt_t1 {g : Nat → Int32} {t key : Nat} {C : List Int32} (ht : t < 14) : wt_g g t key C (40 + 2 * t + 1) = nI (tk_lv C) := by
  unfold wt_g
  rw [pu_un (by omega)]
  unfold wt_p
  rw [if_neg (by omega), pu_ue]
theorem wt_c {g : Nat → Int32} {t key : Nat} {C : List Int32} {q : Nat} (hq : q < C.length) : wt_g g t key C (68 + 96 * t + q) = C.getD q 0 := by
  unfold wt_g
  rw [pu_un (by omega)]
  unfold wt_p
  rw [if_pos (by omega), show 68 + 96 * t + q - (68 + 96 * t) = q by omega]
theorem pu_rem_cg {p p' : Nat → Int32} : ∀ (m k : Nat), (∀ q, k ≤ q → q < k + m → p q = p' q) → pu_rem p k m = pu_rem p' k m
  | 0, _, _ => rfl
  | m + 1, k, h => by
    unfold pu_rem
    rw [h k (by omega) (by omega), pu_rem_cg m (k + 1) (fun q a b => h q (by omega) (by omega))]
theorem pu_rem_list {C : List Int32} : ∀ (m k : Nat), k + m = C.length → pu_rem (fun q => C.getD q 0) k m = C.drop k
  | 0, k, h => by
    rw [List.drop_eq_nil_of_le (by omega)]
    rfl
  | m + 1, k, h => by
    unfold pu_rem
    rw [pu_rem_list m (k + 1) (by omega), List.drop_eq_getElem_cons (show k < C.length by omega), List.getD_eq_getElem?_getD, List.getElem?_eq_getElem (show k < C.length by omega)]
    rfl
theorem wt_TG_old {g : Nat → Int32} {t key : Nat} {C : List Int32} (ht : t < 14) (hL : C.length ≤ 96) {i : Nat} (hi : i < 14) (hne : i ≠ t) (k2 L2 : Nat) : pu_TG (wt_g g t key C) i k2 L2 ↔ pu_TG g i k2 L2 := by
  have e1 : wt_g g t key C (40 + 2 * i) = g (40 + 2 * i) := wt_at (by omega) (by omega) (by omega) (by omega)
  have e2 : L2 ≤ 96 → pu_rem (fun q => wt_g g t key C (68 + 96 * i + q)) 0 L2 = pu_rem (fun q => g (68 + 96 * i + q)) 0 L2 := fun h => pu_rem_cg L2 0 (fun q _ b => wt_at (by omega) (by omega) (by omega) (by omega))
  unfold pu_TG
  rw [e1]
  constructor
  · rintro ⟨a, b, c, d, e⟩
    rw [e2 d] at e
    exact ⟨a, b, c, d, e⟩
  · rintro ⟨a, b, c, d, e⟩
    rw [← e2 d] at e
    exact ⟨a, b, c, d, e⟩
theorem wt_TG_new {g : Nat → Int32} {t key : Nat} {C : List Int32} (ht : t < 14) (hk : key < 3) (hL : C.length ≤ 96) (hoc : pu_okc (if key = 0 then 3 else 2) C 0) : pu_TG (wt_g g t key C) t key C.length := by
  refine ⟨wt_t ht, hk, ?_, hL, ?_⟩
  · cases C with
    | nil => exact absurd (show (0 : Nat) = 1 from hoc) (by decide)
    | cons m C => rw [List.length_cons]; omega
  · have e : pu_rem (fun q => wt_g g t key C (68 + 96 * t + q)) 0 C.length = C := by
      rw [pu_rem_cg (p' := fun q => C.getD q 0) C.length 0 (fun q _ b => wt_c (by omega)), pu_rem_list C.length 0 (by omega)]
      exact List.drop_zero
    rw [e]
    exact hoc
theorem wt_WG {g : Nat → Int32} {t key : Nat} {C : List Int32} (hg : pu_WG g) (ht : t < 14) (h7 : g 7 = nI t) (hk : key < 3) (hL : C.length ≤ 96) (hoc : pu_okc (if key = 0 then 3 else 2) C 0) : pu_WG (wt_g g t key C) := by
  obtain ⟨⟨n, hn, h1⟩, ⟨m, hm, h7', hT⟩, h2, h3, h4⟩ := hg
  have em : m = t := by
    rw [h7] at h7'
    exact ((nI_eq (by omega) (by omega)).mp h7').symm
  subst em
  refine ⟨⟨n, hn, ?_⟩, ⟨m + 1, by omega, wt_7, fun i hi => ?_⟩, ?_, ?_, fun i hi => ?_⟩
  · rw [wt_at (by omega) (by omega) (by omega) (by omega)]; exact h1
  · by_cases z : i = m
    · rw [z]; exact ⟨key, C.length, wt_TG_new ht hk hL hoc⟩
    · obtain ⟨k2, L2, q⟩ := hT i (by omega)
      exact ⟨k2, L2, (wt_TG_old ht hL (by omega) z k2 L2).mpr q⟩
  · rw [wt_at (by omega) (by omega) (by omega) (by omega)]; exact h2
  · rw [wt_at (by omega) (by omega) (by omega) (by omega)]; exact h3
  · rw [wt_at (by omega) (by omega) (by omega) (by omega), wt_at (by omega) (by omega) (by omega) (by omega), wt_at (by omega) (by omega) (by omega) (by omega), wt_at (by omega) (by omega) (by omega) (by omega)]
    exact h4 i hi
theorem wt_cnt {g : Nat → Int32} {t key : Nat} {C : List Int32} (ht : t < 14) (k : Int32) : ∀ (m : Nat), m ≤ t → pu_cnt (wt_g g t key C) k m = pu_cnt g k m
  | 0, _ => rfl
  | m + 1, h => by
    unfold pu_cnt
    rw [wt_at (c := 40 + 2 * m) (by omega) (by omega) (by omega) (by omega), wt_cnt ht k m (by omega)]
theorem wt_law {g : Nat → Int32} {t key : Nat} {C : List Int32} (ht : t < 14) (h7 : g 7 = nI t) (hk : key < 3) (hL : C.length ≤ 96) {k2 : Nat} (hk2 : k2 < 3) : pu_law (wt_g g t key C) (nI k2) = if k2 = key then nI t else pu_law g (nI k2) := by
  unfold pu_law
  rw [wt_7, h7, pu_cl (by omega), pu_cl (by omega)]
  show (if wt_g g t key C (40 + 2 * t) / 1000 = nI k2 then nI t else pu_cnt (wt_g g t key C) (nI k2) t) = _
  rw [wt_t ht, show (1000 : Int32) = nI 1000 from rfl, pk_div (by omega) (by decide) (by decide), show (1000 * key + C.length) / 1000 = key by omega, wt_cnt ht (nI k2) t (Nat.le_refl _)]
  by_cases z : k2 = key
  · rw [if_pos z, if_pos (by rw [z])]
  · rw [if_neg z, if_neg (by rw [nI_eq (by omega) (by omega)]; exact fun q => z q.symm)]
/-- the class's texts, of which one beyond is written -/
theorem pu_LS.wr {σ σ' : ovSt} {g : Nat → Int32} {t : Nat} (hg : pu_WG g) (h : pu_LS σ g) (hm : (g 7).toNatClampNeg ≤ t) (ha : ∀ i, 3 ≤ i → i ≤ 16 → i ≠ 3 + t → σ' i = σ i) (h17 : ∀ j, j ≠ t → σ' 17 j = σ 17 j) (h18 : ∀ j, j ≠ t → σ' 18 j = σ 18 j) (h19 : ∀ j, j ≠ t → σ' 19 j = σ 19 j) : pu_LS σ' g := by
  obtain ⟨-, ⟨m, hm14, h7, -⟩, -⟩ := hg
  intro i hi key L hT
  have hi' := hi
  rw [h7, pu_cl (by omega)] at hi'
  rw [h17 i (by omega), h18 i (by omega), h19 i (by omega), ha (3 + i) (by omega) (by omega) (by omega)]
  exact h i hi key L hT
theorem wt_LS {σ σ' : ovSt} {g : Nat → Int32} {t key : Nat} {C : List Int32} (hg : pu_WG g) (h : pu_LS σ g) (ht : t < 14) (h7 : g 7 = nI t) (hk : key < 3) (hL : C.length ≤ 96) (ha : ∀ i, 3 ≤ i → i ≤ 16 → i ≠ 3 + t → σ' i = σ i) (h17 : σ' 17 = upd (σ 17) t (nI C.length)) (h18 : σ' 18 = upd (σ 18) t (nI key)) (h19 : σ' 19 = upd (σ 19) t (nI (tk_lv C))) (hc : ∀ q, q < C.length → pu_crel (σ' (3 + t) q) (C.getD q 0)) : pu_LS σ' (wt_g g t key C) := by
  intro i hi k2 L2 hT
  rw [wt_7, pu_cl (by omega)] at hi
  by_cases z : i = t
  · subst z
    have e := hT.1
    rw [wt_t ht] at e
    have b1 := hT.2.1
    have b2 := hT.2.2.2.1
    have e2 := (nI_eq (by omega) (by omega)).mp e
    have ek : k2 = key := by omega
    have eL : L2 = C.length := by omega
    subst ek
    subst eL
    rw [h17, h18, h19, pu_ue, pu_ue, pu_ue, wt_t1 ht]
    refine ⟨rfl, rfl, rfl, fun q hq => ?_⟩
    rw [wt_c hq]
    exact hc q hq
  · have hT2 := (wt_TG_old ht hL (show i < 14 by omega) z k2 L2).mp hT
    have q := h i (by rw [h7, pu_cl (by omega)]; omega) k2 L2 hT2
    have b2 := hT2.2.2.2.1
    rw [h17, h18, h19, pu_un z, pu_un z, pu_un z, ha (3 + i) (by omega) (by omega) (by omega), wt_at (c := 40 + 2 * i + 1) (by omega) (by omega) (by omega) (by omega)]
    refine ⟨q.1, q.2.1, q.2.2.1, fun j hj => ?_⟩
    rw [wt_at (c := 68 + 96 * i + j) (by omega) (by omega) (by omega) (by omega)]
    exact q.2.2.2 j hj
/-! the model writes it -/
theorem p6_text_loop {k : Int32 → ovSt → Prop} {t : Nat} (ht : t < 14) {C : List Int32} (hL : C.length ≤ 96) {f : Nat → Int32} (h7 : f 7 = nI t) : ∀ (m j : Nat) (σ : ovSt), j + m = C.length → σ 74 18 = nI C.length → (∀ i, i < C.length → σ 84 i = C.getD i 0) → σ 75 = wt_p f t C j → (∀ σ', pu_ag (fun i => i = 75) σ σ' → σ' 75 = upd (wt_p f t C C.length) 7 (nI (t + 1)) → k (nI t) σ') → F_X6_text_117 k (m + 1) (nI t) (nI j) σ
  | 0, j, σ, hj, h18, h84, e, h => by
    have ej : j = C.length := by omega
    subst ej
    unfold F_X6_text_117
    rw [h18, if_pos (Int32.le_refl _)]
    refine ⟨vp_in_nI (n := 7) (by decide) (by decide), ?_⟩
    intro σ2 e2
    refine h σ2 (by rw [e2]; exact pu_ag.up1 rfl) ?_
    rw [e2, pu_up_same, e]
    have q : wt_p f t C C.length (Int32.toNatClampNeg 7) = nI t := by
      show wt_p f t C C.length 7 = nI t
      unfold wt_p
      rw [if_neg (by omega)]
      exact h7
    rw [q, ← nI_succ]
    rfl
  | m + 1, j, σ, hj, h18, h84, e, h => by
    unfold F_X6_text_117
    have ei : (68 + (96 * nI t)) + nI j = nI (68 + 96 * t + j) := by
      rw [show (68 : Int32) = nI 68 from rfl, show (96 : Int32) = nI 96 from rfl, pk_mul, nI_add, nI_add]
    rw [h18, if_neg (by rw [nI_leI (by omega) (by omega)]; omega), ei, pu_cl (by omega), pu_cl (by omega), ← nI_succ, h84 j (by omega)]
    refine ⟨vp_in_nI (by omega) (by omega), vp_in_nI (by omega) (by omega), ?_⟩
    intro σ5 e5
    have a5 : pu_ag (fun i => i = 75) σ σ5 := by rw [e5]; exact pu_ag.up1 rfl
    refine p6_text_loop ht hL h7 m (j + 1) σ5 (by omega) (by rw [a5 74 (by omega), h18]) (fun i hi => by rw [a5 84 (by omega)]; exact h84 i hi) ?_ (fun σ6 h6 => h σ6 (a5.tr h6))
    rw [e5, pu_up_same, e, wt_p1]
theorem p6_text_ok {k : Int32 → ovSt → Prop} {t key : Nat} (ht : t < 14) (hk : key < 3) {C : List Int32} (hL : C.length ≤ 96) {σ : ovSt} {g : Nat → Int32} (e : σ 75 = g) (h7 : g 7 = nI t) (h14 : σ 74 14 = nI key) (h18 : σ 74 18 = nI C.length) (h19 : σ 74 19 = nI (tk_lv C)) (h84 : ∀ i, i < C.length → σ 84 i = C.getD i 0) (h : ∀ σ', pu_ag (fun i => i = 74 ∨ i = 75) σ σ' → (∀ q, q ≠ 8 → σ' 74 q = σ 74 q) → σ' 74 8 = 0 → σ' 75 = wt_g g t key C → k (nI t) σ') : F_X6_text_33 k 1 σ := by
  unfold F_X6_text_33
  intro σ1 e1
  rw [if_neg (by decide)]
  refine ⟨vp_in_nI (n := 7) (by decide) (by decide), ?_⟩
  have f75 : σ1 75 = g := by rw [e1, pu_up_ne (by omega), e]
  rw [show σ1 75 (Int32.toNatClampNeg 7) = nI t from by rw [f75]; exact h7, if_neg (by rw [show (14 : Int32) = nI 14 from rfl, nI_eq (by omega) (by omega)]; omega)]
  intro v hv
  subst hv
  have ei : 40 + (2 * nI t) = nI (40 + 2 * t) := by rw [show (40 : Int32) = nI 40 from rfl, show (2 : Int32) = nI 2 from rfl, pk_mul, nI_add]
  have s1 : ∀ q, q ≠ 8 → σ1 74 q = σ 74 q := fun q hq => by rw [e1, pu_up_same, pu_un hq]
  rw [ei, pu_cl (by omega), nI_1, pu_cl (by omega), s1 14 (by omega), s1 18 (by omega), h14, h18, show (1000 : Int32) = nI 1000 from rfl, pk_mul, nI_add]
  refine ⟨vp_in_nI (by omega) (by omega), ?_⟩
  intro σ2 e2
  refine ⟨vp_in_nI (by omega) (by omega), ?_⟩
  rw [show σ2 74 19 = nI (tk_lv C) from by rw [e2, pu_up_ne (by omega), s1 19 (by omega), h19]]
  intro σ3 e3
  have a3 : pu_ag (fun i => i = 74 ∨ i = 75) σ σ3 := by
    rw [e3]; refine pu_ag.up ?_ (Or.inr rfl)
    rw [e2]; refine pu_ag.up ?_ (Or.inr rfl)
    rw [e1]; exact pu_ag.up1 (Or.inl rfl)
  have s3 : σ3 74 = σ1 74 := by rw [e3, pu_up_ne (by omega), e2, pu_up_ne (by omega)]
  have r3 : σ3 75 = upd (upd g (40 + 2 * t) (nI (1000 * key + C.length))) (40 + 2 * t + 1) (nI (tk_lv C)) := by rw [e3, pu_up_same, e2, pu_up_same, f75]
  refine ⟨C.length + 1, p6_text_loop ht hL (f := upd (upd g (40 + 2 * t) (nI (1000 * key + C.length))) (40 + 2 * t + 1) (nI (tk_lv C))) ?_ C.length 0 σ3 (by omega) (by rw [s3, s1 18 (by omega), h18]) (fun i hi => by rw [a3 84 (by omega)]; exact h84 i hi) (by rw [r3, wt_p0]) (fun σ4 h4 e4 => ?_)⟩
  · rw [pu_un (by omega), pu_un (by omega), h7]
  · refine h σ4 (a3.tr (h4.mono (fun i hi => Or.inr hi))) (fun q hq => by rw [h4 74 (by omega), s3, s1 q hq]) ?_ ?_
    · rw [h4 74 (by omega), s3, e1, pu_up_same, pu_ue]
    · rw [e4]; rfl
