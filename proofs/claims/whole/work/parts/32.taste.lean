/-! ===== rows in the model's layout; what a stock of the class must be to be such a row ===== -/
def pu_cnt (g : Nat → Int32) (key : Int32) : Nat → Int32
  | 0 => -1
  | t + 1 => if g (40 + 2 * t) / 1000 = key then nI t else pu_cnt g key t
def pu_law (g : Nat → Int32) (key : Int32) : Int32 := pu_cnt g key (g 7).toNatClampNeg
/-- a row's texts -/
def pu_TG (g : Nat → Int32) (t key L : Nat) : Prop := g (40 + 2 * t) = nI (1000 * key + L) ∧ key < 3 ∧ 1 ≤ L ∧ L ≤ 96 ∧ pu_okc (if key = 0 then 3 else 2) (pu_rem (fun q => g (68 + 96 * t + q)) 0 L) 0
def pu_WG (g : Nat → Int32) : Prop :=
  (∃ n, n ≤ 8 ∧ g 1 = nI n) ∧ (∃ m, m ≤ 14 ∧ g 7 = nI m ∧ ∀ t, t < m → ∃ key L, pu_TG g t key L) ∧ pu_in (g 2) 1 999 ∧ pu_in (g 3) 0 999 ∧
  ∀ t, t < 8 → pu_in (g (8 + 4 * t)) 0 5 ∧ pu_in (g (8 + 4 * t + 1)) 0 9 ∧ pu_in (g (8 + 4 * t + 2)) 0 99999 ∧ pu_in (g (8 + 4 * t + 3)) 0 9999
/-- the class's texts are the row's -/
def pu_LS (σ : ovSt) (g : Nat → Int32) : Prop := ∀ t, t < (g 7).toNatClampNeg → ∀ key L, pu_TG g t key L → σ 17 t = nI L ∧ σ 18 t = nI key ∧ σ 19 t = g (40 + 2 * t + 1) ∧ ∀ q, q < L → pu_crel (σ (3 + t) q) (g (68 + 96 * t + q))
def pu_RS (σ : ovSt) (s : Nat) (g : Nat → Int32) : Prop :=
  (σ s 12 = g 0 ∧ σ s 6 = g 1 ∧ σ s 7 = g 2 ∧ σ s 8 = g 3 ∧ σ s 9 = g 4 ∧ σ s 10 = g 5 ∧ σ s 11 = g 6 ∧ σ s 13 = g 7) ∧
  (∀ t, t < 8 → σ (s + 1) t = g (8 + 4 * t) ∧ σ (s + 2) t = g (8 + 4 * t + 1) ∧ σ (s + 3) t = g (8 + 4 * t + 2) ∧ σ (s + 4) t = g (8 + 4 * t + 3)) ∧
  (∀ key, key < 3 → σ (s + 5) key = pu_law g (nI key))
theorem pu_cnt_in {g : Nat → Int32} {key : Int32} : ∀ (m : Nat), pu_cnt g key m = -1 ∨ ∃ t, t < m ∧ pu_cnt g key m = nI t ∧ g (40 + 2 * t) / 1000 = key
  | 0 => Or.inl rfl
  | m + 1 => by
    unfold pu_cnt
    by_cases h : g (40 + 2 * m) / 1000 = key
    · rw [if_pos h]; exact Or.inr ⟨m, Nat.lt_succ_self m, rfl, h⟩
    · rw [if_neg h]
      rcases pu_cnt_in m with q | ⟨t, q1, q2, q3⟩
      · exact Or.inl q
      · exact Or.inr ⟨t, Nat.lt_succ_of_lt q1, q2, q3⟩
/-- the model looks for the text that counts -/
theorem e6_counts_loop {k : Int32 → ovSt → Prop} {key : Int32} {σ : ovSt} : ∀ (m : Nat), m ≤ 14 → k (pu_cnt (σ 75) key m) σ → F_X6_counts_10 k (m + 1) key (nI m - 1) σ
  | 0, _, h => by
    unfold F_X6_counts_10
    rw [if_pos (by decide)]
    exact h
  | m + 1, hm, h => by
    unfold F_X6_counts_10
    rw [show nI (m + 1) - 1 = nI m from nI_pred m, if_neg (nI_pos (by omega)), show 40 + (2 * nI m) = nI (40 + 2 * m) by rw [show (40 : Int32) = nI 40 from rfl, show (2 : Int32) = nI 2 from rfl, pk_mul, nI_add], pu_cl (by omega)]
    refine ⟨vp_in_nI (by omega) (by omega), ?_⟩
    unfold pu_cnt at h
    by_cases z : σ 75 (40 + 2 * m) / 1000 = key
    · rw [if_pos z] at h ⊢; exact h
    · rw [if_neg z] at h ⊢
      rw [← Int32.sub_eq_add_neg]
      exact e6_counts_loop m (by omega) h
theorem p6_counts {k : Int32 → ovSt → Prop} {key : Int32} {σ : ovSt} {m : Nat} (hm : m ≤ 14) (h7 : σ 75 7 = nI m) (h : k (pu_law (σ 75) key) σ) : F_X6_counts key σ k := by
  unfold F_X6_counts
  refine ⟨vp_in_nI (n := 7) (by decide) (by decide), ?_⟩
  intro v hv
  refine ⟨m + 1, ?_⟩
  subst hv
  show F_X6_counts_10 k (m + 1) key (σ 75 7 - 1) σ
  rw [h7]
  refine e6_counts_loop m hm ?_
  unfold pu_law at h
  rw [h7, pu_cl (by omega)] at h
  exact h
def pu_fact (a b c : Int32) (i : Nat) : Int32 := if i = 0 then a else if i = 1 then b else c
def pu_tlen (g : Nat → Int32) (x : Nat) : Nat := (g (40 + 2 * x) - g (40 + 2 * x) / 1000 * 1000).toNatClampNeg
def pu_text (g : Nat → Int32) (x : Nat) (a b c : Int32) : Int32 := (pu_evl (pu_fact a b c) (pu_rem (fun q => g (68 + 96 * x + q)) 0 (pu_tlen g x)) []).headD 0
theorem pu_TG_len {g : Nat → Int32} {t key L : Nat} (h : pu_TG g t key L) : g (40 + 2 * t) - g (40 + 2 * t) / 1000 * 1000 = nI L ∧ g (40 + 2 * t) / 1000 = nI key := by
  obtain ⟨h1, h2, h3, h4, -⟩ := h
  rw [h1, show (1000 : Int32) = nI 1000 from rfl, pk_rem (by omega) (by decide) (by decide), pk_div (by omega) (by decide) (by decide)]
  constructor
  · congr 1; omega
  · congr 1; omega
theorem pu_TG_tlen {g : Nat → Int32} {t key L : Nat} (h : pu_TG g t key L) : pu_tlen g t = L := by
  unfold pu_tlen
  rw [(pu_TG_len h).1, pu_cl (by have := h.2.2.2.1; omega)]
/-- the model works out a text of the row -/
theorem p6_worksOut {k : Int32 → ovSt → Prop} {σ : ovSt} {t key L : Nat} (ht : t < 14) (hT : pu_TG (σ 75) t key L) {a b c : Int32} (h0 : σ 88 0 = a) (h1 : σ 88 1 = b) (h2 : key = 0 → σ 88 2 = c) (h : ∀ σ', pu_ag (fun i => i = 87) σ σ' → k (pu_text (σ 75) t a b c) σ') : F_X6_worksOut (nI t) σ k := by
  unfold F_X6_worksOut
  have ei : 40 + (2 * nI t) = nI (40 + 2 * t) := by rw [show (40 : Int32) = nI 40 from rfl, show (2 : Int32) = nI 2 from rfl, pk_mul, nI_add]
  rw [ei, pu_cl (by omega), (pu_TG_len hT).1]
  refine ⟨vp_in_nI (by omega) (by omega), ?_⟩
  intro v hv
  subst hv
  refine ⟨L + 1, ?_⟩
  have e := pu_TG_tlen hT
  obtain ⟨-, hk3, hL1, hL, hok⟩ := hT
  refine p6_run (g := σ 75) (fact := pu_fact a b c) (nn := if key = 0 then 3 else 2) (by split <;> omega) ht hL L 0 [] σ (by omega) (Nat.le_refl _) rfl (fun i hi => ?_) trivial hok (fun σ' ha => ?_)
  · unfold pu_fact
    by_cases z0 : i = 0
    · rw [if_pos z0, z0]; exact h0
    · rw [if_neg z0]
      by_cases z1 : i = 1
      · rw [if_pos z1, z1]; exact h1
      · rw [if_neg z1]
        by_cases zk : key = 0
        · rw [if_pos zk] at hi
          rw [show i = 2 by omega]; exact h2 zk
        · rw [if_neg zk] at hi; omega
  · have h9 := h σ' ha
    unfold pu_text at h9
    rw [e] at h9
    exact h9
/-- the class works out a text of the row -/
theorem p0_workOut {k : Int32 → ovSt → Prop} {σ : ovSt} {g : Nat → Int32} {t key L : Nat} (ht : t < 14) (htm : t < (g 7).toNatClampNeg) (hT : pu_TG g t key L) (hLS : pu_LS σ g) {a b c : Int32} (h : ∀ σ', pu_ag (fun i => i = 20) σ σ' → k (pu_text g t a b c) σ') : F_X0_workOut (nI t) a b c σ k := by
  obtain ⟨l1, -, -, l4⟩ := hLS t htm key L hT
  unfold F_X0_workOut
  refine ⟨vp_in_nI ht (by omega), vp_in_nI (n := 0) (by decide) (by decide), ?_⟩
  intro σ1 hσ1
  refine ⟨L + 1, ?_⟩
  have e := pu_TG_tlen hT
  obtain ⟨-, hk3, hL1, hL, hok⟩ := hT
  rw [pu_cl (by omega)]
  have hag : pu_ag (fun i => i = 20) σ σ1 := by rw [hσ1]; exact pu_ag.up (pu_ag.rf _ σ) rfl
  refine p0_run (p := fun q => g (68 + 96 * t + q)) ht hL L 0 [] σ1 (by omega) (Nat.le_refl _) (by rw [hag 17 (by decide)]; exact l1) (fun q hq => by rw [hag (3 + t) (by omega)]; exact l4 q hq) trivial hok (fun σ' ha => ?_)
  have h9 := h σ' (hag.tr ha)
  unfold pu_text at h9
  rw [e] at h9
  exact h9

/-! ===== the taste of a thing ===== -/
def pu_plain (g : Nat → Int32) (t : Nat) : Int32 := (g (8 + 4 * t + 2) * g (8 + 4 * t + 1)) / 100
def pu_old (g : Nat → Int32) (t : Nat) : Int32 := if g (8 + 4 * t + 2) ≤ 0 then 0 else pu_within (g (8 + 4 * t + 3)) 0 30
def pu_fades (g : Nat → Int32) (t : Nat) : Int32 := pu_within (if 0 ≤ pu_law g 0 then pu_text g (pu_law g 0).toNatClampNeg (g (8 + 4 * t + 2)) (g (8 + 4 * t + 3)) (pu_plain g t) else 2 * g (8 + 4 * t + 3)) 0 (pu_plain g t)
def pu_taste (g : Nat → Int32) (t : Nat) : Int32 :=
  if g (8 + 4 * t) = 1 then pu_plain g t + pu_old g t else if g (8 + 4 * t) = 2 then pu_plain g t - pu_fades g t else if g (8 + 4 * t) = 3 then 2 * (pu_plain g t + pu_old g t) else if g (8 + 4 * t) = 4 then (pu_plain g t - pu_fades g t) / 2 else if g (8 + 4 * t) = 5 then 2 * pu_plain g t else pu_plain g t
theorem pu_law_in {g : Nat → Int32} (hg : pu_WG g) (key : Nat) (hk : key < 3) : pu_law g (nI key) = -1 ∨ ∃ t L, t < 14 ∧ t < (g 7).toNatClampNeg ∧ pu_law g (nI key) = nI t ∧ pu_TG g t key L := by
  obtain ⟨-, ⟨m, hm, h7, hT⟩, -⟩ := hg
  unfold pu_law
  have e7 : (g 7).toNatClampNeg = m := by rw [h7]; exact pu_cl (by omega)
  rw [e7]
  rcases pu_cnt_in (g := g) (key := nI key) m with q | ⟨t, q1, q2, q3⟩
  · exact Or.inl q
  · obtain ⟨k2, L, hTG⟩ := hT t q1
    have e := (pu_TG_len hTG).2
    rw [q3] at e
    have e2 : key = k2 := (nI_eq (by omega) (by have := hTG.2.1; omega)).mp e
    subst e2
    exact Or.inr ⟨t, L, by omega, q1, q2, hTG⟩
theorem pu_m1 : ¬ (0 : Int32) ≤ -1 := by decide
theorem p6_fadesBy {k : Int32 → ovSt → Prop} {σ : ovSt} (hg : pu_WG (σ 75)) {t : Nat} (ht : t < 8) (h : ∀ σ', pu_ag (fun i => i = 87 ∨ i = 88) σ σ' → k (pu_fades (σ 75) t) σ') : F_X6_fadesBy (nI t) (pu_plain (σ 75) t) σ k := by
  unfold F_X6_fadesBy
  obtain ⟨m, hm, h7, hT⟩ := hg.2.1
  refine p6_counts hm h7 ?_
  rw [e6_of2 ht]
  refine ⟨vp_in_nI (n := 0) (by decide) (by decide), ?_⟩
  intro σ1 e1
  rw [e6_of3 ht]
  refine ⟨vp_in_nI (n := 1) (by decide) (by decide), ?_⟩
  intro σ2 e2
  refine ⟨vp_in_nI (n := 2) (by decide) (by decide), ?_⟩
  intro σ3 e3
  have a1 : pu_ag (fun i => i = 87 ∨ i = 88) σ σ1 := by rw [e1]; exact pu_ag.up (pu_ag.rf _ σ) (Or.inr rfl)
  have a2 : pu_ag (fun i => i = 87 ∨ i = 88) σ σ2 := by rw [e2]; exact pu_ag.up a1 (Or.inr rfl)
  have a3 : pu_ag (fun i => i = 87 ∨ i = 88) σ σ3 := by rw [e3]; exact pu_ag.up a2 (Or.inr rfl)
  have g1 : σ1 75 = σ 75 := a1 75 (by decide)
  have g3 : σ3 75 = σ 75 := a3 75 (by decide)
  unfold pu_fades at h
  rcases pu_law_in hg 0 (by decide) with q | ⟨x, L, hx, hxm, q, hTG⟩
  · have q : pu_law (σ 75) 0 = -1 := q
    rw [q] at h ⊢
    rw [if_neg pu_m1] at h ⊢
    rw [e6_of3 ht, g3]
    unfold F_X6_fadesBy_57
    rw [e6_within]
    exact h σ3 a3
  · have q : pu_law (σ 75) 0 = nI x := q
    rw [q] at h ⊢
    rw [if_pos (nI_pos' (by omega))] at h ⊢
    rw [pu_cl (by omega)] at h
    refine p6_worksOut (t := x) (key := 0) (L := L) hx (by rw [g3]; exact hTG) (a := σ 75 (8 + 4 * t + 2)) (b := σ 75 (8 + 4 * t + 3)) (c := pu_plain (σ 75) t) ?_ ?_ (fun _ => ?_) (fun σ' ha => ?_)
    · rw [e3, pu_up_same, e2, pu_up_same, e1, pu_up_same]; rfl
    · rw [e3, pu_up_same, e2, pu_up_same, g1]; rfl
    · rw [e3, pu_up_same]; rfl
    · unfold F_X6_fadesBy_57
      rw [e6_within, g3]
      exact h σ' (a3.tr (ha.mono (fun i hi => Or.inl hi)))
theorem p6_tasteOf {k : Int32 → ovSt → Prop} {σ : ovSt} (hg : pu_WG (σ 75)) {t : Nat} (ht : t < 8) (h : ∀ σ', pu_ag (fun i => i = 87 ∨ i = 88) σ σ' → k (pu_taste (σ 75) t) σ') : F_X6_tasteOf (nI t) σ k := by
  have key : F_X6_tasteOf_42 k (nI t) (pu_plain (σ 75) t) (pu_old (σ 75) t) σ := by
    unfold F_X6_tasteOf_42
    rw [e6_of0 ht]
    have h0 := h σ (pu_ag.rf _ σ)
    unfold pu_taste at h h0
    by_cases z1 : σ 75 (8 + 4 * t) = 1
    · rw [if_pos z1] at h0 ⊢; exact h0
    · rw [if_neg z1] at h0 h ⊢
      by_cases z2 : σ 75 (8 + 4 * t) = 2
      · rw [if_pos z2] at h ⊢; exact p6_fadesBy hg ht h
      · rw [if_neg z2] at h0 h ⊢
        by_cases z3 : σ 75 (8 + 4 * t) = 3
        · rw [if_pos z3] at h0 ⊢; exact h0
        · rw [if_neg z3] at h0 h ⊢
          by_cases z4 : σ 75 (8 + 4 * t) = 4
          · rw [if_pos z4] at h ⊢; exact p6_fadesBy hg ht h
          · rw [if_neg z4] at h0 ⊢
            by_cases z5 : σ 75 (8 + 4 * t) = 5
            · rw [if_pos z5] at h0 ⊢; exact h0
            · rw [if_neg z5] at h0 ⊢; exact h0
  unfold F_X6_tasteOf
  rw [e6_of2 ht, e6_of1 ht]
  intro v hv
  rw [e6_of2 ht, e6_of3 ht, e6_within, hv]
  unfold pu_old at key
  by_cases z : σ 75 (8 + 4 * t + 2) ≤ 0
  · rw [if_pos z] at key ⊢; exact key
  · rw [if_neg z] at key ⊢; exact key
