/-! ===== words and signs of the tape ===== -/
def tk_L (b : Nat) : Bool := decide (97 ≤ b) && decide (b ≤ 122)
def tk_D (b : Nat) : Bool := decide (48 ≤ b) && decide (b ≤ 57)
def tk_run (f : Nat → Bool) : Nat → Nat → Nat
  | 0, p => p
  | m + 1, p => if f p = true then tk_run f m (p + 1) else p
def tk_sk (T : Nat → Nat) (n e : Nat) : Nat := tk_run (fun i => decide (T i = 32)) (n - e) e
def tk_lt (T : Nat → Nat) (n s : Nat) : Nat := tk_run (fun i => tk_L (T i)) (n - s) s
def tk_dg (T : Nat → Nat) (n s : Nat) : Nat := tk_run (fun i => tk_D (T i)) (n - s) s
/-- what stands at s; gl: right behind a word -/
def tk_as (T : Nat → Nat) (n : Nat) (gl : Bool) (s : Nat) : Int32 × Nat × Nat :=
  if n ≤ s then (-1, s, s)
  else if tk_L (T s) = true then ((if gl = true then -4 else -2), s, tk_lt T n s)
  else if tk_D (T s) = true then ((if gl = true ∨ 4 < tk_dg T n s - s then -4 else -3), s, tk_dg T n s)
  else (nI (T s), s, s + 1)
def tk_at (T : Nat → Nat) (n : Nat) (bw : Bool) (e : Nat) : Int32 × Nat × Nat := tk_as T n (bw && decide (tk_sk T n e = e)) (tk_sk T n e)
def tk_wd (k : Int32) : Bool := decide (k = -2) || decide (k = -3)
def tk_nx (T : Nat → Nat) (n : Nat) (c : Int32 × Nat × Nat) : Int32 × Nat × Nat := tk_at T n (tk_wd c.1) c.2.2
theorem tk_run_le (f : Nat → Bool) : ∀ (m p : Nat), p ≤ tk_run f m p ∧ tk_run f m p ≤ p + m
  | 0, p => ⟨Nat.le_refl _, Nat.le_refl _⟩
  | m + 1, p => by
    unfold tk_run
    have h := tk_run_le f m (p + 1)
    split
    · omega
    · omega
theorem tk_run_pos {f : Nat → Bool} {m p : Nat} (hm : 0 < m) (h : f p = true) : p < tk_run f m p := by
  cases m with
  | zero => exact absurd hm (by omega)
  | succ m =>
    unfold tk_run
    rw [if_pos h]
    have := tk_run_le f m (p + 1)
    omega
theorem tk_sk_le {T : Nat → Nat} {n e : Nat} (h : e ≤ n) : e ≤ tk_sk T n e ∧ tk_sk T n e ≤ n := by
  have := tk_run_le (fun i => decide (T i = 32)) (n - e) e
  unfold tk_sk
  omega
/-- a token is well placed -/
def tk_ok (n : Nat) (c : Int32 × Nat × Nat) : Prop := c.2.1 ≤ c.2.2 ∧ c.2.2 ≤ n ∧ (¬ c.1 = -1 → c.2.1 < c.2.2)
theorem tk_as_ok {T : Nat → Nat} {n s : Nat} (gl : Bool) (h : s ≤ n) : tk_ok n (tk_as T n gl s) ∧ (tk_as T n gl s).2.1 = s := by
  unfold tk_as
  by_cases z : n ≤ s
  · rw [if_pos z]; exact ⟨⟨Nat.le_refl _, h, fun q => absurd rfl q⟩, rfl⟩
  rw [if_neg z]
  by_cases zl : tk_L (T s) = true
  · rw [if_pos zl]
    have h1 := tk_run_le (fun i => tk_L (T i)) (n - s) s
    have h2 := tk_run_pos (f := fun i => tk_L (T i)) (m := n - s) (p := s) (by omega) zl
    refine ⟨⟨?_, ?_, fun _ => ?_⟩, rfl⟩
    · show s ≤ tk_lt T n s; unfold tk_lt; omega
    · show tk_lt T n s ≤ n; unfold tk_lt; omega
    · show s < tk_lt T n s; unfold tk_lt; omega
  rw [if_neg zl]
  by_cases zd : tk_D (T s) = true
  · rw [if_pos zd]
    have h1 := tk_run_le (fun i => tk_D (T i)) (n - s) s
    have h2 := tk_run_pos (f := fun i => tk_D (T i)) (m := n - s) (p := s) (by omega) zd
    refine ⟨⟨?_, ?_, fun _ => ?_⟩, rfl⟩
    · show s ≤ tk_dg T n s; unfold tk_dg; omega
    · show tk_dg T n s ≤ n; unfold tk_dg; omega
    · show s < tk_dg T n s; unfold tk_dg; omega
  rw [if_neg zd]
  refine ⟨⟨?_, ?_, fun _ => ?_⟩, rfl⟩
  · show s ≤ s + 1; omega
  · show s + 1 ≤ n; omega
  · show s < s + 1; omega
theorem tk_nx_ok {T : Nat → Nat} {n : Nat} {c : Int32 × Nat × Nat} (h : tk_ok n c) : tk_ok n (tk_nx T n c) ∧ c.2.2 ≤ (tk_nx T n c).2.1 := by
  have hs := tk_sk_le (T := T) h.2.1
  obtain ⟨h1, h2⟩ := tk_as_ok (T := T) (tk_wd c.1 && decide (tk_sk T n c.2.2 = c.2.2)) hs.2
  unfold tk_nx tk_at
  exact ⟨h1, by rw [h2]; exact hs.1⟩
/-- the class's bytes, the model's bytes -/
def tk_BC (σ : ovSt) (T : Nat → Nat) (n : Nat) : Prop := n ≤ 96 ∧ σ 45 2 = nI n ∧ ∀ i, i < n → T i < 256 ∧ σ 46 i = pu_byte (T i)
def tk_BM (σ : ovSt) (T : Nat → Nat) (n : Nat) : Prop := n ≤ 96 ∧ σ 74 8 = nI n ∧ ∀ i, i < n → T i < 256 ∧ σ 81 i = nI (T i)
theorem pu_byte_int {b : Nat} (h : b < 256) : (b < 128 ∧ (pu_byte b).toInt = (b : Int)) ∨ (128 ≤ b ∧ (pu_byte b).toInt = (b : Int) - 256) := by
  unfold pu_byte
  by_cases z : b < 128
  · rw [if_pos z]; exact Or.inl ⟨z, nI_toInt (by omega)⟩
  · rw [if_neg z]; exact Or.inr ⟨by omega, by rw [show (256 : Int32) = nI 256 from rfl, pk_sub_toInt (by omega) (by decide)]; rfl⟩
theorem tk_L_iff (b : Nat) : tk_L b = true ↔ 97 ≤ b ∧ b ≤ 122 := by
  unfold tk_L
  rw [Bool.and_eq_true, decide_eq_true_iff, decide_eq_true_iff]
theorem tk_D_iff (b : Nat) : tk_D b = true ↔ 48 ≤ b ∧ b ≤ 57 := by
  unfold tk_D
  rw [Bool.and_eq_true, decide_eq_true_iff, decide_eq_true_iff]
theorem e4_isLetter {σ : ovSt} {T : Nat → Nat} {n p : Nat} (hB : tk_BC σ T n) (hp : p < n) (k : Int32 → ovSt → Prop) : F_X4_isLetter (nI p) σ k = (if tk_L (T p) = true then k 1 σ else k 0 σ) := by
  obtain ⟨b1, b2, b3⟩ := hB
  obtain ⟨t1, t2⟩ := b3 p hp
  unfold F_X4_isLetter F_X4_isLetter_26 F_X4_isLetter_27
  rw [pu_and (vp_in_nI (show p < 96 by omega) (by omega)), pu_and pu_bl0, pu_and pu_bl1, pu_cl (by omega), t2]
  have e1 : (97 : Int32).toInt = 97 := rfl
  have e2 : (122 : Int32).toInt = 122 := rfl
  have hb := pu_byte_int t1
  by_cases z1 : pu_byte (T p) < 97
  · rw [if_pos z1, if_neg (by rw [tk_L_iff]; rw [fa_lt] at z1; omega)]
  rw [if_neg z1]
  by_cases z2 : 122 < pu_byte (T p)
  · rw [if_pos z2, if_neg (by rw [tk_L_iff]; rw [fa_lt] at z1 z2; omega)]
  · rw [if_neg z2, if_pos (by rw [tk_L_iff]; rw [fa_lt] at z1 z2; omega)]
theorem e4_isDigit {σ : ovSt} {T : Nat → Nat} {n p : Nat} (hB : tk_BC σ T n) (hp : p < n) (k : Int32 → ovSt → Prop) : F_X4_isDigit (nI p) σ k = (if tk_D (T p) = true then k 1 σ else k 0 σ) := by
  obtain ⟨b1, b2, b3⟩ := hB
  obtain ⟨t1, t2⟩ := b3 p hp
  unfold F_X4_isDigit F_X4_isDigit_26 F_X4_isDigit_27
  rw [pu_and (vp_in_nI (show p < 96 by omega) (by omega)), pu_and pu_bl0, pu_and pu_bl1, pu_cl (by omega), t2]
  have e1 : (48 : Int32).toInt = 48 := rfl
  have e2 : (57 : Int32).toInt = 57 := rfl
  have hb := pu_byte_int t1
  by_cases z1 : pu_byte (T p) < 48
  · rw [if_pos z1, if_neg (by rw [tk_D_iff]; rw [fa_lt] at z1; omega)]
  rw [if_neg z1]
  by_cases z2 : 57 < pu_byte (T p)
  · rw [if_pos z2, if_neg (by rw [tk_D_iff]; rw [fa_lt] at z1 z2; omega)]
  · rw [if_neg z2, if_pos (by rw [tk_D_iff]; rw [fa_lt] at z1 z2; omega)]
theorem e6_isLetter {σ : ovSt} {T : Nat → Nat} {n p : Nat} (hB : tk_BM σ T n) (hp : p ≤ n) (k : Int32 → ovSt → Prop) : F_X6_isLetter (nI p) σ k = (if p < n ∧ tk_L (T p) = true then k 1 σ else k 0 σ) := by
  obtain ⟨b1, b2, b3⟩ := hB
  unfold F_X6_isLetter F_X6_isLetter_34 F_X6_isLetter_35
  rw [b2, pu_and pu_bl0, pu_and pu_bl1]
  by_cases zn : n ≤ p
  · rw [if_pos (nI_le zn (by omega)), if_neg (by omega)]
  obtain ⟨t1, t2⟩ := b3 p (by omega)
  rw [if_neg (by rw [nI_leI (by omega) (by omega)]; exact zn), pu_and (vp_in_nI (show p < 96 by omega) (by omega)), pu_cl (by omega), t2]
  by_cases z1 : T p < 97
  · rw [if_pos (show nI (T p) < (97 : Int32) from nI_lt (b := 97) z1 (by omega)), if_neg (by rw [tk_L_iff]; omega)]
  rw [if_neg (by rw [show (97 : Int32) = nI 97 from rfl, nI_ltI (by omega) (by omega)]; exact z1)]
  by_cases z2 : 122 < T p
  · rw [if_pos (show (122 : Int32) < nI (T p) from nI_lt (a := 122) z2 (by omega)), if_neg (by rw [tk_L_iff]; omega)]
  · rw [if_neg (by rw [show (122 : Int32) = nI 122 from rfl, nI_ltI (by omega) (by omega)]; exact z2), if_pos (by rw [tk_L_iff]; omega)]
theorem e6_isFigure {σ : ovSt} {T : Nat → Nat} {n p : Nat} (hB : tk_BM σ T n) (hp : p ≤ n) (k : Int32 → ovSt → Prop) : F_X6_isFigure (nI p) σ k = (if p < n ∧ tk_D (T p) = true then k 1 σ else k 0 σ) := by
  obtain ⟨b1, b2, b3⟩ := hB
  unfold F_X6_isFigure F_X6_isFigure_34 F_X6_isFigure_35
  rw [b2, pu_and pu_bl0, pu_and pu_bl1]
  by_cases zn : n ≤ p
  · rw [if_pos (nI_le zn (by omega)), if_neg (by omega)]
  obtain ⟨t1, t2⟩ := b3 p (by omega)
  rw [if_neg (by rw [nI_leI (by omega) (by omega)]; exact zn), pu_and (vp_in_nI (show p < 96 by omega) (by omega)), pu_cl (by omega), t2]
  by_cases z1 : T p < 48
  · rw [if_pos (show nI (T p) < (48 : Int32) from nI_lt (b := 48) z1 (by omega)), if_neg (by rw [tk_D_iff]; omega)]
  rw [if_neg (by rw [show (48 : Int32) = nI 48 from rfl, nI_ltI (by omega) (by omega)]; exact z1)]
  by_cases z2 : 57 < T p
  · rw [if_pos (show (57 : Int32) < nI (T p) from nI_lt (a := 57) z2 (by omega)), if_neg (by rw [tk_D_iff]; omega)]
  · rw [if_neg (by rw [show (57 : Int32) = nI 57 from rfl, nI_ltI (by omega) (by omega)]; exact z2), if_pos (by rw [tk_D_iff]; omega)]
/-! the class's next -/
/-- only these slots of the tape's object change -/
def tk_e45 (σ σ' : ovSt) (Z : Nat → Prop) : Prop := pu_ag (fun i => i = 45) σ σ' ∧ ∀ q, ¬ Z q → σ' 45 q = σ 45 q
theorem tk_e45.rf (σ : ovSt) (Z : Nat → Prop) : tk_e45 σ σ Z := ⟨pu_ag.rf _ σ, fun _ _ => rfl⟩
theorem tk_e45.tr {a b c : ovSt} {Z : Nat → Prop} (h1 : tk_e45 a b Z) (h2 : tk_e45 b c Z) : tk_e45 a c Z := ⟨h1.1.tr h2.1, fun q hq => (h2.2 q hq).trans (h1.2 q hq)⟩
theorem tk_e45.mono {a b : ovSt} {Y Z : Nat → Prop} (h : tk_e45 a b Y) (hz : ∀ q, Y q → Z q) : tk_e45 a b Z := ⟨h.1, fun q hq => h.2 q (fun y => hq (hz q y))⟩
theorem tk_e45.up {a b : ovSt} {Z : Nat → Prop} (h : tk_e45 a b Z) {q : Nat} (hq : Z q) (v : Int32) : tk_e45 a (ov_up b 45 q v) Z :=
  ⟨pu_ag.up h.1 rfl, fun j hj => by rw [pu_up_same, pu_un (fun e => hj (by rw [e]; exact hq))]; exact h.2 j hj⟩
theorem tk_BC.e {σ σ' : ovSt} {T : Nat → Nat} {n : Nat} {Z : Nat → Prop} (h : tk_BC σ T n) (he : tk_e45 σ σ' Z) (hZ : ¬ Z 2) : tk_BC σ' T n := by
  obtain ⟨h1, h2, h3⟩ := h
  refine ⟨h1, by rw [he.2 2 hZ]; exact h2, fun i hi => ?_⟩
  rw [he.1 46 (by omega)]
  exact h3 i hi
theorem pu_byte_eq {b c : Nat} (hb : b < 256) (hc : c < 128) : pu_byte b = nI c ↔ b = c := by
  rw [fa_eq, nI_toInt (by omega)]
  have := pu_byte_int hb
  omega
theorem p4_skip {k : ovSt → Prop} {x1 : Int32} {T : Nat → Nat} {n : Nat} : ∀ (m p : Nat) (σ : ovSt), p + m = n → tk_BC σ T n → σ 45 4 = nI p → (∀ σ', tk_e45 σ σ' (fun q => q = 4) → σ' 45 4 = nI (tk_run (fun i => decide (T i = 32)) m p) → F_X4_next_70 k x1 σ') → F_X4_next_32 k (m + 1) x1 σ
  | 0, p, σ, hp, hB, h4, h => by
    have ep : p = n := by omega
    subst ep
    have hn := hB.1
    unfold F_X4_next_32
    rw [hB.2.1, h4, if_pos (Int32.le_refl _)]
    exact h σ (tk_e45.rf _ _) h4
  | m + 1, p, σ, hp, hB, h4, h => by
    have hn := hB.1
    unfold F_X4_next_32
    rw [hB.2.1, h4, if_neg (by rw [nI_leI (by omega) (by omega)]; omega), pu_cl (by omega)]
    refine ⟨vp_in_nI (by omega) (by omega), ?_⟩
    obtain ⟨t1, t2⟩ := hB.2.2 p (by omega)
    rw [t2]
    unfold tk_run at h
    by_cases z : T p = 32
    · rw [if_pos (by rw [z]; decide)]
      rw [if_pos (decide_eq_true z)] at h
      rw [← nI_succ]
      intro σ1 e1
      have q1 : tk_e45 σ σ1 (fun q => q = 4) := by rw [e1]; exact tk_e45.up (Z := fun q => q = 4) (tk_e45.rf _ _) rfl _
      exact p4_skip m (p + 1) σ1 (by omega) (hB.e q1 (by omega)) (by rw [e1, pu_up_same, pu_ue]) (fun σ2 h2 => h σ2 (q1.tr h2))
    · rw [if_neg (by rw [show (32 : Int32) = nI 32 from rfl, pu_byte_eq t1 (by omega)]; exact z)]
      rw [if_neg (by rw [decide_eq_true_iff]; exact z)] at h
      exact h σ (tk_e45.rf _ _) h4
theorem p4_lrun {k : ovSt → Prop} {x2 : Int32} {T : Nat → Nat} {n : Nat} : ∀ (m p : Nat) (σ : ovSt), p + m = n → tk_BC σ T n → σ 45 5 = nI p → (∀ σ', tk_e45 σ σ' (fun q => q = 5) → σ' 45 5 = nI (tk_run (fun i => tk_L (T i)) m p) → F_X4_next_164 k x2 σ') → F_X4_next_129 k (m + 1) x2 σ
  | 0, p, σ, hp, hB, h5, h => by
    have ep : p = n := by omega
    subst ep
    unfold F_X4_next_129
    rw [hB.2.1, h5, if_pos (Int32.le_refl _)]
    exact h σ (tk_e45.rf _ _) h5
  | m + 1, p, σ, hp, hB, h5, h => by
    have hn := hB.1
    unfold F_X4_next_129
    rw [hB.2.1, h5, if_neg (by rw [nI_leI (by omega) (by omega)]; omega), e4_isLetter hB (by omega)]
    unfold tk_run at h
    by_cases z : tk_L (T p) = true
    · rw [if_pos z, if_neg (by decide), h5, ← nI_succ]
      rw [if_pos z] at h
      intro σ1 e1
      have q1 : tk_e45 σ σ1 (fun q => q = 5) := by rw [e1]; exact tk_e45.up (Z := fun q => q = 5) (tk_e45.rf _ _) rfl _
      exact p4_lrun m (p + 1) σ1 (by omega) (hB.e q1 (by omega)) (by rw [e1, pu_up_same, pu_ue]) (fun σ2 h2 => h σ2 (q1.tr h2))
    · rw [if_neg z, if_pos rfl]
      rw [if_neg z] at h
      exact h σ (tk_e45.rf _ _) h5
theorem p4_drun {k : ovSt → Prop} {x2 : Int32} {T : Nat → Nat} {n : Nat} : ∀ (m p : Nat) (σ : ovSt), p + m = n → tk_BC σ T n → σ 45 5 = nI p → (∀ σ', tk_e45 σ σ' (fun q => q = 5) → σ' 45 5 = nI (tk_run (fun i => tk_D (T i)) m p) → F_X4_next_228 k x2 σ') → F_X4_next_193 k (m + 1) x2 σ
  | 0, p, σ, hp, hB, h5, h => by
    have ep : p = n := by omega
    subst ep
    unfold F_X4_next_193
    rw [hB.2.1, h5, if_pos (Int32.le_refl _)]
    exact h σ (tk_e45.rf _ _) h5
  | m + 1, p, σ, hp, hB, h5, h => by
    have hn := hB.1
    unfold F_X4_next_193
    rw [hB.2.1, h5, if_neg (by rw [nI_leI (by omega) (by omega)]; omega), e4_isDigit hB (by omega)]
    unfold tk_run at h
    by_cases z : tk_D (T p) = true
    · rw [if_pos z, if_neg (by decide), h5, ← nI_succ]
      rw [if_pos z] at h
      intro σ1 e1
      have q1 : tk_e45 σ σ1 (fun q => q = 5) := by rw [e1]; exact tk_e45.up (Z := fun q => q = 5) (tk_e45.rf _ _) rfl _
      exact p4_drun m (p + 1) σ1 (by omega) (hB.e q1 (by omega)) (by rw [e1, pu_up_same, pu_ue]) (fun σ2 h2 => h σ2 (q1.tr h2))
    · rw [if_neg z, if_pos rfl]
      rw [if_neg z] at h
      exact h σ (tk_e45.rf _ _) h5
def tk_C (σ : ovSt) (c : Int32 × Nat × Nat) : Prop := σ 45 3 = c.1 ∧ σ 45 4 = nI c.2.1 ∧ σ 45 5 = nI c.2.2
def tk_Z (q : Nat) : Prop := q = 3 ∨ q = 4 ∨ q = 5
theorem pu_byte_and {b : Nat} (h : b < 256) : pu_byte b &&& 255 = nI b := by
  unfold pu_byte
  by_cases z : b < 128
  · rw [if_pos z, pk_andN (by omega) 8 (by decide)]
    congr 1
    omega
  · rw [if_neg z]
    have e : ∀ b : Nat, b < 256 → (nI b - 256) &&& 255 = nI b := by decide +kernel
    exact e b h
theorem p4_next90 {k : ovSt → Prop} {T : Nat → Nat} {n s : Nat} (gl : Bool) (hs : s ≤ n) {σ : ovSt} (hB : tk_BC σ T n) (h4 : σ 45 4 = nI s) (h : ∀ σ', tk_e45 σ σ' tk_Z → tk_C σ' (tk_as T n gl s) → k σ') : F_X4_next_90 k (if gl = true then 1 else 0) σ := by
  have hn := hB.1
  unfold F_X4_next_90
  intro σ1 e1
  rw [h4] at e1
  have q1 : tk_e45 σ σ1 tk_Z := by rw [e1]; exact (tk_e45.rf _ _).up (Or.inr (Or.inr rfl)) _
  have B1 := hB.e q1 (by unfold tk_Z; omega)
  have f4 : σ1 45 4 = nI s := by rw [e1, pu_up_same, pu_un (by omega), h4]
  have f5 : σ1 45 5 = nI s := by rw [e1, pu_up_same, pu_ue]
  rw [f4, B1.2.1]
  unfold tk_as at h
  by_cases z : n ≤ s
  · rw [if_pos z] at h
    rw [if_neg (by rw [nI_ltI (by omega) (by omega)]; omega)]
    intro σ2 e2
    unfold F_X4_next_286
    refine h σ2 (by rw [e2]; exact q1.up (Or.inl rfl) _) ⟨?_, ?_, ?_⟩
    · rw [e2, pu_up_same, pu_ue]
    · rw [e2, pu_up_same, pu_un (by omega), f4]
    · rw [e2, pu_up_same, pu_un (by omega), f5]
  rw [if_neg z] at h
  rw [if_pos (nI_lt (by omega) (by omega)), e4_isLetter B1 (by omega)]
  by_cases zl : tk_L (T s) = true
  · rw [if_pos zl] at h
    rw [if_pos zl, if_neg (by decide)]
    refine ⟨n - s + 1, p4_lrun (T := T) (n := n) (n - s) s σ1 (by omega) B1 f5 (fun σ2 q2 g5 => ?_)⟩
    have q12 : tk_e45 σ σ2 tk_Z := q1.tr (q2.mono (fun q hq => Or.inr (Or.inr hq)))
    have fin : ∀ v : Int32, v = (if gl = true then -4 else -2) → F_X4_next_176 k v σ2 := by
      intro v hv
      unfold F_X4_next_176 F_X4_next_286
      intro σ3 e3
      refine h σ3 (by rw [e3]; exact q12.up (Or.inl rfl) _) ⟨?_, ?_, ?_⟩
      · rw [e3, pu_up_same, pu_ue, hv]
      · rw [e3, pu_up_same, pu_un (by omega), q2.2 4 (by omega), f4]
      · rw [e3, pu_up_same, pu_un (by omega), g5]; rfl
    unfold F_X4_next_164
    cases gl with
    | true => rw [if_pos rfl, if_neg (by decide)]; exact fin _ (by rw [if_pos rfl])
    | false => rw [if_pos (show (if false = true then (1 : Int32) else 0) = 0 from rfl)]; exact fin _ (by rw [if_neg (by decide)])
  rw [if_neg zl] at h
  rw [if_neg zl, if_pos rfl, f4, e4_isDigit B1 (by omega)]
  by_cases zd : tk_D (T s) = true
  · rw [if_pos zd] at h
    rw [if_pos zd, if_neg (by decide)]
    refine ⟨n - s + 1, p4_drun (T := T) (n := n) (n - s) s σ1 (by omega) B1 f5 (fun σ2 q2 g5 => ?_)⟩
    have q12 : tk_e45 σ σ2 tk_Z := q1.tr (q2.mono (fun q hq => Or.inr (Or.inr hq)))
    have g4 : σ2 45 4 = nI s := by rw [q2.2 4 (by omega), f4]
    have hr := tk_run_le (fun i => tk_D (T i)) (n - s) s
    have g5' : σ2 45 5 = nI (tk_dg T n s) := g5
    have hd : s ≤ tk_dg T n s ∧ tk_dg T n s ≤ n := by unfold tk_dg; omega
    have fin : ∀ v : Int32, v = (if gl = true ∨ 4 < tk_dg T n s - s then -4 else -3) → F_X4_next_253 k v σ2 := by
      intro v hv
      unfold F_X4_next_253 F_X4_next_286
      intro σ3 e3
      refine h σ3 (by rw [e3]; exact q12.up (Or.inl rfl) _) ⟨?_, ?_, ?_⟩
      · rw [e3, pu_up_same, pu_ue, hv]
      · rw [e3, pu_up_same, pu_un (by omega), g4]
      · rw [e3, pu_up_same, pu_un (by omega), g5']
    unfold F_X4_next_228 F_X4_next_246
    rw [g5', g4, pk_sub hd.1]
    cases gl with
    | true => rw [if_pos rfl, if_neg (by decide)]; exact fin _ (by rw [if_pos (Or.inl rfl)])
    | false =>
      rw [if_pos (show (if false = true then (1 : Int32) else 0) = 0 from rfl)]
      by_cases z4 : tk_dg T n s - s ≤ 4
      · rw [if_pos (show nI (tk_dg T n s - s) ≤ (4 : Int32) from nI_le (b := 4) z4 (by omega))]
        exact fin _ (by rw [if_neg (by rintro (q | q); exact absurd q (by decide); omega)])
      · rw [if_neg (by rw [show (4 : Int32) = nI 4 from rfl, nI_leI (by omega) (by omega)]; exact z4)]
        exact fin _ (by rw [if_pos (Or.inr (by omega))])
  rw [if_neg zd] at h
  rw [if_neg zd, if_pos rfl, f4]
  refine ⟨vp_in_nI (by omega) (by omega), ?_⟩
  obtain ⟨t1, t2⟩ := B1.2.2 s (by omega)
  rw [pu_cl (by omega), t2, pu_byte_and t1]
  intro σ2 e2 σ3 e3
  unfold F_X4_next_286
  rw [show σ2 45 5 = nI s from by rw [e2, pu_up_same, pu_un (by omega), f5], ← nI_succ] at e3
  refine h σ3 ?_ ⟨?_, ?_, ?_⟩
  · rw [e3]; refine tk_e45.up ?_ (Or.inr (Or.inr rfl)) _
    rw [e2]; exact q1.up (Or.inl rfl) _
  · rw [e3, pu_up_same, pu_un (by omega), e2, pu_up_same, pu_ue]
  · rw [e3, pu_up_same, pu_un (by omega), e2, pu_up_same, pu_un (by omega), f4]
  · rw [e3, pu_up_same, pu_ue]
theorem p4_next {k : ovSt → Prop} {T : Nat → Nat} {n : Nat} {c : Int32 × Nat × Nat} (he : c.2.2 ≤ n) {σ : ovSt} (hB : tk_BC σ T n) (h3 : σ 45 3 = c.1) (h5 : σ 45 5 = nI c.2.2) (h : ∀ σ', tk_e45 σ σ' tk_Z → tk_C σ' (tk_nx T n c) → k σ') : F_X4_next σ k := by
  have hn := hB.1
  have hs := tk_sk_le (T := T) he
  have key : ∀ (bw : Bool), tk_wd c.1 = bw → F_X4_next_23 k (if bw = true then 1 else 0) σ := by
    intro bw hbw
    unfold F_X4_next_23
    intro σ1 e1
    rw [h5] at e1
    have q1 : tk_e45 σ σ1 tk_Z := by rw [e1]; exact (tk_e45.rf _ _).up (Or.inr (Or.inl rfl)) _
    have B1 := hB.e q1 (by unfold tk_Z; omega)
    have f5 : σ1 45 5 = nI c.2.2 := by rw [e1, pu_up_same, pu_un (by omega), h5]
    refine ⟨n - c.2.2 + 1, p4_skip (T := T) (n := n) (n - c.2.2) c.2.2 σ1 (by omega) B1 (by rw [e1, pu_up_same, pu_ue]) (fun σ2 q2 g4 => ?_)⟩
    have g4 : σ2 45 4 = nI (tk_sk T n c.2.2) := g4
    have g5 : σ2 45 5 = nI c.2.2 := by rw [q2.2 5 (by omega), f5]
    have q12 : tk_e45 σ σ2 tk_Z := q1.tr (q2.mono (fun q hq => Or.inr (Or.inl hq)))
    have fin : ∀ gl : Bool, gl = (tk_wd c.1 && decide (tk_sk T n c.2.2 = c.2.2)) → F_X4_next_90 k (if gl = true then 1 else 0) σ2 := by
      intro gl hgl
      refine p4_next90 (T := T) (n := n) gl hs.2 (hB.e q12 (by unfold tk_Z; omega)) g4 (fun σ3 q3 hC => h σ3 (q12.tr q3) ?_)
      unfold tk_nx tk_at
      rw [← hgl]
      exact hC
    unfold F_X4_next_70 F_X4_next_89
    rw [hbw] at fin
    cases bw with
    | false =>
      rw [if_pos (show (if false = true then (1 : Int32) else 0) = 0 from rfl)]
      exact fin false rfl
    | true =>
      rw [if_pos rfl, if_neg (by decide), g4, g5]
      by_cases z : tk_sk T n c.2.2 = c.2.2
      · rw [if_pos (by rw [z])]
        exact fin true (by rw [decide_eq_true z]; rfl)
      · rw [if_neg (by rw [nI_eq (by omega) (by omega)]; exact z)]
        exact fin false (by rw [decide_eq_false z]; rfl)
  unfold F_X4_next F_X4_next_18
  rw [h3]
  unfold tk_wd at key
  by_cases z2 : c.1 = -2
  · rw [if_pos z2]
    exact key true (by rw [decide_eq_true z2]; rfl)
  · rw [if_neg z2]
    by_cases z3 : c.1 = -3
    · rw [if_pos z3]
      exact key true (by rw [decide_eq_true z3, Bool.or_true])
    · rw [if_neg z3]
      exact key false (by rw [decide_eq_false z2, decide_eq_false z3]; rfl)
