/-! the model's go -/
def tk_m (k : Int32) : Int32 := if k = -1 then 0 else if k = -2 then 1 else if k = -3 then 2 else if k = -4 then 4 else 3
def tk_val (T : Nat → Nat) (s : Nat) : Nat → Nat
  | 0 => 0
  | m + 1 => 10 * tk_val T s m + (T (s + m) - 48)
theorem tk_nIne {b : Nat} (h : b < 256) {x : Int32} (hx : x.toInt < 0) : ¬ nI b = x := by
  intro z
  rw [fa_eq, nI_toInt (by omega)] at z
  omega
theorem tk_m_sign {b : Nat} (h : b < 256) : tk_m (nI b) = 3 := by
  unfold tk_m
  rw [if_neg (tk_nIne h (by decide)), if_neg (tk_nIne h (by decide)), if_neg (tk_nIne h (by decide)), if_neg (tk_nIne h (by decide))]
theorem tk_wd_sign {b : Nat} (h : b < 256) : tk_wd (nI b) = false := by
  unfold tk_wd
  rw [decide_eq_false (tk_nIne h (by decide)), decide_eq_false (tk_nIne h (by decide))]
  rfl
def tk_e74 (σ σ' : ovSt) (Z : Nat → Prop) : Prop := pu_ag (fun i => i = 74) σ σ' ∧ ∀ q, ¬ Z q → σ' 74 q = σ 74 q
theorem tk_e74.rf (σ : ovSt) (Z : Nat → Prop) : tk_e74 σ σ Z := ⟨pu_ag.rf _ σ, fun _ _ => rfl⟩
theorem tk_e74.tr {a b c : ovSt} {Z : Nat → Prop} (h1 : tk_e74 a b Z) (h2 : tk_e74 b c Z) : tk_e74 a c Z := ⟨h1.1.tr h2.1, fun q hq => (h2.2 q hq).trans (h1.2 q hq)⟩
theorem tk_e74.mono {a b : ovSt} {Y Z : Nat → Prop} (h : tk_e74 a b Y) (hz : ∀ q, Y q → Z q) : tk_e74 a b Z := ⟨h.1, fun q hq => h.2 q (fun y => hq (hz q y))⟩
theorem tk_e74.up {a b : ovSt} {Z : Nat → Prop} (h : tk_e74 a b Z) {q : Nat} (hq : Z q) (v : Int32) : tk_e74 a (ov_up b 74 q v) Z :=
  ⟨pu_ag.up h.1 rfl, fun j hj => by rw [pu_up_same, pu_un (fun e => hj (by rw [e]; exact hq))]; exact h.2 j hj⟩
theorem tk_BM.e {σ σ' : ovSt} {T : Nat → Nat} {n : Nat} {Z : Nat → Prop} (h : tk_BM σ T n) (he : tk_e74 σ σ' Z) (hZ : ¬ Z 8) : tk_BM σ' T n := by
  obtain ⟨h1, h2, h3⟩ := h
  refine ⟨h1, by rw [he.2 8 hZ]; exact h2, fun i hi => ?_⟩
  rw [he.1 81 (by omega)]
  exact h3 i hi
def tk_Z6 (q : Nat) : Prop := 9 ≤ q ∧ q ≤ 13
def tk_M (σ : ovSt) (T : Nat → Nat) (c : Int32 × Nat × Nat) : Prop :=
  σ 74 9 = nI c.2.2 ∧ σ 74 10 = nI c.2.1 ∧ σ 74 11 = tk_m c.1 ∧ (c.1 = -2 → σ 74 12 = nI (T c.2.1)) ∧ (c.1 = -3 → σ 74 12 = nI (tk_val T c.2.1 (c.2.2 - c.2.1))) ∧ (tk_m c.1 = 3 → σ 74 12 = c.1) ∧ (tk_wd c.1 = true → σ 74 13 = nI c.2.2) ∧ (tk_m c.1 = 3 → (σ 74 13).toInt < c.2.2)
theorem p6_skip {k : ovSt → Prop} {T : Nat → Nat} {n : Nat} : ∀ (m p : Nat) (σ : ovSt), p + m = n → tk_BM σ T n → σ 74 9 = nI p → (∀ σ', tk_e74 σ σ' (fun q => q = 9) → σ' 74 9 = nI (tk_run (fun i => decide (T i = 32)) m p) → F_X6_go_38 k σ') → F_X6_go_0 k (m + 1) σ
  | 0, p, σ, hp, hB, h9, h => by
    have ep : p = n := by omega
    subst ep
    unfold F_X6_go_0
    rw [hB.2.1, h9, if_pos (Int32.le_refl _)]
    exact h σ (tk_e74.rf _ _) h9
  | m + 1, p, σ, hp, hB, h9, h => by
    have hn := hB.1
    unfold F_X6_go_0
    rw [hB.2.1, h9, if_neg (by rw [nI_leI (by omega) (by omega)]; omega), pu_cl (by omega)]
    refine ⟨vp_in_nI (by omega) (by omega), ?_⟩
    obtain ⟨t1, t2⟩ := hB.2.2 p (by omega)
    rw [t2]
    unfold tk_run at h
    by_cases z : T p = 32
    · rw [if_pos (by rw [z]; rfl), ← nI_succ]
      rw [if_pos (decide_eq_true z)] at h
      intro σ1 e1
      have q1 : tk_e74 σ σ1 (fun q => q = 9) := by rw [e1]; exact tk_e74.up (Z := fun q => q = 9) (tk_e74.rf _ _) rfl _
      exact p6_skip m (p + 1) σ1 (by omega) (hB.e q1 (by omega)) (by rw [e1, pu_up_same, pu_ue]) (fun σ2 h2 => h σ2 (q1.tr h2))
    · rw [if_neg (by rw [show (32 : Int32) = nI 32 from rfl, nI_eq (by omega) (by omega)]; exact z)]
      rw [if_neg (by rw [decide_eq_true_iff]; exact z)] at h
      exact h σ (tk_e74.rf _ _) h9
theorem p6_lrun {k : ovSt → Prop} {x1 : Int32} {T : Nat → Nat} {n : Nat} : ∀ (m p : Nat) (σ : ovSt), p + m = n → tk_BM σ T n → σ 74 9 = nI p → (∀ σ', tk_e74 σ σ' (fun q => q = 9) → σ' 74 9 = nI (tk_run (fun i => tk_L (T i)) m p) → (if x1 = 0 then F_X6_go_127 k 1 σ' else F_X6_go_127 k 4 σ')) → F_X6_go_93 k (m + 1) x1 σ
  | 0, p, σ, hp, hB, h9, h => by
    unfold F_X6_go_93
    rw [h9, e6_isLetter hB (by omega), if_neg (by omega), if_pos rfl]
    exact h σ (tk_e74.rf _ _) h9
  | m + 1, p, σ, hp, hB, h9, h => by
    have hn := hB.1
    unfold F_X6_go_93
    rw [h9, e6_isLetter hB (by omega)]
    unfold tk_run at h
    by_cases z : tk_L (T p) = true
    · rw [if_pos ⟨by omega, z⟩, if_neg (by decide), h9, ← nI_succ]
      rw [if_pos z] at h
      intro σ1 e1
      have q1 : tk_e74 σ σ1 (fun q => q = 9) := by rw [e1]; exact tk_e74.up (Z := fun q => q = 9) (tk_e74.rf _ _) rfl _
      exact p6_lrun m (p + 1) σ1 (by omega) (hB.e q1 (by omega)) (by rw [e1, pu_up_same, pu_ue]) (fun σ2 h2 => h σ2 (q1.tr h2))
    · rw [if_neg (fun q => z q.2), if_pos rfl]
      rw [if_neg z] at h
      exact h σ (tk_e74.rf _ _) h9
theorem p6_drun {k : ovSt → Prop} {x1 : Int32} {T : Nat → Nat} {n s : Nat} : ∀ (m p : Nat) (σ : ovSt), p + m = n → s ≤ p → tk_BM σ T n → σ 74 9 = nI p → σ 74 10 = nI s → (p - s ≤ 4 → σ 74 12 = nI (tk_val T s (p - s))) →
    (∀ σ' e, e = tk_run (fun i => tk_D (T i)) m p → tk_e74 σ σ' (fun q => q = 9 ∨ q = 12) → σ' 74 9 = nI e → (e - s ≤ 4 → σ' 74 12 = nI (tk_val T s (e - s))) → (if x1 = 0 then (if nI (e - s) ≤ (4 : Int32) then F_X6_go_261 k 2 σ' else F_X6_go_256 k σ') else F_X6_go_256 k σ')) → F_X6_go_170 k (m + 1) x1 σ
  | 0, p, σ, hp, hsp, hB, h9, h10, hv, h => by
    unfold F_X6_go_170
    rw [h9, e6_isFigure hB (by omega), if_neg (by omega), if_pos rfl, h9, h10, pk_sub hsp]
    exact h σ p rfl (tk_e74.rf _ _) h9 hv
  | m + 1, p, σ, hp, hsp, hB, h9, h10, hv, h => by
    have hn := hB.1
    unfold F_X6_go_170
    rw [h9, e6_isFigure hB (by omega)]
    unfold tk_run at h
    by_cases z : tk_D (T p) = true
    · rw [if_pos ⟨by omega, z⟩, if_neg (by decide), h9, h10, pk_sub hsp]
      rw [if_pos z] at h
      have nx : ∀ (v : Int32), (p + 1 - s ≤ 4 → v = nI (tk_val T s (p + 1 - s))) → F_X6_go_222 (F_X6_go_170 k (m + 1)) k x1 v σ := by
        intro v hv2
        unfold F_X6_go_222
        intro σ1 e1 σ2 e2
        rw [show σ1 74 9 = nI p from by rw [e1, pu_up_same, pu_un (by omega), h9], ← nI_succ] at e2
        have q2 : tk_e74 σ σ2 (fun q => q = 9 ∨ q = 12) := by
          rw [e2]; refine tk_e74.up ?_ (Or.inl rfl) _
          rw [e1]; exact tk_e74.up (tk_e74.rf _ _) (Or.inr rfl) _
        refine p6_drun (s := s) m (p + 1) σ2 (by omega) (by omega) (hB.e q2 (by omega)) (by rw [e2, pu_up_same, pu_ue]) (by rw [q2.2 10 (by omega), h10]) (fun hq => ?_) (fun σ3 e he h3 => h σ3 e he (q2.tr h3))
        rw [e2, pu_up_same, pu_un (by omega), e1, pu_up_same, pu_ue]
        exact hv2 hq
      by_cases z4 : 4 ≤ p - s
      · rw [if_pos (show (4 : Int32) ≤ nI (p - s) from nI_le (a := 4) z4 (by omega))]
        exact nx _ (fun q => absurd q (by omega))
      · rw [if_neg (by rw [show (4 : Int32) = nI 4 from rfl, nI_leI (by omega) (by omega)]; exact z4)]
        refine ⟨vp_in_nI (by omega) (by omega), ?_⟩
        obtain ⟨t1, t2⟩ := hB.2.2 p (by omega)
        rw [pu_cl (by omega), t2, hv (by omega)]
        refine nx _ (fun _ => ?_)
        have hd := (tk_D_iff (T p)).mp z
        rw [show (10 : Int32) = nI 10 from rfl, pk_mul, nI_add, show (48 : Int32) = nI 48 from rfl, pk_sub (by omega), show p + 1 - s = (p - s) + 1 by omega]
        show nI (10 * tk_val T s (p - s) + T p - 48) = nI (10 * tk_val T s (p - s) + (T (s + (p - s)) - 48))
        rw [show s + (p - s) = p by omega]
        congr 1
        omega
    · rw [if_neg (fun q => z q.2), if_pos rfl, h9, h10, pk_sub hsp]
      rw [if_neg z] at h
      exact h σ p rfl (tk_e74.rf _ _) h9 hv
theorem p6_go62 {k : ovSt → Prop} {T : Nat → Nat} {n s : Nat} (gl : Bool) (hs : s ≤ n) {σ : ovSt} (hB : tk_BM σ T n) (h9 : σ 74 9 = nI s) (h10 : σ 74 10 = nI s) (h13 : (σ 74 13).toInt ≤ s) (h : ∀ σ', tk_e74 σ σ' tk_Z6 → tk_M σ' T (tk_as T n gl s) → k σ') : F_X6_go_62 k (if gl = true then 1 else 0) σ := by
  have hn := hB.1
  unfold F_X6_go_62 F_X6_go_303
  rw [h10, hB.2.1]
  unfold tk_as at h
  by_cases z : n ≤ s
  · have es : s = n := by omega
    rw [if_pos z] at h
    rw [if_pos (by rw [es])]
    intro σ1 e1
    have q1 : tk_e74 σ σ1 tk_Z6 := by rw [e1]; exact (tk_e74.rf _ _).up (by unfold tk_Z6; omega) _
    refine h σ1 q1 ⟨?_, ?_, ?_, fun q => absurd (show (-1 : Int32) = -2 from q) (by decide), fun q => absurd (show (-1 : Int32) = -3 from q) (by decide), fun q => absurd (show tk_m (-1) = 3 from q) (by decide), fun q => absurd (show tk_wd (-1) = true from q) (by decide), fun q => absurd (show tk_m (-1) = 3 from q) (by decide)⟩
    · rw [e1, pu_up_same, pu_un (by omega), h9]
    · rw [e1, pu_up_same, pu_un (by omega), h10]
    · rw [e1, pu_up_same, pu_ue]; rfl
  rw [if_neg z] at h
  rw [if_neg (by rw [nI_eq (by omega) (by omega)]; omega), e6_isLetter hB hs]
  obtain ⟨t1, t2⟩ := hB.2.2 s (by omega)
  by_cases zl : tk_L (T s) = true
  · rw [if_pos zl] at h
    rw [if_pos ⟨by omega, zl⟩, if_neg (by decide)]
    refine ⟨n - s + 1, p6_lrun (T := T) (n := n) (n - s) s σ (by omega) hB h9 (fun σ2 q2 g9 => ?_)⟩
    have g9 : σ2 74 9 = nI (tk_lt T n s) := g9
    have fin : ∀ v : Int32, v = tk_m (if gl = true then -4 else -2) → F_X6_go_127 k v σ2 := by
      intro v hv
      unfold F_X6_go_127 F_X6_go_303
      intro σ3 e3
      have f10 : σ3 74 10 = nI s := by rw [e3, pu_up_same, pu_un (by omega), q2.2 10 (by omega), h10]
      rw [f10, pu_cl (by omega)]
      refine ⟨vp_in_nI (by omega) (by omega), ?_⟩
      rw [show σ3 81 s = nI (T s) from by rw [e3, pu_up_ne (by omega), q2.1 81 (by omega), t2]]
      intro σ4 e4 σ5 e5
      rw [show σ4 74 9 = nI (tk_lt T n s) from by rw [e4, pu_up_same, pu_un (by omega), e3, pu_up_same, pu_un (by omega), g9]] at e5
      have q5 : tk_e74 σ σ5 tk_Z6 := by
        rw [e5]; refine tk_e74.up ?_ (by unfold tk_Z6; omega) _
        rw [e4]; refine tk_e74.up ?_ (by unfold tk_Z6; omega) _
        rw [e3]; exact tk_e74.up (q2.mono (fun q hq => by unfold tk_Z6; omega)) (by unfold tk_Z6; omega) _
      have g12 : σ5 74 12 = nI (T s) := by rw [e5, pu_up_same, pu_un (by omega), e4, pu_up_same, pu_ue]
      refine h σ5 q5 ⟨?_, ?_, ?_, fun _ => g12, fun q => ?_, fun q => ?_, fun _ => ?_, fun q => ?_⟩
      · rw [e5, pu_up_same, pu_un (by omega), e4, pu_up_same, pu_un (by omega), e3, pu_up_same, pu_un (by omega), g9]
      · rw [e5, pu_up_same, pu_un (by omega), e4, pu_up_same, pu_un (by omega), f10]
      · rw [e5, pu_up_same, pu_un (by omega), e4, pu_up_same, pu_un (by omega), e3, pu_up_same, pu_ue, hv]
      · have q : (if gl = true then (-4 : Int32) else -2) = -3 := q
        cases gl with
        | true => exact absurd (show (-4 : Int32) = -3 from q) (by decide)
        | false => exact absurd (show (-2 : Int32) = -3 from q) (by decide)
      · have q : tk_m (if gl = true then (-4 : Int32) else -2) = 3 := q
        cases gl with
        | true => exact absurd (show tk_m (-4) = 3 from q) (by decide)
        | false => exact absurd (show tk_m (-2) = 3 from q) (by decide)
      · rw [e5, pu_up_same, pu_ue]
      · have q : tk_m (if gl = true then (-4 : Int32) else -2) = 3 := q
        cases gl with
        | true => exact absurd (show tk_m (-4) = 3 from q) (by decide)
        | false => exact absurd (show tk_m (-2) = 3 from q) (by decide)
    cases gl with
    | true => rw [if_neg (by decide)]; exact fin _ (by rfl)
    | false => rw [if_pos (show (if false = true then (1 : Int32) else 0) = 0 from rfl)]; exact fin _ (by rfl)
  rw [if_neg zl] at h
  rw [if_neg (fun q => zl q.2), if_pos rfl, h10, e6_isFigure hB hs]
  by_cases zd : tk_D (T s) = true
  · rw [if_pos zd] at h
    rw [if_pos ⟨by omega, zd⟩, if_neg (by decide)]
    intro σ1 e1
    have q1 : tk_e74 σ σ1 (fun q => q = 9 ∨ q = 12) := by rw [e1]; exact tk_e74.up (tk_e74.rf _ _) (Or.inr rfl) _
    refine ⟨n - s + 1, p6_drun (T := T) (n := n) (s := s) (n - s) s σ1 (by omega) (Nat.le_refl _) (hB.e q1 (by omega)) (by rw [q1.2 10 (by omega) |> fun _ => e1, pu_up_same, pu_un (by omega), h9]) (by rw [q1.2 10 (by omega), h10]) (fun _ => by rw [e1, pu_up_same, pu_ue, Nat.sub_self]; rfl) (fun σ2 e he q2 g9 g12 => ?_)⟩
    have he : e = tk_dg T n s := he
    subst he
    have hr := tk_run_le (fun i => tk_D (T i)) (n - s) s
    have hd : s ≤ tk_dg T n s ∧ tk_dg T n s ≤ n := by unfold tk_dg; omega
    have q12 : tk_e74 σ σ2 (fun q => q = 9 ∨ q = 12) := q1.tr q2
    have f10 : σ2 74 10 = nI s := by rw [q12.2 10 (by omega), h10]
    have fin : ∀ v kk : Int32, kk = (if gl = true ∨ 4 < tk_dg T n s - s then -4 else -3) → v = tk_m kk → (kk = -3 → tk_dg T n s - s ≤ 4) → F_X6_go_261 k v σ2 := by
      intro v kk hkk hv h4
      unfold F_X6_go_261 F_X6_go_303
      intro σ3 e3 σ4 e4
      rw [show σ3 74 9 = nI (tk_dg T n s) from by rw [e3, pu_up_same, pu_un (by omega), g9]] at e4
      have q4 : tk_e74 σ σ4 tk_Z6 := by
        rw [e4]; refine tk_e74.up ?_ (by unfold tk_Z6; omega) _
        rw [e3]; exact tk_e74.up (q12.mono (fun q hq => by unfold tk_Z6; omega)) (by unfold tk_Z6; omega) _
      rw [← hkk] at h
      have h34 : kk = -4 ∨ kk = -3 := by
        rw [hkk]
        split
        · exact Or.inl rfl
        · exact Or.inr rfl
      refine h σ4 q4 ⟨?_, ?_, ?_, fun q => ?_, fun q => ?_, fun q => ?_, fun _ => ?_, fun q => ?_⟩
      · rw [e4, pu_up_same, pu_un (by omega), e3, pu_up_same, pu_un (by omega), g9]
      · rw [e4, pu_up_same, pu_un (by omega), e3, pu_up_same, pu_un (by omega), f10]
      · rw [e4, pu_up_same, pu_un (by omega), e3, pu_up_same, pu_ue, hv]
      · have q : kk = -2 := q
        rcases h34 with w | w <;> (rw [w] at q; exact absurd q (by decide))
      · rw [e4, pu_up_same, pu_un (by omega), e3, pu_up_same, pu_un (by omega)]
        exact g12 (h4 q)
      · have q : tk_m kk = 3 := q
        rcases h34 with w | w <;> (rw [w] at q; exact absurd q (by decide))
      · rw [e4, pu_up_same, pu_ue]
      · have q : tk_m kk = 3 := q
        rcases h34 with w | w <;> (rw [w] at q; exact absurd q (by decide))
    unfold F_X6_go_256
    cases gl with
    | true => rw [if_neg (by decide)]; exact fin 4 (-4) (by rw [if_pos (Or.inl rfl)]) rfl (fun q => absurd q (by decide))
    | false =>
      rw [if_pos (show (if false = true then (1 : Int32) else 0) = 0 from rfl)]
      by_cases z4 : tk_dg T n s - s ≤ 4
      · rw [if_pos (show nI (tk_dg T n s - s) ≤ (4 : Int32) from nI_le (b := 4) z4 (by omega))]
        exact fin 2 (-3) (by rw [if_neg (by rintro (q | q); exact absurd q (by decide); omega)]) rfl (fun _ => z4)
      · rw [if_neg (by rw [show (4 : Int32) = nI 4 from rfl, nI_leI (by omega) (by omega)]; exact z4)]
        exact fin 4 (-4) (by rw [if_pos (Or.inr (by omega))]) rfl (fun q => absurd q (by decide))
  rw [if_neg zd] at h
  rw [if_neg (fun q => zd q.2), if_pos rfl]
  intro σ1 e1
  have f10 : σ1 74 10 = nI s := by rw [e1, pu_up_same, pu_un (by omega), h10]
  rw [f10, pu_cl (by omega)]
  refine ⟨vp_in_nI (by omega) (by omega), ?_⟩
  rw [show σ1 81 s = nI (T s) from by rw [e1, pu_up_ne (by omega), t2]]
  intro σ2 e2 σ3 e3
  rw [show σ2 74 9 = nI s from by rw [e2, pu_up_same, pu_un (by omega), e1, pu_up_same, pu_un (by omega), h9], ← nI_succ] at e3
  have q3 : tk_e74 σ σ3 tk_Z6 := by
    rw [e3]; refine tk_e74.up ?_ (by unfold tk_Z6; omega) _
    rw [e2]; refine tk_e74.up ?_ (by unfold tk_Z6; omega) _
    rw [e1]; exact tk_e74.up (tk_e74.rf _ _) (by unfold tk_Z6; omega) _
  refine h σ3 q3 ⟨?_, ?_, ?_, fun q => absurd q (tk_nIne t1 (by decide)), fun q => absurd q (tk_nIne t1 (by decide)), fun _ => ?_, fun q => ?_, fun _ => ?_⟩
  · rw [e3, pu_up_same, pu_ue]
  · rw [e3, pu_up_same, pu_un (by omega), e2, pu_up_same, pu_un (by omega), f10]
  · rw [e3, pu_up_same, pu_un (by omega), e2, pu_up_same, pu_un (by omega), e1, pu_up_same, pu_ue]
    exact (tk_m_sign t1).symm
  · rw [e3, pu_up_same, pu_un (by omega), e2, pu_up_same, pu_ue]
  · rw [show tk_wd (nI (T s)) = false from tk_wd_sign t1] at q
    exact absurd q (by decide)
  · show (σ3 74 13).toInt < ((s + 1 : Nat) : Int)
    rw [e3, pu_up_same, pu_un (by omega), e2, pu_up_same, pu_un (by omega), e1, pu_up_same, pu_un (by omega)]
    omega
theorem p6_go {k : ovSt → Prop} {T : Nat → Nat} {n : Nat} {c : Int32 × Nat × Nat} (he : c.2.2 ≤ n) {σ : ovSt} (hB : tk_BM σ T n) (h9 : σ 74 9 = nI c.2.2) (hE : (tk_wd c.1 = true ∧ σ 74 13 = nI c.2.2) ∨ (tk_wd c.1 = false ∧ (σ 74 13).toInt < c.2.2)) (h : ∀ σ', tk_e74 σ σ' tk_Z6 → tk_M σ' T (tk_nx T n c) → k σ') : F_X6_go σ k := by
  have hn := hB.1
  have hs := tk_sk_le (T := T) he
  unfold F_X6_go
  refine ⟨n - c.2.2 + 1, p6_skip (T := T) (n := n) (n - c.2.2) c.2.2 σ (by omega) hB h9 (fun σ1 q1 g9 => ?_)⟩
  have g9 : σ1 74 9 = nI (tk_sk T n c.2.2) := g9
  unfold F_X6_go_38
  intro σ2 e2
  rw [g9] at e2
  have q2 : tk_e74 σ σ2 tk_Z6 := by
    rw [e2]; exact tk_e74.up (q1.mono (fun q hq => by unfold tk_Z6; omega)) (by unfold tk_Z6; omega) _
  have f10 : σ2 74 10 = nI (tk_sk T n c.2.2) := by rw [e2, pu_up_same, pu_ue]
  have f9 : σ2 74 9 = nI (tk_sk T n c.2.2) := by rw [e2, pu_up_same, pu_un (by omega), g9]
  have f13 : σ2 74 13 = σ 74 13 := by rw [e2, pu_up_same, pu_un (by omega), q1.2 13 (by omega)]
  have le13 : (σ2 74 13).toInt ≤ tk_sk T n c.2.2 := by
    rw [f13]
    rcases hE with ⟨-, w⟩ | ⟨-, w⟩
    · rw [w, nI_toInt (by omega)]; omega
    · omega
  have fin : ∀ gl : Bool, gl = (tk_wd c.1 && decide (tk_sk T n c.2.2 = c.2.2)) → F_X6_go_62 k (if gl = true then 1 else 0) σ2 := by
    intro gl hgl
    refine p6_go62 (T := T) (n := n) gl hs.2 (hB.e q2 (by unfold tk_Z6; omega)) f9 f10 le13 (fun σ3 q3 hM => h σ3 (q2.tr q3) ?_)
    unfold tk_nx tk_at
    rw [← hgl]
    exact hM
  rw [f10, f13]
  rcases hE with ⟨w1, w2⟩ | ⟨w1, w2⟩
  · rw [w1] at fin
    rw [w2]
    by_cases z : tk_sk T n c.2.2 = c.2.2
    · rw [if_pos (by rw [z])]
      exact fin true (by rw [decide_eq_true z]; rfl)
    · rw [if_neg (by rw [nI_eq (by omega) (by omega)]; exact z)]
      exact fin false (by rw [decide_eq_false z]; rfl)
  · rw [w1] at fin
    rw [if_neg (by intro z; rw [fa_eq, nI_toInt (by omega)] at z; omega)]
    exact fin false rfl
