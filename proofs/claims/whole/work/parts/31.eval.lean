/-! ===== texts: what they give ===== -/
def pu_two (m a b : Int32) : Int32 := if m = (-8) then a * b else if m = (-7) then a - b else if m = (-6) then a + b else if m = (-5) then (if a ≤ b then 0 else 1) else if m = (-4) then (if a = b then 1 else 0) else if m = (-3) then (if b ≤ a then 0 else 1) else if m = (-2) then (if a = 0 then 0 else if b = 0 then 0 else 1) else if m = (-1) then (if a = 0 then (if b = 0 then 0 else 1) else 1) else (if b = 0 then 0 else a / b)
set_option maxHeartbeats 4000000 in
theorem e6_two (m a b : Int32) (σ : ovSt) (k : Int32 → ovSt → Prop) : F_X6_two m a b σ k = k (pu_two m a b) σ := by
  unfold F_X6_two F_X6_two_108 F_X6_two_97 F_X6_two_86 F_X6_two_74 F_X6_two_75 F_X6_two_56 F_X6_two_61 F_X6_two_132 pu_two
  repeat' split
  all_goals first | rfl | (simp_all; done)
/-- signs and leaves of the class and of the model -/
def pu_crel (c m : Int32) : Prop := (0 ≤ c.toInt ∧ c.toInt < 10000 ∧ m = c) ∨ (c = (-1) ∧ m = 10000) ∨ (c = (-2) ∧ m = 10001) ∨ (c = (-3) ∧ m = 10002) ∨ (c = (-33) ∧ m = (-10)) ∨ (c = (-124) ∧ m = (-1)) ∨ (c = (-38) ∧ m = (-2)) ∨ (c = (-60) ∧ m = (-3)) ∨ (c = (-61) ∧ m = (-4)) ∨ (c = (-62) ∧ m = (-5)) ∨ (c = (-43) ∧ m = (-6)) ∨ (c = (-45) ∧ m = (-7)) ∨ (c = (-42) ∧ m = (-8)) ∨ (c = (-47) ∧ m = (-9))
def pu_bin (c m : Int32) : Prop := (c = (-124) ∧ m = (-1)) ∨ (c = (-38) ∧ m = (-2)) ∨ (c = (-60) ∧ m = (-3)) ∨ (c = (-61) ∧ m = (-4)) ∨ (c = (-62) ∧ m = (-5)) ∨ (c = (-43) ∧ m = (-6)) ∨ (c = (-45) ∧ m = (-7)) ∨ (c = (-42) ∧ m = (-8)) ∨ (c = (-47) ∧ m = (-9))
set_option maxHeartbeats 4000000 in
theorem e0_join {c m : Int32} (h : pu_bin c m) (a b : Int32) (σ : ovSt) (k : Int32 → ovSt → Prop) : F_X0_join (-c) a b σ k = k (pu_two m a b) σ := by
  unfold F_X0_join F_X0_join_102 F_X0_join_103 F_X0_join_114 F_X0_join_125 F_X0_join_136 F_X0_join_89 F_X0_join_84 F_X0_join_160 pu_two
  rcases h with ⟨rfl, rfl⟩ | ⟨rfl, rfl⟩ | ⟨rfl, rfl⟩ | ⟨rfl, rfl⟩ | ⟨rfl, rfl⟩ | ⟨rfl, rfl⟩ | ⟨rfl, rfl⟩ | ⟨rfl, rfl⟩ | ⟨rfl, rfl⟩ <;>
    simp (config := { decide := true }) only [if_true, if_false] <;> (repeat' split) <;> first | rfl | (simp_all; done)
/-- a program's end, from a place on -/
def pu_rem (p : Nat → Int32) : Nat → Nat → List Int32
  | _, 0 => []
  | k, m + 1 => p k :: pu_rem p (k + 1) m
def pu_leaf (fact : Nat → Int32) (m : Int32) : Int32 := if 10000 ≤ m then fact (m - 10000).toNatClampNeg else m
def pu_stp (fact : Nat → Int32) (m : Int32) (S : List Int32) : List Int32 :=
  if m < 0 then
    (if m = (-10) then (match S with
      | a :: r => (if a = 0 then 1 else 0) :: r
      | [] => [])
    else (match S with
      | b :: a :: r => pu_two m a b :: r
      | _ => S))
  else pu_leaf fact m :: S
def pu_evl (fact : Nat → Int32) : List Int32 → List Int32 → List Int32
  | [], S => S
  | m :: c, S => pu_evl fact c (pu_stp fact m S)
/-- a program that a stack of d can run, to its end with one -/
def pu_okc (nn : Nat) : List Int32 → Nat → Prop
  | [], d => d = 1
  | m :: c, d => if m < 0 then (if m = (-10) then 1 ≤ d ∧ pu_okc nn c d else 2 ≤ d ∧ pu_okc nn c (d - 1)) else (m.toInt < 10000 + nn ∧ pu_okc nn c (d + 1))
def pu_rep (f : Nat → Int32) : List Int32 → Prop
  | [] => True
  | a :: r => f r.length = a ∧ pu_rep f r
theorem pu_rep_up {f : Nat → Int32} {n : Nat} {x : Int32} : ∀ {S : List Int32}, S.length ≤ n → pu_rep f S → pu_rep (upd f n x) S
  | [], _, _ => trivial
  | a :: r, hn, h => by
    rw [List.length_cons] at hn
    exact ⟨by rw [← h.1]; exact if_neg (by omega), pu_rep_up (by omega) h.2⟩
theorem pu_rep_push {f : Nat → Int32} {x : Int32} {S : List Int32} (h : pu_rep f S) : pu_rep (upd f S.length x) (x :: S) := ⟨if_pos rfl, pu_rep_up (Nat.le_refl _) h⟩
/-- cells that stay -/
def pu_ag (X : Nat → Prop) (σ σ' : ovSt) : Prop := ∀ i, ¬ X i → σ' i = σ i
theorem pu_ag.rf (X : Nat → Prop) (σ : ovSt) : pu_ag X σ σ := fun _ _ => rfl
theorem pu_ag.tr {X : Nat → Prop} {a b c : ovSt} (h1 : pu_ag X a b) (h2 : pu_ag X b c) : pu_ag X a c := fun i h => (h2 i h).trans (h1 i h)
theorem pu_ag.mono {X Y : Nat → Prop} {a b : ovSt} (h : pu_ag X a b) (hXY : ∀ i, X i → Y i) : pu_ag Y a b := fun i hi => h i (fun z => hi (hXY i z))
theorem pu_ag.up {X : Nat → Prop} {a b : ovSt} {i k : Nat} {v : Int32} (h : pu_ag X a b) (hi : X i) : pu_ag X a (ov_up b i k v) := fun j hj => by
  rw [pu_up_ne (show j ≠ i from fun e => hj (by rw [e]; exact hi))]
  exact h j hj
theorem pu_neg {x : Int32} (h : x < 0) : ¬ 0 ≤ x.toInt := by rw [fa_lt] at h; have e : (0 : Int32).toInt = 0 := rfl; omega
theorem pu_nneg {x : Int32} (h : ¬ x < 0) : 0 ≤ x.toInt := by rw [fa_lt] at h; have e : (0 : Int32).toInt = 0 := rfl; omega
theorem pu_nsub {n j : Nat} (h : j ≤ n) : nI n - nI j = nI (n - j) := pk_sub h
/-- the model works a text out -/
theorem p6_run {g fact : Nat → Int32} {nn t L : Nat} (hnn : nn < 4) (ht : t < 14) (hL : L ≤ 96) {k : Int32 → ovSt → Prop} : ∀ (m j : Nat) (S : List Int32) (σ : ovSt), j + m = L → S.length ≤ j → σ 75 = g → (∀ i, i < nn → σ 88 i = fact i) → pu_rep (σ 87) S → pu_okc nn (pu_rem (fun q => g (68 + 96 * t + q)) j m) S.length →
    (∀ σ', pu_ag (fun i => i = 87) σ σ' → k ((pu_evl fact (pu_rem (fun q => g (68 + 96 * t + q)) j m) S).headD 0) σ') → F_X6_worksOut_21 k (m + 1) (nI t) (nI S.length) (nI L) (nI j) σ := by
  intro m
  induction m with
  | zero =>
    intro j S σ hj hS hg hf hr hok hk
    unfold F_X6_worksOut_21
    rw [if_pos (nI_le (by omega) (by omega))]
    refine ⟨vp_in_nI (n := 0) (by decide) (by decide), ?_⟩
    have hv := hk σ (pu_ag.rf _ σ)
    simp only [pu_rem, pu_evl] at hv
    match S, hok, hr, hv with
    | [a], _, hr, hv =>
      have e : σ 87 (Int32.toNatClampNeg 0) = a := hr.1
      rw [e]
      exact hv
  | succ m ih =>
    intro j S σ hj hS hg hf hr hok hk
    unfold F_X6_worksOut_21
    rw [if_neg (nI_ge (by omega) (by omega))]
    have ei : (68 + (96 * nI t)) + nI j = nI (68 + 96 * t + j) := by
      rw [show (68 : Int32) = nI 68 from rfl, show (96 : Int32) = nI 96 from rfl, pk_mul, nI_add, nI_add]
    rw [ei, pu_cl (by omega), hg]
    refine ⟨vp_in_nI (by omega) (by omega), ?_⟩
    intro v hv
    subst hv
    simp only [pu_rem, pu_okc, pu_evl, pu_stp] at hok hk
    have e1 : nI j + 1 = nI (j + 1) := nI_1 j
    by_cases z : g (68 + 96 * t + j) < 0
    · rw [if_pos z]
      rw [if_pos z] at hok hk
      by_cases y : g (68 + 96 * t + j) = (-10)
      · rw [if_pos y]
        rw [if_pos y] at hok hk
        match S, hok, hr, hk, hS with
        | a :: r, hok, hr, hk, hS =>
          have e2 : nI (a :: r).length - 1 = nI r.length := nI_pred r.length
          rw [e2, pu_cl (by rw [List.length_cons] at hS; omega), hr.1]
          refine ⟨vp_in_nI (by rw [List.length_cons] at hS; omega) (by omega), ?_⟩
          have go : ∀ b : Int32, b = (if a = 0 then 1 else 0) → F_X6_worksOut_115 (F_X6_worksOut_21 k (m + 1)) k (nI t) (nI (a :: r).length) (nI L) (nI j) b (nI r.length) σ := by
            intro b hb
            unfold F_X6_worksOut_115 F_X6_worksOut_149
            refine ⟨vp_in_nI (by rw [List.length_cons] at hS; omega) (by omega), ?_⟩
            intro σ2 hσ2
            subst hσ2
            rw [pu_cl (by rw [List.length_cons] at hS; omega), e1]
            refine ih (j + 1) (b :: r) _ (by omega) (by rw [List.length_cons] at hS ⊢; omega) (by rw [pu_up_ne (by decide)]; exact hg) (fun i hi => by rw [pu_up_ne (by decide)]; exact hf i hi) (by rw [pu_up_same]; exact pu_rep_push hr.2) hok.2 (fun σ' ha => ?_)
            rw [hb]
            exact hk σ' ((pu_ag.up (X := fun i => i = 87) (pu_ag.rf _ σ) rfl).tr ha)
          by_cases w : a = 0
          · rw [if_pos w]; exact go 1 (by rw [if_pos w])
          · rw [if_neg w]; exact go 0 (by rw [if_neg w])
      · rw [if_neg y]
        rw [if_neg y] at hok hk
        match S, hok, hr, hk, hS with
        | [a], hok, _, _, _ => exact absurd hok.1 (by simp)
        | b :: a :: r, hok, hr, hk, hS =>
          rw [List.length_cons, List.length_cons] at hS
          have e2 : nI (b :: a :: r).length + (-1) = nI (a :: r).length := pk_m1 _
          have e3 : nI (a :: r).length - 1 = nI r.length := nI_pred r.length
          rw [e2, e3, pu_cl (by omega), pu_cl (by rw [List.length_cons]; omega), e6_two]
          refine ⟨vp_in_nI (by omega) (by omega), vp_in_nI (by rw [List.length_cons]; omega) (by omega), ?_⟩
          intro σ2 hσ2
          subst hσ2
          unfold F_X6_worksOut_149
          rw [e1, hr.1, hr.2.1]
          refine ih (j + 1) (pu_two (g (68 + 96 * t + j)) a b :: r) _ (by omega) (by rw [List.length_cons]; omega) (by rw [pu_up_ne (by decide)]; exact hg) (fun i hi => by rw [pu_up_ne (by decide)]; exact hf i hi) (by rw [pu_up_same]; exact pu_rep_push hr.2.2) hok.2 (fun σ' ha => ?_)
          exact hk σ' ((pu_ag.up (X := fun i => i = 87) (pu_ag.rf _ σ) rfl).tr ha)
    · rw [if_neg z]
      rw [if_neg z] at hok hk
      have go : ∀ b : Int32, b = pu_leaf fact (g (68 + 96 * t + j)) → F_X6_worksOut_78 (F_X6_worksOut_21 k (m + 1)) k (nI t) (nI S.length) (nI L) (nI j) b (nI S.length) σ := by
        intro b hb
        unfold F_X6_worksOut_78 F_X6_worksOut_149
        refine ⟨vp_in_nI (by omega) (by omega), ?_⟩
        intro σ2 hσ2
        subst hσ2
        rw [pu_cl (by omega), e1, nI_1]
        refine ih (j + 1) (b :: S) _ (by omega) (by rw [List.length_cons]; omega) (by rw [pu_up_ne (by decide)]; exact hg) (fun i hi => by rw [pu_up_ne (by decide)]; exact hf i hi) (by rw [pu_up_same]; exact pu_rep_push hr) hok.2 (fun σ' ha => ?_)
        rw [hb]
        exact hk σ' ((pu_ag.up (X := fun i => i = 87) (pu_ag.rf _ σ) rfl).tr ha)
      by_cases w : (10000 : Int32) ≤ g (68 + 96 * t + j)
      · rw [if_pos w]
        have w2 : (10000 : Int) ≤ (g (68 + 96 * t + j)).toInt := (fa_le _ _).mp w
        have hlt := hok.1
        have es : (g (68 + 96 * t + j) - 10000).toInt = (g (68 + 96 * t + j)).toInt - 10000 := fb_subI (y := 10000) (by show -2147483648 ≤ (g (68 + 96 * t + j)).toInt - 10000; omega) (by show (g (68 + 96 * t + j)).toInt - 10000 < 2147483648; omega)
        have hi : vp_in (g (68 + 96 * t + j) - 10000) 4 := vp_in_iff.mpr ⟨by rw [es]; omega, by rw [es]; omega⟩
        have hi2 : vp_in (g (68 + 96 * t + j) - 10000) nn := vp_in_iff.mpr ⟨by rw [es]; omega, by rw [es]; omega⟩
        refine ⟨hi, ?_⟩
        rw [hf _ (ov_inlt hi2)]
        exact go _ (by unfold pu_leaf; rw [if_pos w])
      · rw [if_neg w]
        exact go _ (by unfold pu_leaf; rw [if_neg w])

theorem pu_crel_neg {c m : Int32} (h : pu_crel c m) (hm : m < 0) (h10 : ¬ m = (-10)) : pu_bin c m ∧ c < (-3) ∧ ¬ c = (-33) := by
  unfold pu_crel at h
  rcases h with h | h | h | h | h | h
  · exact absurd h.1 (pu_neg (by rw [← h.2.2]; exact hm))
  · exact absurd hm (by rw [h.2]; decide)
  · exact absurd hm (by rw [h.2]; decide)
  · exact absurd hm (by rw [h.2]; decide)
  · exact absurd h.2 h10
  · refine ⟨h, ?_⟩
    rcases h with h | h | h | h | h | h | h | h | h <;> (rw [h.1]; decide)
theorem pu_crel_not {c m : Int32} (h : pu_crel c m) (h10 : m = (-10)) : c = (-33) := by
  subst h10
  unfold pu_crel at h
  rcases h with h | h | h | h | h | h
  · exact absurd h.1 (pu_neg (by rw [← h.2.2]; decide))
  · exact absurd h.2 (by decide)
  · exact absurd h.2 (by decide)
  · exact absurd h.2 (by decide)
  · exact h.1
  · rcases h with h | h | h | h | h | h | h | h | h <;> exact absurd h.2 (by decide)
theorem pu_crel_leaf {c m : Int32} (h : pu_crel c m) (hm : ¬ m < 0) : (0 ≤ c.toInt ∧ c.toInt < 10000 ∧ m = c) ∨ (c = (-1) ∧ m = 10000) ∨ (c = (-2) ∧ m = 10001) ∨ (c = (-3) ∧ m = 10002) := by
  unfold pu_crel at h
  rcases h with h | h | h | h | h | h
  · exact Or.inl h
  · exact Or.inr (Or.inl h)
  · exact Or.inr (Or.inr (Or.inl h))
  · exact Or.inr (Or.inr (Or.inr h))
  · exact absurd (by rw [h.2]; decide) hm
  · rcases h with h | h | h | h | h | h | h | h | h <;> exact absurd (by rw [h.2]; decide) hm
/-- the class works a text out -/
theorem p0_run {p : Nat → Int32} {a1 a2 a3 : Int32} {nn t L : Nat} (ht : t < 14) (hL : L ≤ 96) {k : Int32 → ovSt → Prop} : ∀ (m j : Nat) (S : List Int32) (σ : ovSt), j + m = L → S.length ≤ j → σ 17 t = nI L → (∀ q, q < L → pu_crel (σ (3 + t) q) (p q)) → pu_rep (σ 20) S → pu_okc nn (pu_rem p j m) S.length →
    (∀ σ', pu_ag (fun i => i = 20) σ σ' → k ((pu_evl (fun i => if i = 0 then a1 else if i = 1 then a2 else a3) (pu_rem p j m) S).headD 0) σ') → F_X0_workOut_21 k (m + 1) (nI t) a1 a2 a3 (3 + t) (nI S.length) (nI j) σ := by
  intro m
  induction m with
  | zero =>
    intro j S σ hj hS hl hc hr hok hk
    unfold F_X0_workOut_21
    rw [pu_cl (by omega), hl]
    refine ⟨vp_in_nI ht (by omega), ?_⟩
    rw [if_pos (nI_le (by omega) (by omega))]
    refine ⟨vp_in_nI (n := 0) (by decide) (by decide), ?_⟩
    have hv := hk σ (pu_ag.rf _ σ)
    simp only [pu_rem, pu_evl] at hv
    match S, hok, hr, hv with
    | [a], _, hr, hv =>
      have e : σ 20 (Int32.toNatClampNeg 0) = a := hr.1
      rw [e]
      exact hv
  | succ m ih =>
    intro j S σ hj hS hl hc hr hok hk
    unfold F_X0_workOut_21
    rw [pu_cl (t := t) (by omega), hl]
    refine ⟨vp_in_nI ht (by omega), ?_⟩
    rw [if_neg (nI_ge (by omega) (by omega)), pu_cl (by omega)]
    refine ⟨vp_in_nI (by omega) (by omega), ?_⟩
    intro v hv
    have hcj := hc j (by omega)
    rw [← hv] at hcj
    simp only [pu_rem, pu_okc, pu_evl, pu_stp] at hok hk
    have e1 : nI j + 1 = nI (j + 1) := nI_1 j
    have hst : ∀ (i : Nat) (x : Int32), (ov_up σ 20 i x) 17 t = nI L := fun i x => by rw [pu_up_ne (by decide)]; exact hl
    have hsc : ∀ (i : Nat) (x : Int32), ∀ q, q < L → pu_crel ((ov_up σ 20 i x) (3 + t) q) (p q) := fun i x q hq => by rw [pu_up_ne (by omega)]; exact hc q hq
    have key141 : p j < 0 → ¬ p j = (-10) → F_X0_workOut_141 (F_X0_workOut_21 k (m + 1)) k (nI t) a1 a2 a3 (3 + t) (nI S.length) (nI j) v σ := by
      intro z y
      rw [if_pos z] at hok hk
      rw [if_neg y] at hok hk
      obtain ⟨hb, -, -⟩ := pu_crel_neg hcj z y
      unfold F_X0_workOut_141
      match S, hok, hr, hk, hS with
      | [a], hok, _, _, _ => exact absurd hok.1 (by simp)
      | b :: a :: r, hok, hr, hk, hS =>
        rw [List.length_cons, List.length_cons] at hS
        have hn2 : ¬ nI (b :: a :: r).length < (2 : Int32) := nI_nlt (a := (b :: a :: r).length) (b := 2) (by simp) (by simp; omega)
        rw [if_neg hn2]
        have e2 : nI (b :: a :: r).length + (-1) = nI (a :: r).length := pk_m1 _
        have e3 : nI (a :: r).length - 1 = nI r.length := nI_pred r.length
        rw [e2, e3, pu_cl (by omega), pu_cl (by rw [List.length_cons]; omega), e0_join hb]
        refine ⟨vp_in_nI (by omega) (by omega), vp_in_nI (by rw [List.length_cons]; omega) (by omega), ?_⟩
        intro σ2 hσ2
        subst hσ2
        unfold F_X0_workOut_181
        rw [e1, hr.1, hr.2.1]
        refine ih (j + 1) (pu_two (p j) a b :: r) _ (by omega) (by rw [List.length_cons]; omega) (hst _ _) (hsc _ _) (by rw [pu_up_same]; exact pu_rep_push hr.2.2) hok.2 (fun σ' ha => ?_)
        exact hk σ' ((pu_ag.up (X := fun i => i = 20) (pu_ag.rf _ σ) rfl).tr ha)
    by_cases z : p j < 0
    · by_cases y : p j = (-10)
      · have hv33 := pu_crel_not hcj y
        rw [if_pos z] at hok hk
        rw [if_pos y] at hok hk
        rw [if_pos (by rw [hv33]; decide)]
        unfold F_X0_workOut_99
        rw [if_pos hv33]
        match S, hok, hr, hk, hS with
        | a :: r, hok, hr, hk, hS =>
          rw [List.length_cons] at hS
          have hn1 : ¬ nI (a :: r).length < (1 : Int32) := nI_nlt (a := (a :: r).length) (b := 1) (by simp) (by simp; omega)
          rw [if_neg hn1]
          have e2 : nI (a :: r).length - 1 = nI r.length := nI_pred r.length
          rw [e2, pu_cl (by omega), hr.1]
          refine ⟨vp_in_nI (by omega) (by omega), ?_⟩
          have go : ∀ b : Int32, b = (if a = 0 then 1 else 0) → F_X0_workOut_137 (F_X0_workOut_21 k (m + 1)) k (nI t) a1 a2 a3 (3 + t) (nI (a :: r).length) (nI j) b (nI r.length) σ := by
            intro b hb
            unfold F_X0_workOut_137 F_X0_workOut_181
            refine ⟨vp_in_nI (by omega) (by omega), ?_⟩
            intro σ2 hσ2
            subst hσ2
            rw [pu_cl (by omega), e1]
            refine ih (j + 1) (b :: r) _ (by omega) (by rw [List.length_cons]; omega) (hst _ _) (hsc _ _) (by rw [pu_up_same]; exact pu_rep_push hr.2) hok.2 (fun σ' ha => ?_)
            rw [hb]
            exact hk σ' ((pu_ag.up (X := fun i => i = 20) (pu_ag.rf _ σ) rfl).tr ha)
          by_cases w : a = 0
          · rw [if_pos w]; exact go 1 (by rw [if_pos w])
          · rw [if_neg w]; exact go 0 (by rw [if_neg w])
      · obtain ⟨-, h3, h33⟩ := pu_crel_neg hcj z y
        rw [if_pos h3]
        unfold F_X0_workOut_99
        rw [if_neg h33]
        exact key141 z y
    · rw [if_neg z] at hok hk
      have go : ∀ b : Int32, b = pu_leaf (fun i => if i = 0 then a1 else if i = 1 then a2 else a3) (p j) → F_X0_workOut_92 (F_X0_workOut_21 k (m + 1)) k (nI t) a1 a2 a3 (3 + t) (nI S.length) (nI j) b (nI S.length) σ := by
        intro b hb
        unfold F_X0_workOut_92 F_X0_workOut_181
        refine ⟨vp_in_nI (by omega) (by omega), ?_⟩
        intro σ2 hσ2
        subst hσ2
        rw [pu_cl (by omega), e1, nI_1]
        refine ih (j + 1) (b :: S) _ (by omega) (by rw [List.length_cons]; omega) (hst _ _) (hsc _ _) (by rw [pu_up_same]; exact pu_rep_push hr) hok.2 (fun σ' ha => ?_)
        rw [hb]
        exact hk σ' ((pu_ag.up (X := fun i => i = 20) (pu_ag.rf _ σ) rfl).tr ha)
      have h96 : ¬ (96 : Int32) ≤ nI S.length := nI_ge (a := S.length) (b := 96) (by omega) (by decide)
      rcases pu_crel_leaf hcj z with h | h | h | h
      · have e0 : (0 : Int32).toInt = 0 := rfl
        rw [if_neg (by rw [fa_lt]; show ¬ v.toInt < -3; omega), if_neg h96, if_neg (by rw [fa_lt, e0]; omega)]
        refine go v ?_
        unfold pu_leaf
        rw [h.2.2, if_neg (by rw [fa_le]; show ¬ 10000 ≤ v.toInt; omega)]
      · rw [if_neg (by rw [h.1]; decide), if_neg h96, if_pos (by rw [h.1]; decide), if_pos h.1]
        exact go a1 (by rw [h.2]; rfl)
      · rw [if_neg (by rw [h.1]; decide), if_neg h96, if_pos (by rw [h.1]; decide), if_neg (by rw [h.1]; decide), if_neg (by rw [h.1]; decide)]
        exact go a2 (by rw [h.2]; rfl)
      · rw [if_neg (by rw [h.1]; decide), if_neg h96, if_pos (by rw [h.1]; decide), if_neg (by rw [h.1]; decide), if_pos h.1]
        exact go a3 (by rw [h.2]; rfl)
