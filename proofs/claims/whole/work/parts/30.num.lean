/-! ===== PURE PART: numbers ===== -/
theorem fa_lt (a b : Int32) : a < b ↔ a.toInt < b.toInt := Int32.lt_iff_toInt_lt
theorem fa_le (a b : Int32) : a ≤ b ↔ a.toInt ≤ b.toInt := Int32.le_iff_toInt_le
theorem fa_eq (a b : Int32) : a = b ↔ a.toInt = b.toInt := Int32.toInt_inj.symm
theorem fb_rng (x : Int32) : -2147483648 ≤ x.toInt ∧ x.toInt < 2147483648 := by
  have h1 := Int32.le_toInt x
  have h2 := Int32.toInt_lt x
  omega
theorem fb_bmod {z : Int} (h1 : -2147483648 ≤ z) (h2 : z < 2147483648) : z.bmod (2 ^ 32) = z := by
  rw [Int.bmod_eq_of_le (by omega) (by omega)]
theorem fb_addI {x y : Int32} (h1 : -2147483648 ≤ x.toInt + y.toInt) (h2 : x.toInt + y.toInt < 2147483648) : (x + y).toInt = x.toInt + y.toInt := by
  rw [Int32.toInt_add, fb_bmod h1 h2]
theorem fb_subI {x y : Int32} (h1 : -2147483648 ≤ x.toInt - y.toInt) (h2 : x.toInt - y.toInt < 2147483648) : (x - y).toInt = x.toInt - y.toInt := by
  rw [Int32.toInt_sub, fb_bmod h1 h2]
theorem fb_mulI {x y : Int32} (h1 : -2147483648 ≤ x.toInt * y.toInt) (h2 : x.toInt * y.toInt < 2147483648) : (x * y).toInt = x.toInt * y.toInt := by
  rw [Int32.toInt_mul, fb_bmod h1 h2]
/-- between a and b, as whole numbers -/
def pu_in (x : Int32) (a b : Int) : Prop := a ≤ x.toInt ∧ x.toInt ≤ b
theorem pu_divI {x : Int32} {d : Int32} (hx : 0 ≤ x.toInt) (hd : 0 < d.toInt) : (x / d).toInt = x.toInt / d.toInt := by
  have h1 := fb_rng x
  have h2 : (x / d).toInt = (x.toInt.tdiv d.toInt).bmod (2 ^ 32) := Int32.toInt_div x d
  rw [h2, Int.tdiv_eq_ediv_of_nonneg hx]
  have h3 : 0 ≤ x.toInt / d.toInt := Int.ediv_nonneg hx (by omega)
  have h4 : x.toInt / d.toInt ≤ x.toInt := Int.ediv_le_self _ hx
  exact fb_bmod (by omega) (by omega)
def pu_within (v lo hi : Int32) : Int32 := if lo ≤ v then (if v ≤ hi then v else hi) else lo
theorem pu_min_within {v hi : Int32} (h : 0 ≤ v.toInt) : ov_min v hi = pu_within v 0 hi := by
  unfold ov_min pu_within
  rw [if_pos ((fa_le 0 v).mpr (by show (0 : Int) ≤ _; exact h))]
  by_cases q : hi < v
  · rw [if_pos q, if_neg (fun z => by rw [fa_lt] at q; rw [fa_le] at z; omega)]
  · rw [if_neg q, if_pos (by rw [fa_lt] at q; rw [fa_le]; omega)]
theorem pu_held_within {v hi : Int32} (h : 0 ≤ hi.toInt) : ov_max 0 (ov_min v hi) = pu_within v 0 hi := by
  have e0 : (0 : Int32).toInt = 0 := rfl
  unfold ov_max ov_min pu_within
  by_cases q : hi < v
  · rw [if_pos q]
    rw [fa_lt] at q
    by_cases z : (0 : Int32) < hi
    · rw [if_pos z, if_pos (by rw [fa_le, e0]; omega), if_neg (by rw [fa_le]; omega)]
    · rw [if_neg z]
      rw [fa_lt, e0] at z
      have : hi = 0 := by rw [fa_eq, e0]; omega
      rw [if_pos (by rw [fa_le, e0]; omega), if_neg (by rw [fa_le]; omega), this]
  · rw [if_neg q]
    rw [fa_lt] at q
    by_cases z : (0 : Int32) < v
    · rw [if_pos z]
      rw [fa_lt, e0] at z
      rw [if_pos (by rw [fa_le, e0]; omega), if_pos (by rw [fa_le]; omega)]
    · rw [if_neg z]
      rw [fa_lt, e0] at z
      by_cases y : (0 : Int32) ≤ v
      · rw [if_pos y, if_pos (by rw [fa_le]; omega)]
        rw [fa_le, e0] at y
        rw [fa_eq, e0]; omega
      · rw [if_neg y]
theorem pu_within_in {v lo hi : Int32} (h : lo.toInt ≤ hi.toInt) : pu_in (pu_within v lo hi) lo.toInt hi.toInt := by
  unfold pu_within pu_in
  by_cases q : lo ≤ v
  · rw [if_pos q]
    rw [fa_le] at q
    by_cases z : v ≤ hi
    · rw [if_pos z]; rw [fa_le] at z; omega
    · rw [if_neg z]; omega
  · rw [if_neg q]; omega
theorem pu_within_id {v lo hi : Int32} (h1 : lo.toInt ≤ v.toInt) (h2 : v.toInt ≤ hi.toInt) : pu_within v lo hi = v := by
  unfold pu_within
  rw [if_pos (by rw [fa_le]; exact h1), if_pos (by rw [fa_le]; exact h2)]
/-! ===== stores ===== -/
theorem pu_up_same (σ : ovSt) (i k : Nat) (v : Int32) : ov_up σ i k v i = upd (σ i) k v := if_pos rfl
theorem pu_up_ne {σ : ovSt} {i j k : Nat} {v : Int32} (h : j ≠ i) : ov_up σ i k v j = σ j := if_neg h
theorem pu_row_same (σ : ovSt) (i : Nat) (f : Nat → Int32) : ov_row σ i f i = f := if_pos rfl
theorem pu_row_ne {σ : ovSt} {i j : Nat} {f : Nat → Int32} (h : j ≠ i) : ov_row σ i f j = σ j := if_neg h
theorem pu_cl {t : Nat} (h : t < 2 ^ 31) : Int32.toNatClampNeg (nI t) = t := nI_clamp h
/-- the index of a thing's place in the model's row -/
theorem pu_ix (t : Nat) (j : Nat) : (8 + (4 * nI t)) + nI j = nI (8 + 4 * t + j) := by
  rw [show (8 : Int32) = nI 8 from rfl, show (4 : Int32) = nI 4 from rfl, pk_mul, nI_add, nI_add]
theorem e6_within (x lo hi : Int32) (σ : ovSt) (k : Int32 → ovSt → Prop) : F_X6_within x lo hi σ k = k (pu_within x lo hi) σ := by
  unfold F_X6_within F_X6_within_19 pu_within
  split
  · split <;> rfl
  · rfl
theorem e6_of {t : Nat} (ht : t < 8) (j : Nat) (hj : j < 4) (σ : ovSt) (k : Int32 → ovSt → Prop) : F_X6_of (nI t) (nI j) σ k = k (σ 75 (8 + 4 * t + j)) σ := by
  unfold F_X6_of
  rw [pu_ix, pu_cl (by omega), eq_true (vp_in_nI (n := 8 + 4 * t + j) (N := 1412) (by omega) (by omega)), true_and]
theorem e6_of0 {t : Nat} (ht : t < 8) (σ : ovSt) (k : Int32 → ovSt → Prop) : F_X6_of (nI t) 0 σ k = k (σ 75 (8 + 4 * t)) σ := e6_of ht 0 (by decide) σ k
theorem e6_of1 {t : Nat} (ht : t < 8) (σ : ovSt) (k : Int32 → ovSt → Prop) : F_X6_of (nI t) 1 σ k = k (σ 75 (8 + 4 * t + 1)) σ := e6_of ht 1 (by decide) σ k
theorem e6_of2 {t : Nat} (ht : t < 8) (σ : ovSt) (k : Int32 → ovSt → Prop) : F_X6_of (nI t) 2 σ k = k (σ 75 (8 + 4 * t + 2)) σ := e6_of ht 2 (by decide) σ k
theorem e6_of3 {t : Nat} (ht : t < 8) (σ : ovSt) (k : Int32 → ovSt → Prop) : F_X6_of (nI t) 3 σ k = k (σ 75 (8 + 4 * t + 3)) σ := e6_of ht 3 (by decide) σ k
theorem e6_put {t : Nat} (ht : t < 8) (j : Nat) (hj : j < 4) (v : Int32) (σ : ovSt) (k : ovSt → Prop) : F_X6_put (nI t) (nI j) v σ k = k (ov_up σ 75 (8 + 4 * t + j) v) := by
  unfold F_X6_put
  rw [pu_ix, pu_cl (by omega), eq_true (vp_in_nI (n := 8 + 4 * t + j) (N := 1412) (by omega) (by omega)), true_and]
  exact propext forall_eq
/-! ===== what is worn ===== -/
def pu_herb (a : Int32) : Int32 := pu_within (a / 20 + 1) 0 a
def pu_wears (kd a : Int32) : Int32 := if kd = 1 then a / 100 else if kd = 2 then pu_herb a else if kd = 3 then a / 100 else if kd = 4 then pu_within (2 * pu_herb a) 0 a else 0
theorem e6_wearsOf {t : Nat} (ht : t < 8) (σ : ovSt) (k : Int32 → ovSt → Prop) : F_X6_wearsOf (nI t) σ k = k (pu_wears (σ 75 (8 + 4 * t)) (σ 75 (8 + 4 * t + 2))) σ := by
  simp only [F_X6_wearsOf, e6_of2 ht, e6_of0 ht, e6_within, pu_wears, pu_herb]
  split
  · rfl
  · split
    · rfl
    · split
      · rfl
      · split <;> rfl
theorem pu_herb_in {a : Int32} (h : pu_in a 0 99999) : pu_in (pu_herb a) 0 a.toInt := pu_within_in (lo := 0) (by show (0 : Int) ≤ _; exact h.1)
theorem e3_wearsAsHerb {s : Nat} (hs : ov_stk s) {t : Nat} (ht : t < 8) {σ : ovSt} (ha : pu_in (σ (s + 3) t) 0 99999) (k : Int32 → ovSt → Prop) : F_X3_wearsAsHerb s (nI t) σ k = k (pu_herb (σ (s + 3) t)) σ := by
  unfold F_X3_wearsAsHerb pu_herb
  rw [pu_cl (by omega), eq_true hs, eq_true (vp_in_nI (n := t) (N := 8) ht (by omega)), true_and, true_and, pu_min_within]
  have e : (σ (s + 3) t / 20).toInt = (σ (s + 3) t).toInt / 20 := pu_divI (d := 20) ha.1 (by decide)
  have h1 := ha.1
  have h2 := ha.2
  rw [fb_addI]
  · rw [e]; show 0 ≤ (σ (s + 3) t).toInt / 20 + 1; omega
  · rw [e]; show _ ≤ (σ (s + 3) t).toInt / 20 + 1; omega
  · rw [e]; show (σ (s + 3) t).toInt / 20 + 1 < _; omega
theorem e3_wearsOf {s : Nat} (hs : ov_stk s) {t : Nat} (ht : t < 8) {σ : ovSt} (ha : pu_in (σ (s + 3) t) 0 99999) (k : Int32 → ovSt → Prop) : F_X3_wearsOf s (nI t) σ k = k (pu_wears (σ (s + 1) t) (σ (s + 3) t)) σ := by
  have h1 := (pu_herb_in ha).1
  have h2 := (pu_herb_in ha).2
  have h3 := ha.2
  have e2 : (2 * pu_herb (σ (s + 3) t)).toInt = 2 * (pu_herb (σ (s + 3) t)).toInt := fb_mulI (x := 2) (by show -2147483648 ≤ 2 * (pu_herb (σ (s + 3) t)).toInt; omega) (by show 2 * (pu_herb (σ (s + 3) t)).toInt < 2147483648; omega)
  unfold F_X3_wearsOf pu_wears
  rw [pu_cl (by omega), eq_true hs, eq_true (vp_in_nI (n := t) (N := 8) ht (by omega)), true_and, true_and, e3_wearsAsHerb hs ht ha, e3_wearsAsHerb hs ht ha, pu_min_within (by rw [e2]; omega)]
  split
  · rfl
  · split
    · rfl
    · split
      · rfl
      · split <;> rfl
