/-! ===== a day ===== -/
theorem pu_ue (f : Nat → Int32) (i : Nat) (x : Int32) : upd f i x i = x := if_pos rfl
theorem pu_un {f : Nat → Int32} {i j : Nat} {x : Int32} (h : j ≠ i) : upd f i x j = f j := if_neg h
def pu_eat (g : Nat → Int32) (t : Nat) : Int32 := if g 3 < g 2 then (g (8 + 4 * t + 2) * g 3) / g 2 else g (8 + 4 * t + 2)
def pu_E1 (r : Nat → Int32) (t : Nat) : Nat → Int32 := upd (upd r (8 + 4 * t + 2) (r (8 + 4 * t + 2) - pu_eat r t)) 5 (r 5 + pu_eat r t)
def pu_wr (r : Nat → Int32) (t : Nat) : Int32 := pu_wears (r (8 + 4 * t)) (r (8 + 4 * t + 2))
def pu_age1 (a age : Int32) : Int32 := if a = 0 then 0 else pu_within (age + 1) 0 9999
def pu_W1 (r : Nat → Int32) (t : Nat) : Nat → Int32 := upd (upd (upd r (8 + 4 * t + 2) (r (8 + 4 * t + 2) - pu_wr r t)) 6 (r 6 + pu_wr r t)) (8 + 4 * t + 3) (pu_age1 (r (8 + 4 * t + 2) - pu_wr r t) (r (8 + 4 * t + 3)))
theorem pu_E1_at {r : Nat → Int32} {t c : Nat} (h1 : c ≠ 8 + 4 * t + 2) (h2 : c ≠ 5) : pu_E1 r t c = r c := by
  unfold pu_E1; rw [pu_un h2, pu_un h1]
theorem pu_E1_2 {r : Nat → Int32} {t : Nat} : pu_E1 r t (8 + 4 * t + 2) = r (8 + 4 * t + 2) - pu_eat r t := by
  unfold pu_E1; rw [pu_un (by omega), pu_ue]
theorem pu_E1_5 {r : Nat → Int32} {t : Nat} : pu_E1 r t 5 = r 5 + pu_eat r t := by
  unfold pu_E1; rw [pu_ue]
theorem pu_W1_at {r : Nat → Int32} {t c : Nat} (h1 : c ≠ 8 + 4 * t + 2) (h2 : c ≠ 6) (h3 : c ≠ 8 + 4 * t + 3) : pu_W1 r t c = r c := by
  unfold pu_W1; rw [pu_un h3, pu_un h2, pu_un h1]
theorem pu_W1_2 {r : Nat → Int32} {t : Nat} : pu_W1 r t (8 + 4 * t + 2) = r (8 + 4 * t + 2) - pu_wr r t := by
  unfold pu_W1; rw [pu_un (by omega), pu_un (by omega), pu_ue]
theorem pu_W1_6 {r : Nat → Int32} {t : Nat} : pu_W1 r t 6 = r 6 + pu_wr r t := by
  unfold pu_W1; rw [pu_un (by omega), pu_ue]
theorem pu_W1_3 {r : Nat → Int32} {t : Nat} : pu_W1 r t (8 + 4 * t + 3) = pu_age1 (r (8 + 4 * t + 2) - pu_wr r t) (r (8 + 4 * t + 3)) := by
  unfold pu_W1; rw [pu_ue]
theorem pu_EW {r : Nat → Int32} {i j : Nat} (h : i < j) : pu_E1 (pu_W1 r i) j = pu_W1 (pu_E1 r j) i := by
  have e1 : pu_eat (pu_W1 r i) j = pu_eat r j := by
    unfold pu_eat
    rw [pu_W1_at (c := 3) (by omega) (by omega) (by omega), pu_W1_at (c := 2) (by omega) (by omega) (by omega), pu_W1_at (c := 8 + 4 * j + 2) (by omega) (by omega) (by omega)]
  have e2 : pu_wr (pu_E1 r j) i = pu_wr r i := by
    unfold pu_wr
    rw [pu_E1_at (by omega) (by omega), pu_E1_at (by omega) (by omega)]
  funext c
  by_cases c1 : c = 8 + 4 * j + 2
  · rw [c1, pu_E1_2, e1, pu_W1_at (by omega) (by omega) (by omega), pu_W1_at (by omega) (by omega) (by omega), pu_E1_2]
  · by_cases c2 : c = 5
    · rw [c2, pu_E1_5, e1, pu_W1_at (by omega) (by omega) (by omega), pu_W1_at (by omega) (by omega) (by omega), pu_E1_5]
    · rw [pu_E1_at c1 c2]
      by_cases c3 : c = 8 + 4 * i + 2
      · rw [c3, pu_W1_2, pu_W1_2, e2, pu_E1_at (by omega) (by omega)]
      · by_cases c4 : c = 6
        · rw [c4, pu_W1_6, pu_W1_6, e2, pu_E1_at (by omega) (by omega)]
        · by_cases c5 : c = 8 + 4 * i + 3
          · rw [c5, pu_W1_3, pu_W1_3, e2, pu_E1_at (by omega) (by omega), pu_E1_at (by omega) (by omega)]
          · rw [pu_W1_at c3 c4 c5, pu_W1_at c3 c4 c5, pu_E1_at c1 c2]
def pu_itE (g : Nat → Int32) : Nat → Nat → Int32
  | 0 => g
  | n + 1 => pu_E1 (pu_itE g n) n
def pu_itW (g : Nat → Int32) : Nat → Nat → Int32
  | 0 => g
  | n + 1 => pu_W1 (pu_itW g n) n
def pu_itD (g : Nat → Int32) : Nat → Nat → Int32
  | 0 => g
  | n + 1 => pu_W1 (pu_E1 (pu_itD g n) n) n
theorem pu_E1_itW {r : Nat → Int32} {j : Nat} : ∀ (n : Nat), n ≤ j → pu_E1 (pu_itW r n) j = pu_itW (pu_E1 r j) n
  | 0, _ => rfl
  | n + 1, h => by
    show pu_E1 (pu_W1 (pu_itW r n) n) j = pu_W1 (pu_itW (pu_E1 r j) n) n
    rw [pu_EW (by omega), pu_E1_itW n (by omega)]
theorem pu_itD_eq {g : Nat → Int32} : ∀ (n : Nat), pu_itD g n = pu_itW (pu_itE g n) n
  | 0 => rfl
  | n + 1 => by
    show pu_W1 (pu_E1 (pu_itD g n) n) n = pu_W1 (pu_itW (pu_E1 (pu_itE g n) n) n) n
    rw [pu_itD_eq n, pu_E1_itW n (Nat.le_refl _)]
def pu_n (g : Nat → Int32) : Nat := (g 1).toNatClampNeg
def pu_day (g : Nat → Int32) : Nat → Int32 := upd (pu_itD g (pu_n g)) 4 (pu_itD g (pu_n g) 4 + 1)

/-! ===== what a day keeps ===== -/
/-- the same texts -/
def pu_tx (g g' : Nat → Int32) : Prop := g' 7 = g 7 ∧ ∀ c, 40 ≤ c → g' c = g c
theorem pu_tx.rf (g : Nat → Int32) : pu_tx g g := ⟨rfl, fun _ _ => rfl⟩
theorem pu_tx.tr {a b c : Nat → Int32} (h1 : pu_tx a b) (h2 : pu_tx b c) : pu_tx a c := ⟨h2.1.trans h1.1, fun i hi => (h2.2 i hi).trans (h1.2 i hi)⟩
theorem pu_tx.up {g g' : Nat → Int32} {c : Nat} {v : Int32} (h : pu_tx g g') (hc : c < 40) (h7 : c ≠ 7) : pu_tx g (upd g' c v) :=
  ⟨by rw [pu_un (fun z => h7 z.symm)]; exact h.1, fun i hi => by rw [pu_un (by omega)]; exact h.2 i hi⟩
theorem pu_tx_cnt {g g' : Nat → Int32} (h : pu_tx g g') (key : Int32) : ∀ (n : Nat), pu_cnt g' key n = pu_cnt g key n
  | 0 => rfl
  | n + 1 => by
    unfold pu_cnt
    rw [h.2 (40 + 2 * n) (by omega), pu_tx_cnt h key n]
theorem pu_tx_law {g g' : Nat → Int32} (h : pu_tx g g') (key : Int32) : pu_law g' key = pu_law g key := by
  unfold pu_law
  rw [h.1, pu_tx_cnt h]
theorem pu_tx_sub {g g' : Nat → Int32} (h : pu_tx g g') (t : Nat) : (fun q => g' (68 + 96 * t + q)) = (fun q => g (68 + 96 * t + q)) := funext (fun q => h.2 _ (by omega))
theorem pu_tx_TG {g g' : Nat → Int32} (h : pu_tx g g') (t key L : Nat) : pu_TG g' t key L ↔ pu_TG g t key L := by
  unfold pu_TG
  rw [h.2 (40 + 2 * t) (by omega), pu_tx_sub h t]
theorem pu_tx_text {g g' : Nat → Int32} (h : pu_tx g g') (x : Nat) (a b c : Int32) : pu_text g' x a b c = pu_text g x a b c := by
  unfold pu_text pu_tlen
  rw [h.2 (40 + 2 * x) (by omega), pu_tx_sub h x]
theorem pu_tx_LS {σ : ovSt} {g g' : Nat → Int32} (h : pu_tx g g') (hL : pu_LS σ g) : pu_LS σ g' := by
  intro t ht key L hT
  rw [h.1] at ht
  have h1 := hL t ht key L ((pu_tx_TG h t key L).mp hT)
  rw [h.2 _ (by omega)]
  refine ⟨h1.1, h1.2.1, h1.2.2.1, fun q hq => ?_⟩
  rw [h.2 _ (by omega)]
  exact h1.2.2.2 q hq
theorem pu_tx_E1 (r : Nat → Int32) {t : Nat} (ht : t < 8) : pu_tx r (pu_E1 r t) := by
  unfold pu_E1
  exact pu_tx.up (pu_tx.up (pu_tx.rf r) (by omega) (by omega)) (by omega) (by omega)
theorem pu_tx_W1 (r : Nat → Int32) {t : Nat} (ht : t < 8) : pu_tx r (pu_W1 r t) := by
  unfold pu_W1
  exact pu_tx.up (pu_tx.up (pu_tx.up (pu_tx.rf r) (by omega) (by omega)) (by omega) (by omega)) (by omega) (by omega)
/-- a row whose texts are kept and whose other cells are in their bounds -/
theorem pu_WG.mk {g g' : Nat → Int32} (hg : pu_WG g) (htx : pu_tx g g') (h1 : ∃ n, n ≤ 8 ∧ g' 1 = nI n) (h2 : pu_in (g' 2) 1 999) (h3 : pu_in (g' 3) 0 999)
    (h : ∀ t, t < 8 → pu_in (g' (8 + 4 * t)) 0 5 ∧ pu_in (g' (8 + 4 * t + 1)) 0 9 ∧ pu_in (g' (8 + 4 * t + 2)) 0 99999 ∧ pu_in (g' (8 + 4 * t + 3)) 0 9999) : pu_WG g' := by
  obtain ⟨-, ⟨m, hm, h7, hT⟩, -, -, -⟩ := hg
  exact ⟨h1, ⟨m, hm, htx.1.trans h7, fun t ht => by obtain ⟨key, L, q⟩ := hT t ht; exact ⟨key, L, (pu_tx_TG htx t key L).mpr q⟩⟩, h2, h3, h⟩
theorem pu_eat_in {g : Nat → Int32} (hg : pu_WG g) {t : Nat} (ht : t < 8) : pu_in (pu_eat g t) 0 (g (8 + 4 * t + 2)).toInt := by
  obtain ⟨-, -, ⟨p1, p2⟩, ⟨b1, b2⟩, h⟩ := hg
  obtain ⟨-, -, ⟨a1, a2⟩, -⟩ := h t ht
  unfold pu_eat
  by_cases z : g 3 < g 2
  · rw [if_pos z]
    rw [fa_lt] at z
    have q1 : 0 ≤ (g (8 + 4 * t + 2)).toInt * (g 3).toInt := Int.mul_nonneg a1 b1
    have q2 : (g (8 + 4 * t + 2)).toInt * (g 3).toInt ≤ 99999 * 999 := Int.mul_le_mul a2 b2 b1 (by decide)
    have q3 : (g (8 + 4 * t + 2)).toInt * (g 3).toInt ≤ (g (8 + 4 * t + 2)).toInt * (g 2).toInt := Int.mul_le_mul_of_nonneg_left (by omega) a1
    have e := fb_mulI (x := g (8 + 4 * t + 2)) (y := g 3) (by omega) (by omega)
    unfold pu_in
    rw [pu_divI (by omega) (by omega), e]
    exact ⟨Int.ediv_nonneg q1 (by omega), Int.ediv_le_of_le_mul (by omega) q3⟩
  · rw [if_neg z]
    exact ⟨a1, Int.le_refl _⟩
theorem pu_wears_in {kd a : Int32} (h : pu_in a 0 99999) : pu_in (pu_wears kd a) 0 a.toInt := by
  have hd : pu_in (a / 100) 0 a.toInt := by
    unfold pu_in
    have h1 := h.1
    rw [pu_divI h1 (by decide), show (100 : Int32).toInt = 100 from rfl]
    omega
  unfold pu_wears
  repeat' split
  · exact hd
  · exact pu_herb_in h
  · exact hd
  · exact pu_within_in (lo := 0) h.1
  · exact ⟨Int.le_refl _, h.1⟩
theorem pu_sub_in {a e : Int32} (ha : pu_in a 0 99999) (he : pu_in e 0 a.toInt) : pu_in (a - e) 0 a.toInt := by
  have h1 := ha.1
  have h2 := ha.2
  have h3 := he.1
  have h4 := he.2
  unfold pu_in
  rw [fb_subI (by omega) (by omega)]
  omega
theorem pu_in.le {x : Int32} {a b c : Int} (h : pu_in x a b) (hc : b ≤ c) : pu_in x a c := ⟨h.1, Int.le_trans h.2 hc⟩
theorem pu_WG_E1 {g : Nat → Int32} (hg : pu_WG g) {t : Nat} (ht : t < 8) : pu_WG (pu_E1 g t) := by
  refine pu_WG.mk hg (pu_tx_E1 g ht) ?_ ?_ ?_ (fun i hi => ?_)
  · rw [pu_E1_at (by omega) (by omega)]; exact hg.1
  · rw [pu_E1_at (by omega) (by omega)]; exact hg.2.2.1
  · rw [pu_E1_at (by omega) (by omega)]; exact hg.2.2.2.1
  · obtain ⟨h1, h2, h3, h4⟩ := hg.2.2.2.2 i hi
    rw [pu_E1_at (c := 8 + 4 * i) (by omega) (by omega), pu_E1_at (c := 8 + 4 * i + 1) (by omega) (by omega), pu_E1_at (c := 8 + 4 * i + 3) (by omega) (by omega)]
    refine ⟨h1, h2, ?_, h4⟩
    by_cases z : i = t
    · rw [z] at h3 ⊢
      rw [pu_E1_2]
      exact (pu_sub_in h3 (pu_eat_in hg ht)).le h3.2
    · rw [pu_E1_at (by omega) (by omega)]; exact h3
theorem pu_WG_W1 {g : Nat → Int32} (hg : pu_WG g) {t : Nat} (ht : t < 8) : pu_WG (pu_W1 g t) := by
  refine pu_WG.mk hg (pu_tx_W1 g ht) ?_ ?_ ?_ (fun i hi => ?_)
  · rw [pu_W1_at (by omega) (by omega) (by omega)]; exact hg.1
  · rw [pu_W1_at (by omega) (by omega) (by omega)]; exact hg.2.2.1
  · rw [pu_W1_at (by omega) (by omega) (by omega)]; exact hg.2.2.2.1
  · obtain ⟨h1, h2, h3, h4⟩ := hg.2.2.2.2 i hi
    rw [pu_W1_at (c := 8 + 4 * i) (by omega) (by omega) (by omega), pu_W1_at (c := 8 + 4 * i + 1) (by omega) (by omega) (by omega)]
    refine ⟨h1, h2, ?_⟩
    by_cases z : i = t
    · rw [z] at h3 ⊢
      rw [pu_W1_2, pu_W1_3]
      refine ⟨(pu_sub_in h3 (pu_wears_in h3)).le h3.2, ?_⟩
      unfold pu_age1
      split
      · exact ⟨by decide, by decide⟩
      · exact pu_within_in (lo := 0) (hi := 9999) (by decide)
    · rw [pu_W1_at (by omega) (by omega) (by omega), pu_W1_at (by omega) (by omega) (by omega)]; exact ⟨h3, h4⟩
