/-! ===== the two-stack reader, without a machine ===== -/
def mc_rk (m : Int32) : Nat := if m = -1 then 1 else if m = -2 then 2 else if m < -5 then (if m < -7 then (if m < -9 then 6 else 5) else 4) else 3
def mc_sg (k : Int32) : Int32 := if k = 38 then -2 else if k = 42 then -8 else if k = 43 then -6 else if k = 45 then -7 else if k = 47 then -9 else if k = 60 then -3 else if k = 61 then -4 else if k = 62 then -5 else if k = 124 then -1 else 0
def mc_sp (r : Nat) : List Int32 → List Int32 × List Int32
  | [] => ([], [])
  | m :: W => if m = -11 then ([], m :: W) else if mc_rk m < r then ([], m :: W) else (m :: (mc_sp r W).1, (mc_sp r W).2)
def mc_nt : List Int32 → Nat
  | [] => 0
  | m :: W => (if m = -10 then 1 else 0) + mc_nt W
def mc_ut (t : Nat → Bool) (p : Nat) (b : Bool) : Nat → Bool := fun i => if i = p then b else t i
def mc_run (T : Nat → Nat) (n key : Nat) : Nat → Int32 × Nat × Nat → Nat → Bool → List Int32 → List Int32 → (Nat → Bool) → Option (Bool × (Int32 × Nat × Nat) × List Int32)
  | 0, _, _, _, _, _, _ => none
  | f + 1, c, p, true, W, C, t =>
    if c.1 = 33 ∧ mc_nt W < 8 then mc_run T n key f (tk_nx T n c) p true (-10 :: W) C t
    else if c.1 = 40 ∧ p < 8 then mc_run T n key f (tk_nx T n c) (p + 1) true (-11 :: W) C (mc_ut t (p + 1) false)
    else if tk_lf T key c < 0 then some (false, c, [])
    else mc_run T n key f (tk_nx T n c) p false (mc_sp 6 W).2 (C ++ tk_lf T key c :: (mc_sp 6 W).1) t
  | f + 1, c, p, false, W, C, t =>
    if c.1 = -1 then some (decide (p = 0), c, C ++ (mc_sp 0 W).1)
    else if c.1 = 41 ∧ 0 < p then mc_run T n key f (tk_nx T n c) (p - 1) false (mc_sp 6 (mc_sp 0 W).2.tail).2 (C ++ (mc_sp 0 W).1 ++ (mc_sp 6 (mc_sp 0 W).2.tail).1) t
    else if mc_sg c.1 = 0 then some (false, c, [])
    else if mc_rk (mc_sg c.1) = 3 ∧ t p = true then some (false, c, [])
    else mc_run T n key f (tk_nx T n c) p true (mc_sg c.1 :: (mc_sp (mc_rk (mc_sg c.1)) W).2) (C ++ (mc_sp (mc_rk (mc_sg c.1)) W).1) (mc_ut t p (decide (mc_rk (mc_sg c.1) = 3) || (decide (3 < mc_rk (mc_sg c.1)) && t p)))
theorem mc_runT (T : Nat → Nat) (n key f : Nat) (c : Int32 × Nat × Nat) (p : Nat) (W C : List Int32) (t : Nat → Bool) : mc_run T n key (f + 1) c p true W C t = (if c.1 = 33 ∧ mc_nt W < 8 then mc_run T n key f (tk_nx T n c) p true (-10 :: W) C t
    else if c.1 = 40 ∧ p < 8 then mc_run T n key f (tk_nx T n c) (p + 1) true (-11 :: W) C (mc_ut t (p + 1) false)
    else if tk_lf T key c < 0 then some (false, c, [])
    else mc_run T n key f (tk_nx T n c) p false (mc_sp 6 W).2 (C ++ tk_lf T key c :: (mc_sp 6 W).1) t) := rfl
theorem mc_runF (T : Nat → Nat) (n key f : Nat) (c : Int32 × Nat × Nat) (p : Nat) (W C : List Int32) (t : Nat → Bool) : mc_run T n key (f + 1) c p false W C t = (if c.1 = -1 then some (decide (p = 0), c, C ++ (mc_sp 0 W).1)
    else if c.1 = 41 ∧ 0 < p then mc_run T n key f (tk_nx T n c) (p - 1) false (mc_sp 6 (mc_sp 0 W).2.tail).2 (C ++ (mc_sp 0 W).1 ++ (mc_sp 6 (mc_sp 0 W).2.tail).1) t
    else if mc_sg c.1 = 0 then some (false, c, [])
    else if mc_rk (mc_sg c.1) = 3 ∧ t p = true then some (false, c, [])
    else mc_run T n key f (tk_nx T n c) p true (mc_sg c.1 :: (mc_sp (mc_rk (mc_sg c.1)) W).2) (C ++ (mc_sp (mc_rk (mc_sg c.1)) W).1) (mc_ut t p (decide (mc_rk (mc_sg c.1) = 3) || (decide (3 < mc_rk (mc_sg c.1)) && t p)))) := rfl
def mc_to (T : Nat → Nat) (n key : Nat) (c : Int32 × Nat × Nat) (p : Nat) (w : Bool) (W C : List Int32) (t : Nat → Bool) (c' : Int32 × Nat × Nat) (p' : Nat) (w' : Bool) (W' C' : List Int32) (t' : Nat → Bool) : Prop :=
  ∃ j, ∀ f, mc_run T n key (f + j) c p w W C t = mc_run T n key f c' p' w' W' C' t'
def mc_fl (T : Nat → Nat) (n key : Nat) (c : Int32 × Nat × Nat) (p : Nat) (w : Bool) (W C : List Int32) (t : Nat → Bool) (c' : Int32 × Nat × Nat) : Prop :=
  ∃ j, ∀ f, ∃ D, mc_run T n key (f + j) c p w W C t = some (false, c', D)
theorem mc_to.rf {T : Nat → Nat} {n key : Nat} (c : Int32 × Nat × Nat) (p : Nat) (w : Bool) (W C : List Int32) (t : Nat → Bool) : mc_to T n key c p w W C t c p w W C t := ⟨0, fun _ => rfl⟩
theorem mc_to.tr {T : Nat → Nat} {n key : Nat} {c1 c2 c3 : Int32 × Nat × Nat} {p1 p2 p3 : Nat} {w1 w2 w3 : Bool} {W1 W2 W3 C1 C2 C3 : List Int32} {t1 t2 t3 : Nat → Bool} (h1 : mc_to T n key c1 p1 w1 W1 C1 t1 c2 p2 w2 W2 C2 t2) (h2 : mc_to T n key c2 p2 w2 W2 C2 t2 c3 p3 w3 W3 C3 t3) : mc_to T n key c1 p1 w1 W1 C1 t1 c3 p3 w3 W3 C3 t3 := by
  obtain ⟨j1, h1⟩ := h1
  obtain ⟨j2, h2⟩ := h2
  exact ⟨j2 + j1, fun f => by rw [← Nat.add_assoc, h1, h2]⟩
theorem mc_to.fl {T : Nat → Nat} {n key : Nat} {c1 c2 c3 : Int32 × Nat × Nat} {p1 p2 : Nat} {w1 w2 : Bool} {W1 W2 C1 C2 : List Int32} {t1 t2 : Nat → Bool} (h1 : mc_to T n key c1 p1 w1 W1 C1 t1 c2 p2 w2 W2 C2 t2) (h2 : mc_fl T n key c2 p2 w2 W2 C2 t2 c3) : mc_fl T n key c1 p1 w1 W1 C1 t1 c3 := by
  obtain ⟨j1, h1⟩ := h1
  obtain ⟨j2, h2⟩ := h2
  refine ⟨j2 + j1, fun f => ?_⟩
  obtain ⟨D, hD⟩ := h2 f
  exact ⟨D, by rw [← Nat.add_assoc, h1, hD]⟩
/-- nothing of rank r or more on top -/
def mc_lo (r : Nat) (W : List Int32) : Prop := mc_sp r W = ([], W)
theorem mc_lo_nil (r : Nat) : mc_lo r [] := rfl
theorem mc_lo_open (r : Nat) (W : List Int32) : mc_lo r (-11 :: W) := by
  unfold mc_lo mc_sp
  rw [if_pos rfl]
theorem mc_lo_sg {r : Nat} {m : Int32} (h : mc_rk m < r) (W : List Int32) : mc_lo r (m :: W) := by
  unfold mc_lo mc_sp
  by_cases z : m = -11
  · rw [if_pos z]
  · rw [if_neg z, if_pos h]
theorem mc_lo_mono {r s : Nat} (hrs : r ≤ s) {W : List Int32} (h : mc_lo r W) : mc_lo s W := by
  cases W with
  | nil => rfl
  | cons m W =>
    unfold mc_lo mc_sp at h ⊢
    by_cases z : m = -11
    · rw [if_pos z]
    · rw [if_neg z] at h ⊢
      by_cases y : mc_rk m < r
      · rw [if_pos (by omega)]
      · rw [if_neg y] at h
        exact absurd (congrArg Prod.fst h) (by simp)
/-- pending signs: binary ones of rank r or more -/
def mc_pd (r : Nat) (Q : List Int32) : Prop := ∀ m, m ∈ Q → (m < 0 ∧ ¬ m = -10 ∧ ¬ m = -11) ∧ r ≤ mc_rk m
theorem mc_sp_app {r : Nat} {Q W : List Int32} (hQ : mc_pd r Q) (hW : mc_lo r W) : mc_sp r (Q ++ W) = (Q, W) := by
  induction Q with
  | nil => exact hW
  | cons m Q ih =>
    have hm := hQ m List.mem_cons_self
    have ih := ih (fun x hx => hQ x (List.mem_cons_of_mem _ hx))
    rw [List.cons_append]
    unfold mc_sp
    rw [if_neg hm.1.2.2, if_neg (by omega), ih]
theorem mc_sg_ne {k : Int32} (h : ¬ mc_sg k = 0) : ¬ k = -1 ∧ ¬ k = 41 := by
  constructor
  · intro z; exact h (by rw [z]; decide)
  · intro z; exact h (by rw [z]; decide)
theorem mc_sg_in {k : Int32} (h : ¬ mc_sg k = 0) : (k = 38 ∧ mc_sg k = -2) ∨ (k = 42 ∧ mc_sg k = -8) ∨ (k = 43 ∧ mc_sg k = -6) ∨ (k = 45 ∧ mc_sg k = -7) ∨ (k = 47 ∧ mc_sg k = -9) ∨ (k = 60 ∧ mc_sg k = -3) ∨ (k = 61 ∧ mc_sg k = -4) ∨ (k = 62 ∧ mc_sg k = -5) ∨ (k = 124 ∧ mc_sg k = -1) := by
  by_cases a1 : k = 38
  · subst a1; exact Or.inl ⟨rfl, rfl⟩
  by_cases a2 : k = 42
  · subst a2; exact Or.inr (Or.inl ⟨rfl, rfl⟩)
  by_cases a3 : k = 43
  · subst a3; exact Or.inr (Or.inr (Or.inl ⟨rfl, rfl⟩))
  by_cases a4 : k = 45
  · subst a4; exact Or.inr (Or.inr (Or.inr (Or.inl ⟨rfl, rfl⟩)))
  by_cases a5 : k = 47
  · subst a5; exact Or.inr (Or.inr (Or.inr (Or.inr (Or.inl ⟨rfl, rfl⟩))))
  by_cases a6 : k = 60
  · subst a6; exact Or.inr (Or.inr (Or.inr (Or.inr (Or.inr (Or.inl ⟨rfl, rfl⟩)))))
  by_cases a7 : k = 61
  · subst a7; exact Or.inr (Or.inr (Or.inr (Or.inr (Or.inr (Or.inr (Or.inl ⟨rfl, rfl⟩))))))
  by_cases a8 : k = 62
  · subst a8; exact Or.inr (Or.inr (Or.inr (Or.inr (Or.inr (Or.inr (Or.inr (Or.inl ⟨rfl, rfl⟩)))))))
  by_cases a9 : k = 124
  · subst a9; exact Or.inr (Or.inr (Or.inr (Or.inr (Or.inr (Or.inr (Or.inr (Or.inr ⟨rfl, rfl⟩)))))))
  · exfalso
    apply h
    unfold mc_sg
    rw [if_neg a1, if_neg a2, if_neg a3, if_neg a4, if_neg a5, if_neg a6, if_neg a7, if_neg a8, if_neg a9]
theorem mc_sg_bin {k : Int32} (h : ¬ mc_sg k = 0) : mc_sg k < 0 ∧ ¬ mc_sg k = -10 ∧ ¬ mc_sg k = -11 ∧ 1 ≤ mc_rk (mc_sg k) ∧ mc_rk (mc_sg k) ≤ 5 ∧ pu_crel (-k) (mc_sg k) := by
  unfold pu_crel
  rcases mc_sg_in h with ⟨a, b⟩ | ⟨a, b⟩ | ⟨a, b⟩ | ⟨a, b⟩ | ⟨a, b⟩ | ⟨a, b⟩ | ⟨a, b⟩ | ⟨a, b⟩ | ⟨a, b⟩ <;> (rw [b, a]; decide)
/-- a piece of a text has been read: from c on to c' -/
def mc_G (T : Nat → Nat) (n key r s : Nat) (c : Int32 × Nat × Nat) (p : Nat) (W C : List Int32) (t : Nat → Bool) (c' : Int32 × Nat × Nat) (Q C' : List Int32) (t' : Nat → Bool) : Prop :=
  mc_to T n key c p true W C t c' p false (Q ++ W) C' t' ∧ tk_gd T n c' ∧ c.2.2 ≤ c'.2.1 ∧ mc_pd r Q ∧ (mc_sg c'.1 = 0 ∨ mc_rk (mc_sg c'.1) < s ∨ (mc_rk (mc_sg c'.1) = 3 ∧ t' p = true)) ∧ (∀ i, i < p → t' i = t i) ∧ (4 ≤ r → t' p = t p) ∧ C'.length + (Q ++ W).length ≤ c'.2.1
theorem mc_G.mono {T : Nat → Nat} {n key r r' s : Nat} {c : Int32 × Nat × Nat} {p : Nat} {W C : List Int32} {t : Nat → Bool} {c' : Int32 × Nat × Nat} {Q C' : List Int32} {t' : Nat → Bool} (hr : r' ≤ r) (h : mc_G T n key r s c p W C t c' Q C' t') : mc_G T n key r' s c p W C t c' Q C' t' := by
  obtain ⟨h1, h2, h3, h4, h5, h6, h7, h8⟩ := h
  exact ⟨h1, h2, h3, fun m hm => ⟨(h4 m hm).1, Nat.le_trans hr (h4 m hm).2⟩, h5, h6, fun q => h7 (by omega), h8⟩
theorem mc_G.exit {T : Nat → Nat} {n key r : Nat} {c : Int32 × Nat × Nat} {p : Nat} {W C : List Int32} {t : Nat → Bool} {c' : Int32 × Nat × Nat} {Q C' : List Int32} {t' : Nat → Bool} (h : mc_G T n key r (r + 1) c p W C t c' Q C' t') (hx : ¬ mc_sg c'.1 = 0 → ¬ mc_rk (mc_sg c'.1) = r) : mc_G T n key r r c p W C t c' Q C' t' := by
  obtain ⟨h1, h2, h3, h4, h5, h6, h7, h8⟩ := h
  refine ⟨h1, h2, h3, h4, ?_, h6, h7, h8⟩
  rcases h5 with q | q | q
  · exact Or.inl q
  · by_cases z : mc_sg c'.1 = 0
    · exact Or.inl z
    · have := hx z
      exact Or.inr (Or.inl (by omega))
  · exact Or.inr (Or.inr q)
def mc_t2 (r : Nat) (t : Nat → Bool) (p : Nat) : Nat → Bool := mc_ut t p (decide (r = 3) || (decide (3 < r) && t p))
theorem mc_t2_ne {r p i : Nat} {t : Nat → Bool} (h : i ≠ p) : mc_t2 r t p i = t i := by
  unfold mc_t2 mc_ut
  rw [if_neg h]
theorem mc_t2_p {r p : Nat} {t : Nat → Bool} : mc_t2 r t p p = (decide (r = 3) || (decide (3 < r) && t p)) := by
  unfold mc_t2 mc_ut
  rw [if_pos rfl]
/-- a sign of rank r is taken -/
theorem mc_op {T : Nat → Nat} {n key r : Nat} {c : Int32 × Nat × Nat} {p : Nat} {W C : List Int32} {t : Nat → Bool} {c1 : Int32 × Nat × Nat} {Q1 C1 : List Int32} {t1 : Nat → Bool} (hT : ∀ i, i < n → T i < 256) (hG : mc_G T n key r (r + 1) c p W C t c1 Q1 C1 t1) (hlo : mc_lo r W) (hm : ¬ mc_sg c1.1 = 0) (hrk : mc_rk (mc_sg c1.1) = r) (h3 : ¬ (r = 3 ∧ t1 p = true)) :
    mc_to T n key c p true W C t (tk_nx T n c1) p true (mc_sg c1.1 :: W) (C1 ++ Q1) (mc_t2 r t1 p) ∧ tk_gd T n (tk_nx T n c1) ∧ (C1 ++ Q1).length + (mc_sg c1.1 :: W).length ≤ (tk_nx T n c1).2.1 ∧ mc_lo (r + 1) (mc_sg c1.1 :: W) ∧ (r + 1 ≤ 3 → mc_t2 r t1 p p = false) ∧ c1.2.1 < (tk_nx T n c1).2.1 ∧ c.2.2 ≤ (tk_nx T n c1).2.1 := by
  obtain ⟨g1, g2, g3, g4, g5, g6, g7, g8⟩ := hG
  have ne := mc_sg_ne hm
  have hs := g2.1.2.2 ne.1
  have hx := tk_nx_ok (T := T) g2.1
  refine ⟨g1.tr ⟨1, fun f => ?_⟩, tk_nx_gd hT g2.1, ?_, mc_lo_sg (by omega) W, fun q => ?_, by omega, by omega⟩
  · show mc_run T n key (f + 1) c1 p false (Q1 ++ W) C1 t1 = _
    rw [mc_runF, if_neg ne.1, if_neg (fun q => ne.2 q.1), if_neg hm, hrk, if_neg h3, mc_sp_app g4 hlo]
    rfl
  · rw [List.length_append] at g8 ⊢
    rw [List.length_cons]
    omega
  · rw [mc_t2_p, decide_eq_false (by omega), decide_eq_false (by omega)]
    rfl
/-- and its right side is read -/
theorem mc_op2 {T : Nat → Nat} {n key r : Nat} {c : Int32 × Nat × Nat} {p : Nat} {W C : List Int32} {t : Nat → Bool} {c1 : Int32 × Nat × Nat} {Q1 C1 : List Int32} {t1 : Nat → Bool} {c3 : Int32 × Nat × Nat} {Q3 C3 : List Int32} {t3 : Nat → Bool} (hT : ∀ i, i < n → T i < 256) (hG : mc_G T n key r (r + 1) c p W C t c1 Q1 C1 t1) (hlo : mc_lo r W) (hm : ¬ mc_sg c1.1 = 0) (hrk : mc_rk (mc_sg c1.1) = r) (h3 : ¬ (r = 3 ∧ t1 p = true)) (hG3 : mc_G T n key (r + 1) (r + 1) (tk_nx T n c1) p (mc_sg c1.1 :: W) (C1 ++ Q1) (mc_t2 r t1 p) c3 Q3 C3 t3) :
    mc_G T n key r (r + 1) c p W C t c3 (Q3 ++ [mc_sg c1.1]) C3 t3 ∧ c1.2.1 < c3.2.1 := by
  obtain ⟨o1, o2, o3, o4, o5, o6, o7⟩ := mc_op hT hG hlo hm hrk h3
  obtain ⟨g1, g2, g3, g4, g5, g6, g7, g8⟩ := hG
  obtain ⟨x1, x2, x3, x4, x5, x6, x7, x8⟩ := hG3
  have hb := mc_sg_bin hm
  have ap : Q3 ++ [mc_sg c1.1] ++ W = Q3 ++ mc_sg c1.1 :: W := by rw [List.append_assoc]; rfl
  have ok2 := o2.1
  refine ⟨⟨?_, x2, by have := ok2.1; omega, ?_, x5, fun i hi => ?_, fun q => ?_, ?_⟩, by have := ok2.1; omega⟩
  · rw [ap]; exact o1.tr x1
  · intro m hmem
    rw [List.mem_append] at hmem
    rcases hmem with q | q
    · exact ⟨(x4 m q).1, by have := (x4 m q).2; omega⟩
    · rw [List.mem_singleton] at q
      rw [q]
      exact ⟨⟨hb.1, hb.2.1, hb.2.2.1⟩, by omega⟩
  · rw [x6 i hi, mc_t2_ne (by omega), g6 i hi]
  · rw [x7 (by omega), mc_t2_p, decide_eq_false (by omega), decide_eq_true (show 3 < r by omega), Bool.false_or, Bool.true_and, g7 q]
  · rw [ap]; exact x8
