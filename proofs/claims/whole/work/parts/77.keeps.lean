/-! ===== what the two-stack reader keeps ===== -/
def pu_okd (nn : Nat) : List Int32 → Nat → Nat → Prop
  | [], d, e => d = e
  | m :: c, d, e => if m < 0 then (if m = (-10) then 1 ≤ d ∧ pu_okd nn c d e else 2 ≤ d ∧ pu_okd nn c (d - 1) e) else (m.toInt < 10000 + nn ∧ pu_okd nn c (d + 1) e)
theorem pu_okd_okc {nn : Nat} : ∀ (C : List Int32) (d : Nat), pu_okd nn C d 1 → pu_okc nn C d
  | [], _, h => h
  | m :: C, d, h => by
    unfold pu_okd at h
    unfold pu_okc
    by_cases z : m < 0
    · rw [if_pos z] at h ⊢
      by_cases y : m = -10
      · rw [if_pos y] at h ⊢; exact ⟨h.1, pu_okd_okc C d h.2⟩
      · rw [if_neg y] at h ⊢; exact ⟨h.1, pu_okd_okc C (d - 1) h.2⟩
    · rw [if_neg z] at h ⊢; exact ⟨h.1, pu_okd_okc C (d + 1) h.2⟩
theorem pu_okd_app {nn : Nat} {B : List Int32} {e f : Nat} (hB : pu_okd nn B e f) : ∀ (C : List Int32) (d : Nat), pu_okd nn C d e → pu_okd nn (C ++ B) d f
  | [], d, h => by
    have h : d = e := h
    rw [List.nil_append, h]; exact hB
  | m :: C, d, h => by
    rw [List.cons_append]
    unfold pu_okd at h ⊢
    by_cases z : m < 0
    · rw [if_pos z] at h ⊢
      by_cases y : m = -10
      · rw [if_pos y] at h ⊢; exact ⟨h.1, pu_okd_app hB C d h.2⟩
      · rw [if_neg y] at h ⊢; exact ⟨h.1, pu_okd_app hB C (d - 1) h.2⟩
    · rw [if_neg z] at h ⊢; exact ⟨h.1, pu_okd_app hB C (d + 1) h.2⟩
def mc_bn : List Int32 → Nat
  | [] => 0
  | m :: W => (if m = -10 ∨ m = -11 then 0 else 1) + mc_bn W
def mc_opn : List Int32 → Nat
  | [] => 0
  | m :: W => (if m = -11 then 1 else 0) + mc_opn W
theorem mc_bn_app (a b : List Int32) : mc_bn (a ++ b) = mc_bn a + mc_bn b := by
  induction a with
  | nil => rw [List.nil_append]; exact (Nat.zero_add _).symm
  | cons m r ih =>
    rw [List.cons_append]
    show (if m = -10 ∨ m = -11 then 0 else 1) + mc_bn (r ++ b) = ((if m = -10 ∨ m = -11 then 0 else 1) + mc_bn r) + mc_bn b
    rw [ih, Nat.add_assoc]
theorem mc_opn_app (a b : List Int32) : mc_opn (a ++ b) = mc_opn a + mc_opn b := by
  induction a with
  | nil => rw [List.nil_append]; exact (Nat.zero_add _).symm
  | cons m r ih =>
    rw [List.cons_append]
    show (if m = -11 then 1 else 0) + mc_opn (r ++ b) = ((if m = -11 then 1 else 0) + mc_opn r) + mc_opn b
    rw [ih, Nat.add_assoc]
theorem mc_nt_app (a b : List Int32) : mc_nt (a ++ b) = mc_nt a + mc_nt b := by
  induction a with
  | nil => rw [List.nil_append]; exact (Nat.zero_add _).symm
  | cons m r ih =>
    rw [List.cons_append]
    show (if m = -10 then 1 else 0) + mc_nt (r ++ b) = ((if m = -10 then 1 else 0) + mc_nt r) + mc_nt b
    rw [ih, Nat.add_assoc]
/-- no NOT in the top frame -/
def mc_nf : List Int32 → Prop
  | [] => True
  | m :: W => m = -11 ∨ (¬ m = -10 ∧ mc_nf W)
/-- below a binary sign there is no NOT in its frame -/
def mc_wf : List Int32 → Prop
  | [] => True
  | m :: W => (m = -10 ∨ m = -11 ∨ mc_nf W) ∧ mc_wf W
theorem mc_sp_eq (r : Nat) : ∀ (W : List Int32), (mc_sp r W).1 ++ (mc_sp r W).2 = W
  | [] => rfl
  | m :: W => by
    unfold mc_sp
    by_cases z : m = -11
    · rw [if_pos z]; rfl
    rw [if_neg z]
    by_cases y : mc_rk m < r
    · rw [if_pos y]; rfl
    · rw [if_neg y]
      show m :: ((mc_sp r W).1 ++ (mc_sp r W).2) = m :: W
      rw [mc_sp_eq r W]
theorem mc_sp_1 (r : Nat) : ∀ (W : List Int32) (m : Int32), m ∈ (mc_sp r W).1 → ¬ m = -11 ∧ r ≤ mc_rk m ∧ m ∈ W
  | [], m, h => absurd h (by simp [mc_sp])
  | x :: W, m, h => by
    unfold mc_sp at h
    by_cases z : x = -11
    · rw [if_pos z] at h; exact absurd h (by simp)
    rw [if_neg z] at h
    by_cases y : mc_rk x < r
    · rw [if_pos y] at h; exact absurd h (by simp)
    · rw [if_neg y] at h
      have h : m ∈ x :: (mc_sp r W).1 := h
      rw [List.mem_cons] at h
      rcases h with q | q
      · rw [q]; exact ⟨z, by omega, List.mem_cons_self⟩
      · obtain ⟨a, b, c⟩ := mc_sp_1 r W m q
        exact ⟨a, b, List.mem_cons_of_mem _ c⟩
theorem mc_sp_2 (r : Nat) (W : List Int32) : ∀ m, m ∈ (mc_sp r W).2 → m ∈ W := by
  intro m h
  rw [← mc_sp_eq r W]
  exact List.mem_append_right _ h
theorem mc_sp_nf (r : Nat) : ∀ (W : List Int32), mc_nf W → (∀ m, m ∈ (mc_sp r W).1 → ¬ m = -10) ∧ mc_nf (mc_sp r W).2
  | [], _ => ⟨fun m h => absurd h (by simp [mc_sp]), trivial⟩
  | x :: W, hn => by
    have hn' := hn
    unfold mc_nf at hn
    unfold mc_sp
    by_cases z : x = -11
    · rw [if_pos z]; exact ⟨fun m h => absurd h (by simp), hn'⟩
    rw [if_neg z]
    by_cases y : mc_rk x < r
    · rw [if_pos y]; exact ⟨fun m h => absurd h (by simp), hn'⟩
    · rw [if_neg y]
      obtain ⟨n1, n2⟩ := hn.resolve_left z
      obtain ⟨i1, i2⟩ := mc_sp_nf r W n2
      refine ⟨fun m h => ?_, i2⟩
      have h : m ∈ x :: (mc_sp r W).1 := h
      rw [List.mem_cons] at h
      rcases h with q | q
      · rw [q]; exact n1
      · exact i1 m q
theorem mc_sp_wf (r : Nat) : ∀ (W : List Int32), mc_wf W → mc_wf (mc_sp r W).2
  | [], _ => trivial
  | x :: W, h => by
    unfold mc_sp
    by_cases z : x = -11
    · rw [if_pos z]; exact h
    rw [if_neg z]
    by_cases y : mc_rk x < r
    · rw [if_pos y]; exact h
    · rw [if_neg y]; exact mc_sp_wf r W h.2
theorem mc_sp6_nf : ∀ (W : List Int32), mc_wf W → mc_nf (mc_sp 6 W).2
  | [], _ => trivial
  | x :: W, h => by
    unfold mc_sp
    by_cases z : x = -11
    · rw [if_pos z]; exact Or.inl z
    rw [if_neg z]
    by_cases y : mc_rk x < 6
    · rw [if_pos y]
      by_cases w : x = -10
      · rw [w] at y; exact absurd y (by decide)
      · refine Or.inr ⟨w, ?_⟩
        rcases h.1 with q | q | q
        · exact absurd q w
        · exact absurd q z
        · exact q
    · rw [if_neg y]; exact mc_sp6_nf W h.2
def mc_rng (W : List Int32) : Prop := ∀ m, m ∈ W → -11 ≤ m.toInt ∧ m.toInt ≤ -1
theorem mc_rng_neg {W : List Int32} (h : mc_rng W) {m : Int32} (hm : m ∈ W) : m < 0 := by
  have := h m hm
  rw [fa_lt, show (0 : Int32).toInt = 0 from rfl]
  omega
theorem mc_rk6 {m : Int32} (h : -11 ≤ m.toInt ∧ m.toInt ≤ -1) (hr : 6 ≤ mc_rk m) : m = -10 ∨ m = -11 := by
  unfold mc_rk at hr
  by_cases a : m = -1
  · rw [if_pos a] at hr; omega
  rw [if_neg a] at hr
  by_cases b : m = -2
  · rw [if_pos b] at hr; omega
  rw [if_neg b] at hr
  by_cases c : m < -5
  · rw [if_pos c] at hr
    by_cases d : m < -7
    · rw [if_pos d] at hr
      by_cases e : m < -9
      · rw [fa_lt, show (-9 : Int32).toInt = -9 from rfl] at e
        rw [fa_eq, fa_eq, show (-10 : Int32).toInt = -10 from rfl, show (-11 : Int32).toInt = -11 from rfl]
        omega
      · rw [if_neg e] at hr; omega
    · rw [if_neg d] at hr; omega
  · rw [if_neg c] at hr; omega
/-- pending signs run from a depth -/
theorem pu_okd_Q {nn : Nat} : ∀ (Q : List Int32) (e : Nat), (∀ m, m ∈ Q → m < 0 ∧ ¬ m = -11) → pu_okd nn Q (mc_bn Q + 1 + e) (1 + e)
  | [], e, _ => by
    show 0 + 1 + e = 1 + e
    omega
  | m :: Q, e, h => by
    have hm := h m List.mem_cons_self
    have ih := pu_okd_Q (nn := nn) Q e (fun x hx => h x (List.mem_cons_of_mem _ hx))
    unfold pu_okd
    rw [if_pos hm.1]
    by_cases y : m = -10
    · rw [if_pos y]
      have eb : mc_bn (m :: Q) = mc_bn Q := by
        show (if m = -10 ∨ m = -11 then 0 else 1) + mc_bn Q = mc_bn Q
        rw [if_pos (Or.inl y), Nat.zero_add]
      rw [eb]
      exact ⟨by omega, ih⟩
    · rw [if_neg y]
      have eb : mc_bn (m :: Q) = 1 + mc_bn Q := by
        show (if m = -10 ∨ m = -11 then 0 else 1) + mc_bn Q = 1 + mc_bn Q
        rw [if_neg (fun q => q.elim y hm.2)]
      rw [eb]
      refine ⟨by omega, ?_⟩
      rw [show 1 + mc_bn Q + 1 + e - 1 = mc_bn Q + 1 + e by omega]
      exact ih
theorem pu_okd_QN {nn : Nat} : ∀ (Q : List Int32) (d : Nat), 1 ≤ d → (∀ m, m ∈ Q → m = -10) → pu_okd nn Q d d
  | [], d, _, _ => rfl
  | m :: Q, d, hd, h => by
    have hm := h m List.mem_cons_self
    unfold pu_okd
    rw [if_pos (by rw [hm]; decide), if_pos hm]
    exact ⟨hd, pu_okd_QN Q d hd (fun x hx => h x (List.mem_cons_of_mem _ hx))⟩
theorem mc_bn_N : ∀ (Q : List Int32), (∀ m, m ∈ Q → m = -10) → mc_bn Q = 0
  | [], _ => rfl
  | m :: Q, h => by
    show (if m = -10 ∨ m = -11 then 0 else 1) + mc_bn Q = 0
    rw [if_pos (Or.inl (h m List.mem_cons_self)), mc_bn_N Q (fun x hx => h x (List.mem_cons_of_mem _ hx))]
theorem mc_opn_0 : ∀ (Q : List Int32), (∀ m, m ∈ Q → ¬ m = -11) → mc_opn Q = 0
  | [], _ => rfl
  | m :: Q, h => by
    show (if m = -11 then 1 else 0) + mc_opn Q = 0
    rw [if_neg (h m List.mem_cons_self), mc_opn_0 Q (fun x hx => h x (List.mem_cons_of_mem _ hx))]
theorem mc_nt_0 : ∀ (Q : List Int32), (∀ m, m ∈ Q → ¬ m = -10) → mc_nt Q = 0
  | [], _ => rfl
  | m :: Q, h => by
    show (if m = -10 then 1 else 0) + mc_nt Q = 0
    rw [if_neg (h m List.mem_cons_self), mc_nt_0 Q (fun x hx => h x (List.mem_cons_of_mem _ hx))]
/-- settled down to an open paren, or to the ground -/
theorem mc_sp0 (W : List Int32) : ((mc_sp 0 W).2 = [] ∧ mc_opn W = 0) ∨ ∃ W2, (mc_sp 0 W).2 = -11 :: W2 ∧ mc_opn W = 1 + mc_opn W2 := by
  induction W with
  | nil => exact Or.inl ⟨rfl, rfl⟩
  | cons m W ih =>
    unfold mc_sp
    by_cases z : m = -11
    · rw [if_pos z]
      subst z
      refine Or.inr ⟨W, rfl, ?_⟩
      show (if (-11 : Int32) = -11 then 1 else 0) + mc_opn W = 1 + mc_opn W
      rw [if_pos rfl]
    · rw [if_neg z, if_neg (by omega)]
      have e : mc_opn (m :: W) = mc_opn W := by
        show (if m = -11 then 1 else 0) + mc_opn W = mc_opn W
        rw [if_neg z, Nat.zero_add]
      rw [e]
      exact ih
/-- the invariant -/
def mi_I (T : Nat → Nat) (n nn : Nat) (w : Bool) (c : Int32 × Nat × Nat) (p : Nat) (W C : List Int32) : Prop :=
  tk_gd T n c ∧ C.length + W.length ≤ c.2.1 ∧ p ≤ 8 ∧ mc_opn W = p ∧ mc_rng W ∧ mc_wf W ∧ (w = false → mc_nf W) ∧ pu_okd nn C 0 (mc_bn W + (if w = true then 0 else 1))
theorem mi_not {T : Nat → Nat} {n nn : Nat} {c : Int32 × Nat × Nat} {p : Nat} {W C : List Int32} (hT : ∀ i, i < n → T i < 256) (h : mi_I T n nn true c p W C) (h1 : ¬ c.1 = -1) : mi_I T n nn true (tk_nx T n c) p (-10 :: W) C := by
  obtain ⟨a1, a2, a3, a4, a5, a6, a7, a8⟩ := h
  have hx := tk_nx_ok (T := T) a1.1
  have hs := a1.1.2.2 h1
  refine ⟨tk_nx_gd hT a1.1, by rw [List.length_cons]; omega, a3, ?_, ?_, ⟨Or.inl rfl, a6⟩, fun q => absurd q (by decide), ?_⟩
  · show (if (-10 : Int32) = -11 then 1 else 0) + mc_opn W = p
    rw [if_neg (by decide), Nat.zero_add]; exact a4
  · intro m hm
    rw [List.mem_cons] at hm
    rcases hm with q | q
    · rw [q]; decide
    · exact a5 m q
  · have e : mc_bn (-10 :: W) = mc_bn W := by
      show (if (-10 : Int32) = -10 ∨ (-10 : Int32) = -11 then 0 else 1) + mc_bn W = mc_bn W
      rw [if_pos (Or.inl rfl), Nat.zero_add]
    rw [e]; exact a8
theorem mi_open {T : Nat → Nat} {n nn : Nat} {c : Int32 × Nat × Nat} {p : Nat} {W C : List Int32} (hT : ∀ i, i < n → T i < 256) (h : mi_I T n nn true c p W C) (h1 : ¬ c.1 = -1) (hp : p < 8) : mi_I T n nn true (tk_nx T n c) (p + 1) (-11 :: W) C := by
  obtain ⟨a1, a2, a3, a4, a5, a6, a7, a8⟩ := h
  have hx := tk_nx_ok (T := T) a1.1
  have hs := a1.1.2.2 h1
  refine ⟨tk_nx_gd hT a1.1, by rw [List.length_cons]; omega, by omega, ?_, ?_, ⟨Or.inr (Or.inl rfl), a6⟩, fun q => absurd q (by decide), ?_⟩
  · show (if (-11 : Int32) = -11 then 1 else 0) + mc_opn W = p + 1
    rw [if_pos rfl, a4, Nat.add_comm]
  · intro m hm
    rw [List.mem_cons] at hm
    rcases hm with q | q
    · rw [q]; decide
    · exact a5 m q
  · have e : mc_bn (-11 :: W) = mc_bn W := by
      show (if (-11 : Int32) = -10 ∨ (-11 : Int32) = -11 then 0 else 1) + mc_bn W = mc_bn W
      rw [if_pos (Or.inr rfl), Nat.zero_add]
    rw [e]; exact a8
theorem mc_sp6_N {W : List Int32} (h : mc_rng W) : ∀ m, m ∈ (mc_sp 6 W).1 → m = -10 := by
  intro m hm
  obtain ⟨a, b, c⟩ := mc_sp_1 6 W m hm
  exact (mc_rk6 (h m c) b).resolve_right a
theorem mi_leaf {T : Nat → Nat} {n nn : Nat} {c : Int32 × Nat × Nat} {p : Nat} {W C : List Int32} {m : Int32} (hT : ∀ i, i < n → T i < 256) (h : mi_I T n nn true c p W C) (h1 : ¬ c.1 = -1) (hm : ¬ m < 0) (hm2 : m.toInt < 10000 + nn) : mi_I T n nn false (tk_nx T n c) p (mc_sp 6 W).2 (C ++ m :: (mc_sp 6 W).1) := by
  obtain ⟨a1, a2, a3, a4, a5, a6, a7, a8⟩ := h
  have hx := tk_nx_ok (T := T) a1.1
  have hs := a1.1.2.2 h1
  have hN := mc_sp6_N a5
  have eq := mc_sp_eq 6 W
  have ln := mc_sp_len 6 W
  refine ⟨tk_nx_gd hT a1.1, ?_, a3, ?_, fun x hxm => a5 x (mc_sp_2 6 W x hxm), mc_sp_wf 6 W a6, fun _ => mc_sp6_nf W a6, ?_⟩
  · rw [List.length_append, List.length_cons]
    omega
  · have e := mc_opn_app (mc_sp 6 W).1 (mc_sp 6 W).2
    rw [eq, mc_opn_0 _ (fun x hx => (mc_sp_1 6 W x hx).1)] at e
    omega
  · have e := mc_bn_app (mc_sp 6 W).1 (mc_sp 6 W).2
    rw [eq, mc_bn_N _ hN, Nat.zero_add] at e
    rw [← e, if_neg (by decide)]
    rw [if_pos rfl, Nat.add_zero] at a8
    refine pu_okd_app ?_ C 0 a8
    unfold pu_okd
    rw [if_neg hm]
    exact ⟨hm2, pu_okd_QN _ _ (by omega) hN⟩
theorem mi_sign {T : Nat → Nat} {n nn : Nat} {c : Int32 × Nat × Nat} {p r : Nat} {W C : List Int32} (hT : ∀ i, i < n → T i < 256) (h : mi_I T n nn false c p W C) (hm : ¬ mc_sg c.1 = 0) : mi_I T n nn true (tk_nx T n c) p (mc_sg c.1 :: (mc_sp r W).2) (C ++ (mc_sp r W).1) ∧ mc_nt (mc_sg c.1 :: (mc_sp r W).2) = mc_nt W := by
  obtain ⟨a1, a2, a3, a4, a5, a6, a7, a8⟩ := h
  have hx := tk_nx_ok (T := T) a1.1
  have hs := a1.1.2.2 (mc_sg_ne hm).1
  have hb := mc_sg_bin hm
  have eq := mc_sp_eq r W
  have ln := mc_sp_len r W
  obtain ⟨n1, n2⟩ := mc_sp_nf r W (a7 rfl)
  refine ⟨⟨tk_nx_gd hT a1.1, ?_, a3, ?_, ?_, ⟨Or.inr (Or.inr n2), mc_sp_wf r W a6⟩, fun q => absurd q (by decide), ?_⟩, ?_⟩
  · rw [List.length_append, List.length_cons]
    omega
  · have e := mc_opn_app (mc_sp r W).1 (mc_sp r W).2
    rw [eq, mc_opn_0 _ (fun x hx => (mc_sp_1 r W x hx).1)] at e
    show (if mc_sg c.1 = -11 then 1 else 0) + mc_opn (mc_sp r W).2 = p
    rw [if_neg hb.2.2.1]
    omega
  · intro m hmm
    rw [List.mem_cons] at hmm
    rcases hmm with q | q
    · rw [q]
      rcases mc_sg_in hm with ⟨_, b⟩ | ⟨_, b⟩ | ⟨_, b⟩ | ⟨_, b⟩ | ⟨_, b⟩ | ⟨_, b⟩ | ⟨_, b⟩ | ⟨_, b⟩ | ⟨_, b⟩ <;> (rw [b]; decide)
    · exact a5 m (mc_sp_2 r W m q)
  · have e := mc_bn_app (mc_sp r W).1 (mc_sp r W).2
    rw [eq] at e
    rw [if_neg (by decide), e] at a8
    have e2 : mc_bn (mc_sg c.1 :: (mc_sp r W).2) = 1 + mc_bn (mc_sp r W).2 := by
      show (if mc_sg c.1 = -10 ∨ mc_sg c.1 = -11 then 0 else 1) + mc_bn (mc_sp r W).2 = 1 + mc_bn (mc_sp r W).2
      rw [if_neg (fun q => q.elim hb.2.1 hb.2.2.1)]
    rw [e2, if_pos rfl, Nat.add_zero]
    refine pu_okd_app (pu_okd_Q (mc_sp r W).1 (mc_bn (mc_sp r W).2) (fun x hx => ⟨mc_rng_neg a5 (mc_sp_1 r W x hx).2.2, (mc_sp_1 r W x hx).1⟩)) C 0 ?_
    rw [show mc_bn (mc_sp r W).1 + 1 + mc_bn (mc_sp r W).2 = mc_bn (mc_sp r W).1 + mc_bn (mc_sp r W).2 + 1 by omega]
    exact a8
  · have e := mc_nt_app (mc_sp r W).1 (mc_sp r W).2
    rw [eq, mc_nt_0 _ n1, Nat.zero_add] at e
    show (if mc_sg c.1 = -10 then 1 else 0) + mc_nt (mc_sp r W).2 = mc_nt W
    rw [if_neg hb.2.1, Nat.zero_add, e]
theorem mi_close {T : Nat → Nat} {n nn : Nat} {c : Int32 × Nat × Nat} {p : Nat} {W C : List Int32} (hT : ∀ i, i < n → T i < 256) (h : mi_I T n nn false c p W C) (h1 : ¬ c.1 = -1) (hp : 0 < p) : ∃ W2, (mc_sp 0 W).2 = -11 :: W2 ∧ mi_I T n nn false (tk_nx T n c) (p - 1) (mc_sp 6 W2).2 (C ++ (mc_sp 0 W).1 ++ (mc_sp 6 W2).1) := by
  obtain ⟨a1, a2, a3, a4, a5, a6, a7, a8⟩ := h
  have hx := tk_nx_ok (T := T) a1.1
  have hs := a1.1.2.2 h1
  have eq := mc_sp_eq 0 W
  have ln := mc_sp_len 0 W
  obtain ⟨n1, n2⟩ := mc_sp_nf 0 W (a7 rfl)
  rcases mc_sp0 W with ⟨q1, q2⟩ | ⟨W2, q1, q2⟩
  · omega
  refine ⟨W2, q1, ?_⟩
  have hw2 : mc_wf (-11 :: W2) := by rw [← q1]; exact mc_sp_wf 0 W a6
  have hr2 : mc_rng W2 := fun x hx => a5 x (mc_sp_2 0 W x (by rw [q1]; exact List.mem_cons_of_mem _ hx))
  have eq2 := mc_sp_eq 6 W2
  have ln2 := mc_sp_len 6 W2
  have hN := mc_sp6_N hr2
  rw [q1, List.length_cons] at ln
  refine ⟨tk_nx_gd hT a1.1, ?_, by omega, ?_, fun x hxm => hr2 x (mc_sp_2 6 W2 x hxm), mc_sp_wf 6 W2 hw2.2, fun _ => mc_sp6_nf W2 hw2.2, ?_⟩
  · rw [List.length_append, List.length_append]
    omega
  · have e := mc_opn_app (mc_sp 6 W2).1 (mc_sp 6 W2).2
    rw [eq2, mc_opn_0 _ (fun x hx => (mc_sp_1 6 W2 x hx).1)] at e
    omega
  · have e := mc_bn_app (mc_sp 0 W).1 (mc_sp 0 W).2
    rw [eq, q1] at e
    have e11 : mc_bn (-11 :: W2) = mc_bn W2 := by
      show (if (-11 : Int32) = -10 ∨ (-11 : Int32) = -11 then 0 else 1) + mc_bn W2 = mc_bn W2
      rw [if_pos (Or.inr rfl), Nat.zero_add]
    rw [e11] at e
    have e2 := mc_bn_app (mc_sp 6 W2).1 (mc_sp 6 W2).2
    rw [eq2, mc_bn_N _ hN, Nat.zero_add] at e2
    rw [if_neg (by decide), e] at a8
    rw [if_neg (by decide), ← e2]
    refine pu_okd_app (pu_okd_QN _ _ (by omega) hN) _ 0 ?_
    rw [show mc_bn W2 + 1 = 1 + mc_bn W2 by omega]
    refine pu_okd_app (pu_okd_Q (mc_sp 0 W).1 (mc_bn W2) (fun x hx => ⟨mc_rng_neg a5 (mc_sp_1 0 W x hx).2.2, (mc_sp_1 0 W x hx).1⟩)) C 0 ?_
    rw [show mc_bn (mc_sp 0 W).1 + 1 + mc_bn W2 = mc_bn (mc_sp 0 W).1 + mc_bn W2 + 1 by omega]
    exact a8
theorem mi_end {T : Nat → Nat} {n nn : Nat} {c : Int32 × Nat × Nat} {W C : List Int32} (h : mi_I T n nn false c 0 W C) : pu_okc nn (C ++ (mc_sp 0 W).1) 0 ∧ (mc_sp 0 W).2 = [] := by
  obtain ⟨a1, a2, a3, a4, a5, a6, a7, a8⟩ := h
  have eq := mc_sp_eq 0 W
  rcases mc_sp0 W with ⟨q1, q2⟩ | ⟨W2, q1, q2⟩
  · refine ⟨pu_okd_okc _ 0 ?_, q1⟩
    rw [q1, List.append_nil] at eq
    rw [if_neg (by decide)] at a8
    have k := pu_okd_Q (nn := nn) (mc_sp 0 W).1 0 (fun x hx => ⟨mc_rng_neg a5 (mc_sp_1 0 W x hx).2.2, (mc_sp_1 0 W x hx).1⟩)
    rw [Nat.add_zero, Nat.add_zero, eq] at k
    rw [eq]
    exact pu_okd_app k C 0 a8
  · omega
