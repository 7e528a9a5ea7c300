/-! ===== pieces ===== -/
def sp_P (T : Nat → Nat) (n key : Nat) (G : Int32 → Int32 → ovSt → (Int32 → ovSt → Prop) → Prop) (p q : Nat) : Prop :=
  ∀ (σ : ovSt) (c : Int32 × Nat × Nat) (W C : List Int32) (t : Nat → Bool) (k : Int32 → ovSt → Prop), tk_S σ T n key c C → tk_gd T n c → C.length + W.length ≤ c.2.1 → mc_nt W = q →
    (∀ σ' c' C' t', tk_fr σ σ' → tk_S σ' T n key c' C' → mc_to T n key c p true W C t c' p false (mc_sp 6 W).2 (C' ++ (mc_sp 6 W).1) t' → tk_gd T n c' → c.2.2 ≤ c'.2.1 → (∀ i, i ≤ p → t' i = t i) → C'.length + W.length ≤ c'.2.1 → k 1 σ') →
    (∀ σ' c', tk_fr σ σ' → tk_F σ' c' → mc_fl T n key c p true W C t c' → k 0 σ') → G (nI p) (nI q) σ k
theorem mc_sp_len (r : Nat) : ∀ (W : List Int32), (mc_sp r W).1.length + (mc_sp r W).2.length = W.length
  | [] => rfl
  | m :: W => by
    unfold mc_sp
    by_cases z : m = -11
    · rw [if_pos z]; exact Nat.zero_add _
    rw [if_neg z]
    by_cases y : mc_rk m < r
    · rw [if_pos y]; exact Nat.zero_add _
    · rw [if_neg y]
      have ih := mc_sp_len r W
      show ((mc_sp r W).1.length + 1) + (mc_sp r W).2.length = W.length + 1
      omega
theorem sp_P6 {T : Nat → Nat} {n key : Nat} {G : Int32 → Int32 → ovSt → (Int32 → ovSt → Prop) → Prop} {p q : Nat} (h : sp_P T n key G p q) : sp_L T n key 6 G p q := by
  intro σ c W C t k hS hg hlo hlen hq ht good bad
  refine h σ c W C t k hS hg hlen hq (fun σ' c' C' t' hf S' to gd mon tt len => ?_) bad
  unfold mc_lo at hlo
  rw [hlo] at to
  have to : mc_to T n key c p true W C t c' p false W (C' ++ []) t' := to
  rw [List.append_nil] at to
  refine good σ' c' [] C' t' hf (by rw [List.append_nil]; exact S') ⟨to, gd, mon, fun m hm => absurd hm (by simp), ?_, fun i hi => tt i (by omega), fun _ => tt p (Nat.le_refl _), len⟩
  by_cases z : mc_sg c'.1 = 0
  · exact Or.inl z
  · exact Or.inr (Or.inl (by have := (mc_sg_bin z).2.2.2.2.1; omega))
theorem sp_L1 {T : Nat → Nat} {n key M p q : Nat} (h : sp_P T n key (FR M 5) p q) : sp_L T n key 1 (FR (M + 5) 0) p q :=
  p4_readOr (p4_readAnd (p4_readTest (p4_readSum (p4_readTerm (sp_P6 h)))))
/-- a frame's end that is none -/
theorem mc_end {T : Nat → Nat} {n key : Nat} {c : Int32 × Nat × Nat} {p : Nat} {W C : List Int32} {t : Nat → Bool} (hs : mc_sg c.1 = 0 ∨ mc_rk (mc_sg c.1) < 1 ∨ (mc_rk (mc_sg c.1) = 3 ∧ t p = true)) (h41 : ¬ (c.1 = 41 ∧ 0 < p)) (he : c.1 = -1 → ¬ p = 0) : mc_fl T n key c p false W C t c := by
  refine ⟨1, fun f => ?_⟩
  rw [mc_runF]
  by_cases z : c.1 = -1
  · rw [if_pos z, decide_eq_false (he z)]
    exact ⟨_, rfl⟩
  rw [if_neg z, if_neg h41]
  by_cases y : mc_sg c.1 = 0
  · rw [if_pos y]; exact ⟨_, rfl⟩
  rw [if_neg y]
  have hb := (mc_sg_bin y).2.2.2.1
  rcases hs with w | w | w
  · exact absurd w y
  · omega
  · rw [if_pos w]; exact ⟨_, rfl⟩
theorem tk_lf_none {T : Nat → Nat} {key : Nat} {c : Int32 × Nat × Nat} (h3 : ¬ c.1 = -3) (h2 : ¬ c.1 = -2) : tk_lf T key c = -1 := by
  unfold tk_lf
  rw [if_neg h3, if_neg (fun q => h2 q.1)]
theorem mc_nolf {T : Nat → Nat} {n key : Nat} {c : Int32 × Nat × Nat} {p : Nat} {W C : List Int32} {t : Nat → Bool} (h33 : ¬ (c.1 = 33 ∧ mc_nt W < 8)) (h40 : ¬ (c.1 = 40 ∧ p < 8)) (hl : tk_lf T key c < 0) : mc_fl T n key c p true W C t c := by
  refine ⟨1, fun f => ?_⟩
  rw [mc_runT, if_neg h33, if_neg h40, if_pos hl]
  exact ⟨_, rfl⟩
theorem tk_nm_in (key b : Nat) (hk : key < 3) : tk_nm key b = -1 ∨ ∃ i, i < 3 ∧ tk_nm key b = nI i ∧ (¬ key = 0 → i < 2) := by
  unfold tk_nm tk_ns
  rcases (show key = 0 ∨ key = 1 ∨ key = 2 by omega) with q | q | q
  · subst q
    rw [if_pos rfl]
    unfold tk_ix tk_ix tk_ix tk_ix
    by_cases a : 97 = b
    · rw [if_pos a]; exact Or.inr ⟨0, by omega, rfl, fun q => absurd rfl q⟩
    rw [if_neg a]
    by_cases a2 : 103 = b
    · rw [if_pos a2]; exact Or.inr ⟨1, by omega, rfl, fun q => absurd rfl q⟩
    rw [if_neg a2]
    by_cases a3 : 116 = b
    · rw [if_pos a3]; exact Or.inr ⟨2, by omega, rfl, fun q => absurd rfl q⟩
    rw [if_neg a3]
    exact Or.inl rfl
  · subst q
    rw [if_neg (by decide), if_pos rfl]
    unfold tk_ix tk_ix tk_ix
    by_cases a : 116 = b
    · rw [if_pos a]; exact Or.inr ⟨0, by omega, rfl, fun _ => by omega⟩
    rw [if_neg a]
    by_cases a2 : 119 = b
    · rw [if_pos a2]; exact Or.inr ⟨1, by omega, rfl, fun _ => by omega⟩
    rw [if_neg a2]
    exact Or.inl rfl
  · subst q
    rw [if_neg (by decide), if_neg (by decide)]
    unfold tk_ix tk_ix tk_ix
    by_cases a : 100 = b
    · rw [if_pos a]; exact Or.inr ⟨0, by omega, rfl, fun _ => by omega⟩
    rw [if_neg a]
    by_cases a2 : 116 = b
    · rw [if_pos a2]; exact Or.inr ⟨1, by omega, rfl, fun _ => by omega⟩
    rw [if_neg a2]
    exact Or.inl rfl
theorem tk_crel_nm : ∀ i : Nat, i < 3 → pu_crel ((-1) - nI i) (10000 + nI i) ∧ ¬ (10000 + nI i : Int32) < 0 := by
  intro i hi
  rcases (show i = 0 ∨ i = 1 ∨ i = 2 by omega) with q | q | q <;> (subst q; unfold pu_crel; decide)
theorem p4_readPiece {T : Nat → Nat} {n key : Nat} (hkey : key < 3) : ∀ (N p q : Nat), p ≤ 8 → q ≤ 8 → 1 + 7 * (8 - p) + 2 * (8 - q) ≤ N → sp_P T n key (FR N 5) p q := by
  intro N
  induction N using Nat.strongRecOn with
  | ind N IH =>
    intro p q hp hq8 hN σ c W C t k hS hg hlen hq good bad
    have hT := hS.hT
    have hn := hS.1.1
    obtain ⟨o1, o2, o3⟩ := hg.1
    have hx := tk_nx_ok (T := T) hg.1
    have hxg := tk_nx_gd hT hg.1
    have F0 : tk_F σ c := ⟨hS.2.1.2.1, C.length, by omega, hS.2.2.2.1⟩
    have fail : ∀ (h33 : ¬ (c.1 = 33 ∧ mc_nt W < 8)) (h40 : ¬ (c.1 = 40 ∧ p < 8)) (hl : tk_lf T key c < 0), k 0 σ := fun a b d => bad σ c (pu_ag.rf _ σ) F0 (mc_nolf a b d)
    obtain ⟨M, rfl⟩ : ∃ M, N = M + 1 := ⟨N - 1, by omega⟩
    show F_X4_readPiece (FR M 6) (FR M 7) (nI p) (nI q) σ k
    unfold F_X4_readPiece
    rw [hS.2.1.1]
    have lf : ∀ (h33 : ¬ c.1 = 33) (h40 : ¬ c.1 = 40) (x m : Int32) (K : Int32 → ovSt → Prop), tk_lf T key c = m → ¬ m < 0 → pu_crel x m → ¬ c.1 = -1 → (∀ σ', k 1 σ' → K 1 σ') → F_X4_readLeaf x σ K := by
      intro h33 h40 x m K hm hm0 hxm h1 hK
      have hs := o3 h1
      refine p4_leaf hm0 hxm (by omega) hg.1 hS (fun σ' hf S' => hK σ' ?_)
      refine good σ' (tk_nx T n c) (C ++ [m]) t hf S' ⟨1, fun f => ?_⟩ hxg hx.2 (fun i _ => rfl) ?_
      · rw [mc_runT, if_neg (fun z => h33 z.1), if_neg (fun z => h40 z.1), hm, if_neg hm0, List.append_assoc]
        rfl
      · rw [List.length_append]
        have e : [m].length = 1 := rfl
        omega
    by_cases z3 : c.1 = -3
    · rw [if_pos z3]
      refine p4_numberAhead hS.1 hS.2.1 hg z3 ?_
      have hv : tk_val T c.2.1 (c.2.2 - c.2.1) < 10000 := by
        obtain ⟨d1, d2⟩ := hg.2.2.1 z3
        have h1 := tk_val_lt (T := T) (s := c.2.1) (c.2.2 - c.2.1) (fun i hi => d2 (c.2.1 + i) (by omega) (by omega))
        have h2 : 10 ^ (c.2.2 - c.2.1) ≤ 10 ^ 4 := Nat.pow_le_pow_right (by decide) d1
        exact Nat.lt_of_lt_of_le h1 h2
      exact lf (by rw [z3]; decide) (by rw [z3]; decide) (nI (tk_val T c.2.1 (c.2.2 - c.2.1))) (nI (tk_val T c.2.1 (c.2.2 - c.2.1))) _ (by unfold tk_lf; rw [if_pos z3]) (nI_pos (by omega)) (Or.inl ⟨by rw [nI_toInt (by omega)]; omega, by rw [nI_toInt (by omega)]; omega, rfl⟩) (by rw [z3]; decide) (fun σ' hk => ⟨pu_bl1, hk⟩)
    rw [if_neg z3]
    by_cases z2 : c.1 = -2
    · rw [if_pos z2]
      have nah : ∀ K : Int32 → ovSt → Prop, K (if c.2.2 - c.2.1 = 1 then tk_nm key (T c.2.1) else -1) σ → F_X4_nameAhead σ K := fun K hK => p4_nameAhead hkey hS.1 hS.2.1 hg z2 hS.2.2.1 hK
      refine nah _ ?_
      have none' : (tk_lf T key c = -1) → F_X4_readPiece_81 (FR M 6) (FR M 7) k σ := by
        intro hl
        unfold F_X4_readPiece_81 F_X4_readPiece_82
        exact ⟨pu_bl0, fail (by rw [z2]; exact fun q => absurd q.1 (by decide)) (by rw [z2]; exact fun q => absurd q.1 (by decide)) (by rw [hl]; decide)⟩
      by_cases y1 : c.2.2 - c.2.1 = 1
      · rw [if_pos y1]
        rcases tk_nm_in key (T c.2.1) hkey with w | ⟨i, hi, w, -⟩
        · rw [w, if_pos (by decide)]
          exact none' (by unfold tk_lf; rw [if_neg z3, w, if_neg (fun q => absurd q.2.2 (by decide))])
        · rw [w, if_neg (nI_pos (by omega))]
          refine nah _ ?_
          rw [if_pos y1, w]
          have hc := tk_crel_nm i hi
          refine lf (by rw [z2]; decide) (by rw [z2]; decide) ((-1) - nI i) (10000 + nI i) _ (by unfold tk_lf; rw [if_neg z3, w, if_pos ⟨z2, y1, nI_pos' (by omega)⟩]) hc.2 hc.1 (by rw [z2]; decide) (fun σ' hk => ?_)
          show (if (1 : Int32) = 0 then _ else _)
          rw [if_neg (by decide)]
          exact ⟨pu_bl1, hk⟩
      · rw [if_neg y1, if_pos (by decide)]
        exact none' (by unfold tk_lf; rw [if_neg z3, if_neg (fun q => y1 q.2.1)])
    rw [if_neg z2]
    have nolf := tk_lf_none (T := T) (key := key) z3 z2
    by_cases z33 : c.1 = 33
    · rw [if_pos z33]
      have hs := o3 (by rw [z33]; decide)
      unfold F_X4_readPiece_104 F_X4_readPiece_105
      by_cases y8 : 8 ≤ q
      · rw [if_pos (show (8 : Int32) ≤ nI q from nI_le (a := 8) y8 (by omega))]
        exact ⟨pu_bl0, fail (fun w => by omega) (by rw [z33]; exact fun q => absurd q.1 (by decide)) (by rw [nolf]; decide)⟩
      rw [if_neg (by rw [show (8 : Int32) = nI 8 from rfl, nI_leI (by omega) (by omega)]; exact y8)]
      obtain ⟨M', rfl⟩ : ∃ M', M = M' + 1 := ⟨M - 1, by omega⟩
      rw [nI_1]
      show F_X4_readNot (FR M' 5) (nI p) (nI (q + 1)) σ _
      unfold F_X4_readNot
      refine p4_nextS hg.1 hS (fun σ1 f1 S1 => ?_)
      have ntW : mc_nt (-10 :: W) = q + 1 := by
        show (if (-10 : Int32) = -10 then 1 else 0) + mc_nt W = q + 1
        rw [if_pos rfl, hq, Nat.add_comm]
      have st : mc_to T n key c p true W C t (tk_nx T n c) p true (-10 :: W) C t := ⟨1, fun f => by rw [mc_runT, if_pos ⟨z33, by omega⟩]⟩
      have spN : mc_sp 6 (-10 :: W) = (-10 :: (mc_sp 6 W).1, (mc_sp 6 W).2) := by
        show (if (-10 : Int32) = -11 then _ else if mc_rk (-10) < 6 then _ else _) = _
        rw [if_neg (by decide), if_neg (by decide)]
      refine IH M' (by omega) p (q + 1) hp (by omega) (by omega) σ1 (tk_nx T n c) (-10 :: W) C t _ S1 hxg (by rw [List.length_cons]; omega) ntW (fun σ2 c2 C2 t2 f2 S2 to2 gd2 mon2 tt2 len2 => ?_) (fun σ2 c2 f2 F2 fl2 => ?_)
      · rw [List.length_cons] at len2
        have ok2 := gd2.1
        refine p4_emitS (m := -10) (by decide) (by unfold pu_crel; decide) (by have := ok2.1; have := ok2.2.1; omega) S2 (fun σ3 f3 S3 => ⟨pu_bl1, ?_⟩)
        show (if (1 : Int32) = 0 then _ else _)
        rw [if_neg (by decide)]
        rw [spN] at to2
        refine ⟨pu_bl1, good σ3 c2 (C2 ++ [-10]) t2 ((f1.tr f2).tr f3) S3 ?_ gd2 (by have := hx.1.1; omega) tt2 ?_⟩
        · rw [List.append_assoc]
          exact st.tr to2
        · rw [List.length_append]
          have e : [(-10 : Int32)].length = 1 := rfl
          omega
      · refine p4_emitF F2 (fun σ3 f3 F3 => ⟨pu_bl0, ?_⟩)
        show (if (0 : Int32) = 0 then _ else _)
        rw [if_pos rfl]
        exact ⟨pu_bl0, bad σ3 c2 ((f1.tr f2).tr f3) F3 (st.fl fl2)⟩
    rw [if_neg z33]
    by_cases z40 : c.1 = 40
    · rw [if_pos z40]
      have hs := o3 (by rw [z40]; decide)
      unfold F_X4_readPiece_127 F_X4_readPiece_128
      by_cases y8 : 8 ≤ p
      · rw [if_pos (show (8 : Int32) ≤ nI p from nI_le (a := 8) y8 (by omega))]
        exact ⟨pu_bl0, fail (fun w => z33 w.1) (fun w => by omega) (by rw [nolf]; decide)⟩
      rw [if_neg (by rw [show (8 : Int32) = nI 8 from rfl, nI_leI (by omega) (by omega)]; exact y8)]
      obtain ⟨M', rfl⟩ : ∃ M', M = M' + 5 + 1 := ⟨M - 6, by omega⟩
      rw [nI_1]
      show F_X4_readInner (FR (M' + 5) 0) (nI (p + 1)) (nI q) σ _
      unfold F_X4_readInner F_X4_readInner_22
      refine p4_nextS hg.1 hS (fun σ1 f1 S1 => ?_)
      have ntW : mc_nt (-11 :: W) = q := by
        show (if (-11 : Int32) = -10 then 1 else 0) + mc_nt W = q
        rw [if_neg (by decide), hq, Nat.zero_add]
      have st : mc_to T n key c p true W C t (tk_nx T n c) (p + 1) true (-11 :: W) C (mc_ut t (p + 1) false) := ⟨1, fun f => by rw [mc_runT, if_neg (fun w => z33 w.1), if_pos ⟨z40, by omega⟩]⟩
      refine sp_L1 (IH M' (by omega) (p + 1) q (by omega) hq8 (by omega)) σ1 (tk_nx T n c) (-11 :: W) C (mc_ut t (p + 1) false) _ S1 hxg (mc_lo_open 1 W) (by rw [List.length_cons]; omega) ntW (fun _ => by unfold mc_ut; rw [if_pos rfl]) (fun σ2 c2 Q C2 t2 f2 S2 g2 => ?_) (fun σ2 c2 f2 F2 fl2 => ?_)
      · rw [if_neg (by decide), S2.2.1.1]
        obtain ⟨x1, x2, x3, x4, x5, x6, x7, x8⟩ := g2
        have x8' := x8
        rw [List.length_append, List.length_cons] at x8'
        by_cases y : c2.1 = 41
        · rw [if_pos y]
          refine p4_nextS x2.1 S2 (fun σ3 f3 S3 => ?_)
          show (if (1 : Int32) = 0 then _ else _)
          rw [if_neg (by decide)]
          have hx2 := tk_nx_ok (T := T) x2.1
          have e2 := x2.1.2.2 (by rw [y]; decide)
          refine ⟨pu_bl1, good σ3 (tk_nx T n c2) (C2 ++ Q) t2 ((f1.tr f2).tr f3) S3 ?_ (tk_nx_gd hT x2.1) (by have := hx.1.1; omega) (fun i hi => ?_) ?_⟩
          · refine (st.tr x1).tr ⟨1, fun f => ?_⟩
            rw [mc_runF, if_neg (by rw [y]; decide), if_pos ⟨y, by omega⟩, mc_sp_app (fun m hm => ⟨(x4 m hm).1, by omega⟩) (mc_lo_open 0 W)]
            rfl
          · rw [x6 i (by omega)]
            unfold mc_ut
            rw [if_neg (by omega)]
          · rw [List.length_append]
            omega
        · rw [if_neg y]
          show (if (0 : Int32) = 0 then _ else _)
          rw [if_pos rfl]
          have ok2 := x2.1
          refine ⟨pu_bl0, bad σ2 c2 (f1.tr f2) ⟨S2.2.1.2.1, (C2 ++ Q).length, ?_, S2.2.2.2.1⟩ ((st.tr x1).fl (mc_end x5 (fun w => y w.1) (fun _ => by omega)))⟩
          rw [List.length_append]
          have := ok2.1
          have := ok2.2.1
          omega
      · rw [if_pos rfl]
        show (if (0 : Int32) = 0 then _ else _)
        rw [if_pos rfl]
        exact ⟨pu_bl0, bad σ2 c2 (f1.tr f2) F2 (st.fl fl2)⟩
    rw [if_neg z40]
    exact fail (fun w => z33 w.1) (fun w => z40 w.1) (by rw [nolf]; decide)
/-- the whole text behind its key -/
theorem p4_readE {T : Nat → Nat} {n key : Nat} (hkey : key < 3) {σ : ovSt} {c : Int32 × Nat × Nat} {k : Int32 → ovSt → Prop} (hS : tk_S σ T n key c []) (hg : tk_gd T n c) (t : Nat → Bool) (ht : t 0 = false)
    (good : ∀ σ' c' C', tk_fr σ σ' → tk_S σ' T n key c' C' → (∃ j, ∀ f, mc_run T n key (f + j) c 0 true [] [] t = some (true, c', C')) → C'.length ≤ 96 → σ' 45 3 = -1 → k 1 σ')
    (bad : ∀ σ' c' v, tk_fr σ σ' → σ' 45 4 = nI c'.2.1 → mc_fl T n key c 0 true [] [] t c' → (v = 0 ∨ (v = 1 ∧ ¬ σ' 45 3 = -1)) → k v σ') : F_X4_readOr0 0 0 σ k := by
  have hn := hS.1.1
  have P := p4_readPiece (T := T) (n := n) hkey 95 0 0 (by omega) (by omega) (by omega)
  show FR (95 + 5) 0 (nI 0) (nI 0) σ k
  refine sp_L1 P σ c [] [] t k hS hg (mc_lo_nil 1) (Nat.zero_le _) rfl (fun _ => ht) (fun σ' c' Q C' t' hf S' g' => ?_) (fun σ' c' hf F' fl' => bad σ' c' 0 hf F'.1 fl' (Or.inl rfl))
  obtain ⟨x1, x2, x3, x4, x5, x6, x7, x8⟩ := g'
  rw [List.append_nil] at x8 x1
  by_cases z : c'.1 = -1
  · refine good σ' c' (C' ++ Q) hf S' ?_ ?_ (by rw [S'.2.1.1]; exact z)
    · obtain ⟨j, hj⟩ := x1
      refine ⟨1 + j, fun f => ?_⟩
      rw [← Nat.add_assoc, hj, mc_runF, if_pos z, decide_eq_true rfl]
      have e := mc_sp_app (r := 0) (Q := Q) (W := []) (fun m hm => ⟨(x4 m hm).1, by omega⟩) (mc_lo_nil 0)
      rw [List.append_nil] at e
      rw [e]
    · rw [List.length_append]
      have := x2.1.1
      have := x2.1.2.1
      omega
  · exact bad σ' c' 1 hf S'.2.1.2.1 (x1.fl (mc_end x5 (fun w => by omega) (fun w => absurd w z))) (Or.inr ⟨rfl, by rw [S'.2.1.1]; exact z⟩)
