/-! ===== the invariant at the start ===== -/
set_option maxRecDepth 100000 in
theorem io_75 : ovσ0 75 = upd (upd (upd (fun _ => 0) 0 1) 2 100) 3 20 := rfl
set_option maxRecDepth 100000 in
theorem io_76 : ovσ0 76 = fun _ => 0 := rfl
theorem io_75c {c : Nat} (h0 : c ≠ 0) (h2 : c ≠ 2) (h3 : c ≠ 3) : ovσ0 75 c = 0 := by
  rw [io_75, pu_un h3, pu_un h2, pu_un h0]
theorem io_WG : pu_WG (ovσ0 75) := by
  refine ⟨⟨0, by omega, io_75c (by omega) (by omega) (by omega)⟩, ⟨0, by omega, io_75c (by omega) (by omega) (by omega), fun t ht => absurd ht (by omega)⟩, ?_, ?_, fun t ht => ?_⟩
  · rw [io_75, pu_un (by omega), pu_ue]; exact ⟨by decide, by decide⟩
  · rw [io_75, pu_ue]; exact ⟨by decide, by decide⟩
  · rw [io_75c (by omega) (by omega) (by omega), io_75c (by omega) (by omega) (by omega), io_75c (by omega) (by omega) (by omega), io_75c (by omega) (by omega) (by omega)]
    exact ⟨⟨by decide, by decide⟩, ⟨by decide, by decide⟩, ⟨by decide, by decide⟩, ⟨by decide, by decide⟩⟩
theorem io_law (key : Int32) : pu_law (ovσ0 75) key = -1 := by
  unfold pu_law
  rw [io_75c (by omega) (by omega) (by omega)]
  rfl
set_option maxRecDepth 100000 in
theorem io_RS0 : ovσ0 21 12 = 1 ∧ ovσ0 21 6 = 0 ∧ ovσ0 21 7 = 100 ∧ ovσ0 21 8 = 20 ∧ ovσ0 21 9 = 0 ∧ ovσ0 21 10 = 0 ∧ ovσ0 21 11 = 0 ∧ ovσ0 21 13 = 0 := ⟨rfl, rfl, rfl, rfl, rfl, rfl, rfl, rfl⟩
set_option maxRecDepth 100000 in
theorem io_RS1 : ovσ0 22 = (fun _ => 0) ∧ ovσ0 23 = (fun _ => 0) ∧ ovσ0 24 = (fun _ => 0) ∧ ovσ0 25 = (fun _ => 0) := ⟨rfl, rfl, rfl, rfl⟩
set_option maxRecDepth 100000 in
theorem io_RS2 : ovσ0 26 0 = -1 ∧ ovσ0 26 1 = -1 ∧ ovσ0 26 2 = -1 := ⟨rfl, rfl, rfl⟩
theorem io_RS : pu_RS ovσ0 21 (ovσ0 75) := by
  obtain ⟨y0, y1, y2, y3, y4, y5, y6, y7⟩ := io_RS0
  obtain ⟨z0, z1, z2, z3⟩ := io_RS1
  refine ⟨⟨?_, ?_, ?_, ?_, ?_, ?_, ?_, ?_⟩, fun t ht => ?_, fun key hk => ?_⟩
  · rw [y0, io_75]; rfl
  · rw [y1, io_75]; rfl
  · rw [y2, io_75]; rfl
  · rw [y3, io_75]; rfl
  · rw [y4, io_75]; rfl
  · rw [y5, io_75]; rfl
  · rw [y6, io_75]; rfl
  · rw [y7, io_75]; rfl
  · rw [io_75c (by omega) (by omega) (by omega), io_75c (by omega) (by omega) (by omega), io_75c (by omega) (by omega) (by omega), io_75c (by omega) (by omega) (by omega)]
    exact ⟨congrFun z0 t, congrFun z1 t, congrFun z2 t, congrFun z3 t⟩
  · rw [io_law]
    rcases (show key = 0 ∨ key = 1 ∨ key = 2 by omega) with q | q | q
    · subst q; exact io_RS2.1
    · subst q; exact io_RS2.2.1
    · subst q; exact io_RS2.2.2
set_option maxRecDepth 100000 in
theorem io_sm : ovσ0 0 10 = 0 ∧ ovσ0 74 3 = 0 ∧ ovσ0 45 2 = 0 ∧ ovσ0 74 8 = 0 ∧ ovσ0 0 9 = 0 ∧ ovσ0 74 34 = 0 := ⟨rfl, rfl, rfl, rfl, rfl, rfl⟩
set_option maxRecDepth 100000 in
theorem io_IS0 : ∀ s, s < 4 → ovσ0 (51 + 2 * s) 1 = -1 ∧ ovσ0 (51 + 2 * s) 2 = 0 ∧ ovσ0 89 s = -1 ∧ ovσ0 90 s = 0 ∧ ovσ0 (51 + 2 * s + 1) = (fun _ => 0) := by
  intro s hs
  rcases (show s = 0 ∨ s = 1 ∨ s = 2 ∨ s = 3 by omega) with q | q | q | q
  · subst q; exact ⟨rfl, rfl, rfl, rfl, rfl⟩
  · subst q; exact ⟨rfl, rfl, rfl, rfl, rfl⟩
  · subst q; exact ⟨rfl, rfl, rfl, rfl, rfl⟩
  · subst q; exact ⟨rfl, rfl, rfl, rfl, rfl⟩
set_option maxRecDepth 100000 in
theorem io_91 : ovσ0 91 = fun _ => 0 := rfl
set_option maxRecDepth 100000 in
theorem io_IH0 : ∀ s, s < 5 → ovσ0 (59 + 3 * s) 1 = 0 ∧ ovσ0 92 s = 0 := by
  intro s hs
  rcases (show s = 0 ∨ s = 1 ∨ s = 2 ∨ s = 3 ∨ s = 4 by omega) with q | q | q | q | q
  · subst q; exact ⟨rfl, rfl⟩
  · subst q; exact ⟨rfl, rfl⟩
  · subst q; exact ⟨rfl, rfl⟩
  · subst q; exact ⟨rfl, rfl⟩
  · subst q; exact ⟨rfl, rfl⟩
set_option maxRecDepth 100000 in
theorem io_IK : pu_IK ovσ0 := by
  refine ⟨⟨rfl, rfl, rfl, rfl⟩, fun i hi => ?_⟩
  rcases (show i = 0 ∨ i = 1 ∨ i = 2 ∨ i = 3 ∨ i = 4 ∨ i = 5 ∨ i = 6 ∨ i = 7 ∨ i = 8 ∨ i = 9 ∨ i = 10 by omega) with q | q | q | q | q | q | q | q | q | q | q <;> (subst q; rfl)
theorem ov_pure0 : ovInv ovσ0 := by
  obtain ⟨s1, s2, s3, s4, s5, s6⟩ := io_sm
  refine ⟨⟨io_WG, io_RS, fun t ht => ?_, ?_⟩, ⟨fun c hc => ?_, by rw [s1, s2], fun z => absurd s1 z⟩, ⟨by rw [s3, s4], 0, by omega, s4, fun i hi => absurd hi (by omega)⟩, ⟨by rw [s5, s6], 0, by omega, s6, fun i hi => absurd hi (by omega)⟩, fun s hs => ?_, fun s hs => ?_, io_IK⟩
  · rw [io_75c (by omega) (by omega) (by omega)] at ht
    exact absurd ht (by decide +revert)
  · rw [io_75c (by omega) (by omega) (by omega)]; exact ⟨by decide, by decide⟩
  · exact ⟨io_75c (by omega) (by omega) (by omega), by rw [io_76]⟩
  · obtain ⟨z1, z2, z3, z4, z5⟩ := io_IS0 s hs
    unfold pu_IS1
    rw [z1, z2, z3, z4, z5, io_91]
    exact ⟨rfl, rfl, ⟨by decide, by decide⟩, ⟨0, by omega, rfl⟩, fun i hi => ⟨rfl, Or.inr (show pu_in (0 : Int32) (-99999) 99999 from ⟨by decide, by decide⟩)⟩⟩
  · obtain ⟨z1, z2⟩ := io_IH0 s hs
    unfold pu_IH1
    rw [z1, z2]
    exact ⟨rfl, ⟨by decide, by decide⟩, fun z => absurd z (by decide), fun z => absurd z (by decide), fun z => absurd z (by decide)⟩
