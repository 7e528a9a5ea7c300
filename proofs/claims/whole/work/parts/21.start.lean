/-! ===== the start: what the Statement gives; both objects are made; the loop ===== -/
def ovσ0 : ovSt := ov_mk_X6_init (ov_row (ov_mk_X5_init (ov_row (fun _ _ => 0) 0 (fun _ => 0))) 74 (fun _ => 0))
theorem ov_tb {k n : Nat} {T : List Cond} (hT : ∀ w ∈ T, w ∈ tables_1) {w : Cond} (i : Nat) (h : T[i]? = some w) : w ∈ lw_tbl := List.mem_append_right _ (hT w (List.mem_of_getElem? h))
set_option maxRecDepth 100000 in
set_option maxHeartbeats 4000000 in
theorem ov_start_K {s : State} {b : Nat} (hts : ∀ w ∈ lw_tbl, w.before #[Value.ref b] s = true) (hgv : (Jvm.Cond.and given_1 narrow_1).before #[Value.ref b] s = true) : ∃ ad : Nat → Nat, ad 7000 = b ∧ ov_Kst ad (fun q => s.heap.size ≤ q) s s.heap := by
  have hs := flat_of_before _ hgv
  have hA : ∀ a : Nat, a < s.heap.size → ¬ (fun q : Nat => s.heap.size ≤ q) a := fun a h => Nat.not_le.mpr h
  have he : ∀ j : Nat, j < 6 → (Term.elem (.static "OldPot" "ABOVE" "[I") (.int (Int32.ofNat j))).eval #[Value.ref b] s none [] s = some (.int (ov_abv j)) := by
    intro j hj
    match j, hj with
    | 0, _ => exact va_eqt (hs (.eq (.elem (.static "OldPot" "ABOVE" "[I") (.int (Int32.ofNat 0))) (.int (ov_abv 0))) (by decide +kernel))
    | 1, _ => exact va_eqt (hs (.eq (.elem (.static "OldPot" "ABOVE" "[I") (.int (Int32.ofNat 1))) (.int (ov_abv 1))) (by decide +kernel))
    | 2, _ => exact va_eqt (hs (.eq (.elem (.static "OldPot" "ABOVE" "[I") (.int (Int32.ofNat 2))) (.int (ov_abv 2))) (by decide +kernel))
    | 3, _ => exact va_eqt (hs (.eq (.elem (.static "OldPot" "ABOVE" "[I") (.int (Int32.ofNat 3))) (.int (ov_abv 3))) (by decide +kernel))
    | 4, _ => exact va_eqt (hs (.eq (.elem (.static "OldPot" "ABOVE" "[I") (.int (Int32.ofNat 4))) (.int (ov_abv 4))) (by decide +kernel))
    | 5, _ => exact va_eqt (hs (.eq (.elem (.static "OldPot" "ABOVE" "[I") (.int (Int32.ofNat 5))) (.int (ov_abv 5))) (by decide +kernel))
  obtain ⟨t0, ht0, hT0⟩ := va_Tof (tm := .static "OldPot" "ABOVE" "[I") (ty := .int) (N := 6) (f := fun j => .int (ov_abv j)) (A := fun q : Nat => s.heap.size ≤ q) (by decide) (hs (.arrayOf (.static "OldPot" "ABOVE" "[I") .int) (by decide +kernel)) (va_eqt (hs (.eq (.length (.static "OldPot" "ABOVE" "[I")) (.int (Int32.ofNat 6))) (by decide +kernel))) he hA
  have hZ0 := va_Zref (C := "OldPot") (n := "ABOVE") (d := "[I") (A := fun q : Nat => s.heap.size ≤ q) (hts _ (ov_tb (k := 0) (n := 0) gW_t2 95 (by decide +kernel))) (hts (.initialized "OldPot") (gW_sub _ qn_X5)) ht0 hA
  have hZ1 := va_Zof (C := "java/lang/String") (n := "COMPACT_STRINGS") (d := "Z") (A := fun q : Nat => s.heap.size ≤ q) (hts _ (ov_tb (k := 0) (n := 0) gW_t3 60 (by decide +kernel))) (hts (.initialized "java/lang/String") (gW_sub _ qn_J0)) (va_eqt (hs (.eq (.static "java/lang/String" "COMPACT_STRINGS" "Z") (.int 1)) (by decide +kernel))) hA
  have hZ2 := va_Zqof (C := "jdk/internal/util/Preconditions") (n := "SIOOBE_FORMATTER") (d := "Ljava/util/function/BiFunction;") (A := fun q : Nat => s.heap.size ≤ q) (hts _ (ov_tb (k := 0) (n := 0) gW_t3 76 (by decide +kernel))) (hts (.initialized "jdk/internal/util/Preconditions") (gW_sub _ qn_J3)) (hs (.isRef (.static "jdk/internal/util/Preconditions" "SIOOBE_FORMATTER" "Ljava/util/function/BiFunction;")) (by decide +kernel)) hA
  have hlt : ∀ i j : Nat, i < 6 → j < 6 → i < j → (Cond.not (Cond.eq (.string "OldPot$Tape" (67 + 2 * i)) (.string "OldPot$Tape" (67 + 2 * j)))).before #[Value.ref b] s = true := by
    intro i j hi hj hij
    match i, j, hi, hj, hij with
    | 0, 1, _, _, _ => exact hs (.not (.eq (.string "OldPot$Tape" (67 + 2 * 0)) (.string "OldPot$Tape" (67 + 2 * 1)))) (by decide +kernel)
    | 0, 2, _, _, _ => exact hs (.not (.eq (.string "OldPot$Tape" (67 + 2 * 0)) (.string "OldPot$Tape" (67 + 2 * 2)))) (by decide +kernel)
    | 0, 3, _, _, _ => exact hs (.not (.eq (.string "OldPot$Tape" (67 + 2 * 0)) (.string "OldPot$Tape" (67 + 2 * 3)))) (by decide +kernel)
    | 0, 4, _, _, _ => exact hs (.not (.eq (.string "OldPot$Tape" (67 + 2 * 0)) (.string "OldPot$Tape" (67 + 2 * 4)))) (by decide +kernel)
    | 0, 5, _, _, _ => exact hs (.not (.eq (.string "OldPot$Tape" (67 + 2 * 0)) (.string "OldPot$Tape" (67 + 2 * 5)))) (by decide +kernel)
    | 1, 2, _, _, _ => exact hs (.not (.eq (.string "OldPot$Tape" (67 + 2 * 1)) (.string "OldPot$Tape" (67 + 2 * 2)))) (by decide +kernel)
    | 1, 3, _, _, _ => exact hs (.not (.eq (.string "OldPot$Tape" (67 + 2 * 1)) (.string "OldPot$Tape" (67 + 2 * 3)))) (by decide +kernel)
    | 1, 4, _, _, _ => exact hs (.not (.eq (.string "OldPot$Tape" (67 + 2 * 1)) (.string "OldPot$Tape" (67 + 2 * 4)))) (by decide +kernel)
    | 1, 5, _, _, _ => exact hs (.not (.eq (.string "OldPot$Tape" (67 + 2 * 1)) (.string "OldPot$Tape" (67 + 2 * 5)))) (by decide +kernel)
    | 2, 3, _, _, _ => exact hs (.not (.eq (.string "OldPot$Tape" (67 + 2 * 2)) (.string "OldPot$Tape" (67 + 2 * 3)))) (by decide +kernel)
    | 2, 4, _, _, _ => exact hs (.not (.eq (.string "OldPot$Tape" (67 + 2 * 2)) (.string "OldPot$Tape" (67 + 2 * 4)))) (by decide +kernel)
    | 2, 5, _, _, _ => exact hs (.not (.eq (.string "OldPot$Tape" (67 + 2 * 2)) (.string "OldPot$Tape" (67 + 2 * 5)))) (by decide +kernel)
    | 3, 4, _, _, _ => exact hs (.not (.eq (.string "OldPot$Tape" (67 + 2 * 3)) (.string "OldPot$Tape" (67 + 2 * 4)))) (by decide +kernel)
    | 3, 5, _, _, _ => exact hs (.not (.eq (.string "OldPot$Tape" (67 + 2 * 3)) (.string "OldPot$Tape" (67 + 2 * 5)))) (by decide +kernel)
    | 4, 5, _, _, _ => exact hs (.not (.eq (.string "OldPot$Tape" (67 + 2 * 4)) (.string "OldPot$Tape" (67 + 2 * 5)))) (by decide +kernel)
    | i + 5, j, _, hj, hij => exact absurd hij (by omega)
  have hex : ∀ i : Nat, i < 6 → (Cond.exactly (.string "OldPot$Tape" (67 + 2 * i)) "java/lang/String").before #[Value.ref b] s = true := by
    intro i hi
    match i, hi with
    | 0, _ => exact hs (.exactly (.string "OldPot$Tape" (67 + 2 * 0)) "java/lang/String") (by decide +kernel)
    | 1, _ => exact hs (.exactly (.string "OldPot$Tape" (67 + 2 * 1)) "java/lang/String") (by decide +kernel)
    | 2, _ => exact hs (.exactly (.string "OldPot$Tape" (67 + 2 * 2)) "java/lang/String") (by decide +kernel)
    | 3, _ => exact hs (.exactly (.string "OldPot$Tape" (67 + 2 * 3)) "java/lang/String") (by decide +kernel)
    | 4, _ => exact hs (.exactly (.string "OldPot$Tape" (67 + 2 * 4)) "java/lang/String") (by decide +kernel)
    | 5, _ => exact hs (.exactly (.string "OldPot$Tape" (67 + 2 * 5)) "java/lang/String") (by decide +kernel)
  have hco : ∀ i : Nat, i < 6 → (Cond.eq (.field (.string "OldPot$Tape" (67 + 2 * i)) "java/lang/String" "coder" "B") (.int 0)).before #[Value.ref b] s = true := by
    intro i hi
    match i, hi with
    | 0, _ => exact hs (.eq (.field (.string "OldPot$Tape" (67 + 2 * 0)) "java/lang/String" "coder" "B") (.int 0)) (by decide +kernel)
    | 1, _ => exact hs (.eq (.field (.string "OldPot$Tape" (67 + 2 * 1)) "java/lang/String" "coder" "B") (.int 0)) (by decide +kernel)
    | 2, _ => exact hs (.eq (.field (.string "OldPot$Tape" (67 + 2 * 2)) "java/lang/String" "coder" "B") (.int 0)) (by decide +kernel)
    | 3, _ => exact hs (.eq (.field (.string "OldPot$Tape" (67 + 2 * 3)) "java/lang/String" "coder" "B") (.int 0)) (by decide +kernel)
    | 4, _ => exact hs (.eq (.field (.string "OldPot$Tape" (67 + 2 * 4)) "java/lang/String" "coder" "B") (.int 0)) (by decide +kernel)
    | 5, _ => exact hs (.eq (.field (.string "OldPot$Tape" (67 + 2 * 5)) "java/lang/String" "coder" "B") (.int 0)) (by decide +kernel)
  have har : ∀ i : Nat, i < 6 → (Cond.arrayOf (.field (.string "OldPot$Tape" (67 + 2 * i)) "java/lang/String" "value" "[B") .byte).before #[Value.ref b] s = true := by
    intro i hi
    match i, hi with
    | 0, _ => exact hs (.arrayOf (.field (.string "OldPot$Tape" (67 + 2 * 0)) "java/lang/String" "value" "[B") .byte) (by decide +kernel)
    | 1, _ => exact hs (.arrayOf (.field (.string "OldPot$Tape" (67 + 2 * 1)) "java/lang/String" "value" "[B") .byte) (by decide +kernel)
    | 2, _ => exact hs (.arrayOf (.field (.string "OldPot$Tape" (67 + 2 * 2)) "java/lang/String" "value" "[B") .byte) (by decide +kernel)
    | 3, _ => exact hs (.arrayOf (.field (.string "OldPot$Tape" (67 + 2 * 3)) "java/lang/String" "value" "[B") .byte) (by decide +kernel)
    | 4, _ => exact hs (.arrayOf (.field (.string "OldPot$Tape" (67 + 2 * 4)) "java/lang/String" "value" "[B") .byte) (by decide +kernel)
    | 5, _ => exact hs (.arrayOf (.field (.string "OldPot$Tape" (67 + 2 * 5)) "java/lang/String" "value" "[B") .byte) (by decide +kernel)
  have hle : ∀ i : Nat, i < 6 → (Cond.eq (.length (.field (.string "OldPot$Tape" (67 + 2 * i)) "java/lang/String" "value" "[B")) (.int (Int32.ofNat (ov_len.getD i 0)))).before #[Value.ref b] s = true := by
    intro i hi
    match i, hi with
    | 0, _ => exact hs (.eq (.length (.field (.string "OldPot$Tape" (67 + 2 * 0)) "java/lang/String" "value" "[B")) (.int (Int32.ofNat (ov_len.getD 0 0)))) (by decide +kernel)
    | 1, _ => exact hs (.eq (.length (.field (.string "OldPot$Tape" (67 + 2 * 1)) "java/lang/String" "value" "[B")) (.int (Int32.ofNat (ov_len.getD 1 0)))) (by decide +kernel)
    | 2, _ => exact hs (.eq (.length (.field (.string "OldPot$Tape" (67 + 2 * 2)) "java/lang/String" "value" "[B")) (.int (Int32.ofNat (ov_len.getD 2 0)))) (by decide +kernel)
    | 3, _ => exact hs (.eq (.length (.field (.string "OldPot$Tape" (67 + 2 * 3)) "java/lang/String" "value" "[B")) (.int (Int32.ofNat (ov_len.getD 3 0)))) (by decide +kernel)
    | 4, _ => exact hs (.eq (.length (.field (.string "OldPot$Tape" (67 + 2 * 4)) "java/lang/String" "value" "[B")) (.int (Int32.ofNat (ov_len.getD 4 0)))) (by decide +kernel)
    | 5, _ => exact hs (.eq (.length (.field (.string "OldPot$Tape" (67 + 2 * 5)) "java/lang/String" "value" "[B")) (.int (Int32.ofNat (ov_len.getD 5 0)))) (by decide +kernel)
  have hel : ∀ i : Nat, i < 6 → ∀ j : Nat, j < ov_len.getD i 0 → (Cond.eq (.elem (.field (.string "OldPot$Tape" (67 + 2 * i)) "java/lang/String" "value" "[B") (.int (Int32.ofNat j))) (.int ((ov_byt.getD i []).getD j 0))).before #[Value.ref b] s = true := by
    intro i hi j hj
    match i, hi, j, hj with
    | 0, _, 0, _ => exact hs (.eq (.elem (.field (.string "OldPot$Tape" (67 + 2 * 0)) "java/lang/String" "value" "[B") (.int (Int32.ofNat 0))) (.int ((ov_byt.getD 0 []).getD 0 0))) (by decide +kernel)
    | 0, _, 1, _ => exact hs (.eq (.elem (.field (.string "OldPot$Tape" (67 + 2 * 0)) "java/lang/String" "value" "[B") (.int (Int32.ofNat 1))) (.int ((ov_byt.getD 0 []).getD 1 0))) (by decide +kernel)
    | 0, _, 2, _ => exact hs (.eq (.elem (.field (.string "OldPot$Tape" (67 + 2 * 0)) "java/lang/String" "value" "[B") (.int (Int32.ofNat 2))) (.int ((ov_byt.getD 0 []).getD 2 0))) (by decide +kernel)
    | 0, _, 3, _ => exact hs (.eq (.elem (.field (.string "OldPot$Tape" (67 + 2 * 0)) "java/lang/String" "value" "[B") (.int (Int32.ofNat 3))) (.int ((ov_byt.getD 0 []).getD 3 0))) (by decide +kernel)
    | 0, _, j + 4, hj => exact absurd hj (Nat.not_lt.mpr (Nat.le_add_left _ _))
    | 1, _, 0, _ => exact hs (.eq (.elem (.field (.string "OldPot$Tape" (67 + 2 * 1)) "java/lang/String" "value" "[B") (.int (Int32.ofNat 0))) (.int ((ov_byt.getD 1 []).getD 0 0))) (by decide +kernel)
    | 1, _, 1, _ => exact hs (.eq (.elem (.field (.string "OldPot$Tape" (67 + 2 * 1)) "java/lang/String" "value" "[B") (.int (Int32.ofNat 1))) (.int ((ov_byt.getD 1 []).getD 1 0))) (by decide +kernel)
    | 1, _, 2, _ => exact hs (.eq (.elem (.field (.string "OldPot$Tape" (67 + 2 * 1)) "java/lang/String" "value" "[B") (.int (Int32.ofNat 2))) (.int ((ov_byt.getD 1 []).getD 2 0))) (by decide +kernel)
    | 1, _, 3, _ => exact hs (.eq (.elem (.field (.string "OldPot$Tape" (67 + 2 * 1)) "java/lang/String" "value" "[B") (.int (Int32.ofNat 3))) (.int ((ov_byt.getD 1 []).getD 3 0))) (by decide +kernel)
    | 1, _, j + 4, hj => exact absurd hj (Nat.not_lt.mpr (Nat.le_add_left _ _))
    | 2, _, 0, _ => exact hs (.eq (.elem (.field (.string "OldPot$Tape" (67 + 2 * 2)) "java/lang/String" "value" "[B") (.int (Int32.ofNat 0))) (.int ((ov_byt.getD 2 []).getD 0 0))) (by decide +kernel)
    | 2, _, 1, _ => exact hs (.eq (.elem (.field (.string "OldPot$Tape" (67 + 2 * 2)) "java/lang/String" "value" "[B") (.int (Int32.ofNat 1))) (.int ((ov_byt.getD 2 []).getD 1 0))) (by decide +kernel)
    | 2, _, 2, _ => exact hs (.eq (.elem (.field (.string "OldPot$Tape" (67 + 2 * 2)) "java/lang/String" "value" "[B") (.int (Int32.ofNat 2))) (.int ((ov_byt.getD 2 []).getD 2 0))) (by decide +kernel)
    | 2, _, j + 3, hj => exact absurd hj (Nat.not_lt.mpr (Nat.le_add_left _ _))
    | 3, _, 0, _ => exact hs (.eq (.elem (.field (.string "OldPot$Tape" (67 + 2 * 3)) "java/lang/String" "value" "[B") (.int (Int32.ofNat 0))) (.int ((ov_byt.getD 3 []).getD 0 0))) (by decide +kernel)
    | 3, _, 1, _ => exact hs (.eq (.elem (.field (.string "OldPot$Tape" (67 + 2 * 3)) "java/lang/String" "value" "[B") (.int (Int32.ofNat 1))) (.int ((ov_byt.getD 3 []).getD 1 0))) (by decide +kernel)
    | 3, _, 2, _ => exact hs (.eq (.elem (.field (.string "OldPot$Tape" (67 + 2 * 3)) "java/lang/String" "value" "[B") (.int (Int32.ofNat 2))) (.int ((ov_byt.getD 3 []).getD 2 0))) (by decide +kernel)
    | 3, _, j + 3, hj => exact absurd hj (Nat.not_lt.mpr (Nat.le_add_left _ _))
    | 4, _, 0, _ => exact hs (.eq (.elem (.field (.string "OldPot$Tape" (67 + 2 * 4)) "java/lang/String" "value" "[B") (.int (Int32.ofNat 0))) (.int ((ov_byt.getD 4 []).getD 0 0))) (by decide +kernel)
    | 4, _, 1, _ => exact hs (.eq (.elem (.field (.string "OldPot$Tape" (67 + 2 * 4)) "java/lang/String" "value" "[B") (.int (Int32.ofNat 1))) (.int ((ov_byt.getD 4 []).getD 1 0))) (by decide +kernel)
    | 4, _, j + 2, hj => exact absurd hj (Nat.not_lt.mpr (Nat.le_add_left _ _))
    | 5, _, 0, _ => exact hs (.eq (.elem (.field (.string "OldPot$Tape" (67 + 2 * 5)) "java/lang/String" "value" "[B") (.int (Int32.ofNat 0))) (.int ((ov_byt.getD 5 []).getD 0 0))) (by decide +kernel)
    | 5, _, 1, _ => exact hs (.eq (.elem (.field (.string "OldPot$Tape" (67 + 2 * 5)) "java/lang/String" "value" "[B") (.int (Int32.ofNat 1))) (.int ((ov_byt.getD 5 []).getD 1 0))) (by decide +kernel)
    | 5, _, j + 2, hj => exact absurd hj (Nat.not_lt.mpr (Nat.le_add_left _ _))
  obtain ⟨adK, adV, hS6, hev⟩ := vk_Sof (tm := fun i => .string "OldPot$Tape" (67 + 2 * i)) (N := 6) (len := ov_len) (byt := ov_byt) (A := fun q : Nat => s.heap.size ≤ q) (fun i hi => by match i, hi with
    | 0, _ => decide
    | 1, _ => decide
    | 2, _ => decide
    | 3, _ => decide
    | 4, _ => decide
    | 5, _ => decide) hex hco har hle hel (fun i j hi hj hne => by
      rcases Nat.lt_or_gt_of_ne hne with q | q
      · exact Or.inl (hlt i j hi hj q)
      · exact Or.inr (hlt j i hj hi q)) hA
  have hR : ∀ i, i < 6 → vk_R "OldPot$Tape" (67 + 2 * i) (ov_txt i) (adK i) s := by
    intro i hi
    match i, hi with
    | 0, _ => exact vk_R.of (hts (.stringRef "OldPot$Tape" (67 + 2 * 0) (ov_txt 0)) (ov_tb (k := 0) (n := 0) gW_t3 44 (by decide +kernel))) (hev 0 (by decide))
    | 1, _ => exact vk_R.of (hts (.stringRef "OldPot$Tape" (67 + 2 * 1) (ov_txt 1)) (ov_tb (k := 0) (n := 0) gW_t3 45 (by decide +kernel))) (hev 1 (by decide))
    | 2, _ => exact vk_R.of (hts (.stringRef "OldPot$Tape" (67 + 2 * 2) (ov_txt 2)) (ov_tb (k := 0) (n := 0) gW_t3 46 (by decide +kernel))) (hev 2 (by decide))
    | 3, _ => exact vk_R.of (hts (.stringRef "OldPot$Tape" (67 + 2 * 3) (ov_txt 3)) (ov_tb (k := 0) (n := 0) gW_t3 142 (by decide +kernel))) (hev 3 (by decide))
    | 4, _ => exact vk_R.of (hts (.stringRef "OldPot$Tape" (67 + 2 * 4) (ov_txt 4)) (ov_tb (k := 0) (n := 0) gW_t3 143 (by decide +kernel))) (hev 4 (by decide))
    | 5, _ => exact vk_R.of (hts (.stringRef "OldPot$Tape" (67 + 2 * 5) (ov_txt 5)) (ov_tb (k := 0) (n := 0) gW_t3 144 (by decide +kernel))) (hev 5 (by decide))
  have hN : ∀ w ∈ ov_nest, va_Nw w s := by
    intro w hw
    simp only [ov_nest, List.mem_cons, List.not_mem_nil, or_false] at hw
    rcases hw with rfl | rfl | rfl | rfl | rfl | rfl | rfl
    · exact va_Nw.of rfl (hts _ (ov_tb (k := 0) (n := 0) gW_t1 25 (by decide +kernel)))
    · exact va_Nw.of rfl (hts _ (ov_tb (k := 0) (n := 0) gW_t1 114 (by decide +kernel)))
    · exact va_Nw.of rfl (hts _ (ov_tb (k := 0) (n := 0) gW_t1 159 (by decide +kernel)))
    · exact va_Nw.of rfl (hts _ (ov_tb (k := 0) (n := 0) gW_t1 177 (by decide +kernel)))
    · exact va_Nw.of rfl (hts _ (ov_tb (k := 0) (n := 0) gW_t1 182 (by decide +kernel)))
    · exact va_Nw.of rfl (hts _ (ov_tb (k := 0) (n := 0) gW_t2 54 (by decide +kernel)))
    · exact va_Nw.of rfl (hts _ (ov_tb (k := 0) (n := 0) gW_t2 86 (by decide +kernel)))
  have hAR : va_AO RX1 s := va_AO.of (hts _ (ov_tb (k := 0) (n := 0) gW_t1 155 (by decide +kernel)))
  have hAQ : va_AO RX2 s := va_AO.of (hts _ (ov_tb (k := 0) (n := 0) gW_t1 157 (by decide +kernel)))
  have hAI : ov_AOI s := show (Cond.arrayOver (.array .int)).before #[Value.ref b] s = true from hts (.arrayOver (.array .int)) (ov_tb (k := 0) (n := 0) gW_t1 30 (by decide +kernel))
  obtain ⟨g, hg⟩ : ∃ g : Nat, va_Z "jdk/internal/util/Preconditions" "SIOOBE_FORMATTER" "Ljava/util/function/BiFunction;" .null (fun q : Nat => s.heap.size ≤ q) s s.heap ∨ va_Z "jdk/internal/util/Preconditions" "SIOOBE_FORMATTER" "Ljava/util/function/BiFunction;" (.ref g) (fun q : Nat => s.heap.size ≤ q) s s.heap := by
    rcases hZ2 with z | ⟨t, z⟩
    · exact ⟨0, Or.inl z⟩
    · exact ⟨t, Or.inr z⟩
  refine ⟨fun i => if i = 7000 then b else if i = 7500 then g else if i = 5000 then t0 else if i < 6100 then adK (i - 6000) else adV (i - 6100), rfl, ⟨hZ0, hT0⟩, ⟨?_, ?_⟩, ⟨hZ1, hg⟩, hN, hAR, hAQ, hAI⟩
  · have e0 : ∀ i, i < 6 → (if 6000 + i = 7000 then b else if 6000 + i = 7500 then g else if 6000 + i = 5000 then t0 else if 6000 + i < 6100 then adK (6000 + i - 6000) else adV (6000 + i - 6100)) = adK i := fun i hi => by
      rw [if_neg (by omega), if_neg (by omega), if_neg (by omega), if_pos (by omega), Nat.add_sub_cancel_left]
    have e1 : ∀ i, i < 6 → (if 6100 + i = 7000 then b else if 6100 + i = 7500 then g else if 6100 + i = 5000 then t0 else if 6100 + i < 6100 then adK (6100 + i - 6000) else adV (6100 + i - 6100)) = adV i := fun i hi => by
      rw [if_neg (by omega), if_neg (by omega), if_neg (by omega), if_neg (by omega), Nat.add_sub_cancel_left]
    refine ⟨fun i hi => ?_, fun i j hi hj h => ?_⟩
    · have h9 := hS6.1 i hi
      dsimp only
      rw [e0 i hi, e1 i hi]
      exact h9
    · dsimp only at h
      rw [e0 i hi, e0 j hj] at h
      exact hS6.2 i j hi hj h
  · intro i hi
    have h9 := hR i hi
    have e0 : (if 6000 + i = 7000 then b else if 6000 + i = 7500 then g else if 6000 + i = 5000 then t0 else if 6000 + i < 6100 then adK (6000 + i - 6000) else adV (6000 + i - 6100)) = adK i := by
      rw [if_neg (by omega), if_neg (by omega), if_neg (by omega), if_pos (by omega), Nat.add_sub_cancel_left]
    dsimp only
    rw [e0]
    exact h9
set_option maxRecDepth 100000 in
set_option maxHeartbeats 4000000 in
theorem ov_start_D {s : State} {b : Nat} (hts : ∀ w ∈ lw_tbl, w.before #[Value.ref b] s = true) : ∃ (D : va_G) (cy : Nat → ClassId), va_K D vwCl (ov_ty cy) s := by
  obtain ⟨c0, iS0, hKn0⟩ := u_known (C := RX0) (T := TX0) (N := 5) (n := 5) hts (fun w h => gW_sub w (ov_g0 w h)) (hts (.instantiable RX0 5) (gW_sub _ qh_X0))
  obtain ⟨c1, iS1, hKn1⟩ := u_known (C := RX1) (T := TX1) (N := 3) (n := 3) hts (fun w h => gW_sub w (ov_g1 w h)) (hts (.instantiable RX1 3) (gW_sub _ qh_X1))
  obtain ⟨c2, iS2, hKn2⟩ := u_known (C := RX2) (T := TX2) (N := 5) (n := 5) hts (fun w h => gW_sub w (ov_g2 w h)) (hts (.instantiable RX2 5) (gW_sub _ qh_X2))
  obtain ⟨c3, iS3, hKn3⟩ := u_known (C := RX3) (T := TX3) (N := 14) (n := 14) hts (fun w h => gW_sub w (ov_g3 w h)) (hts (.instantiable RX3 14) (gW_sub _ qh_X3))
  obtain ⟨c4, iS4, hKn4⟩ := u_known (C := RX4) (T := TX4) (N := 9) (n := 9) hts (fun w h => gW_sub w (ov_g4 w h)) (hts (.instantiable RX4 9) (gW_sub _ qh_X4))
  obtain ⟨c5, iS5, hKn5⟩ := u_known (C := RX5) (T := TX5) (N := 11) (n := 11) hts (fun w h => gW_sub w (ov_g5 w h)) (hts (.instantiable RX5 11) (gW_sub _ qh_X5))
  obtain ⟨c6, iS6, hKn6⟩ := u_known (C := RX6) (T := TX6) (N := 35) (n := 35) hts (fun w h => gW_sub w (ov_g6 w h)) (hts (.instantiable RX6 35) (gW_sub _ qh_X6))
  obtain ⟨aB, kB, mB, pB, qB, rB⟩ := Cond.arrayClass_spec (hts (.arrayClass .byte) (gW_sub _ qa_byte))
  obtain ⟨aC, kC, mC, pC, qC, rC⟩ := Cond.arrayClass_spec (hts (.arrayClass .char) (gW_sub _ qa_char))
  obtain ⟨aI, kI, mI, pI, qI, rI⟩ := Cond.arrayClass_spec (hts (.arrayClass .int) (gW_sub _ qa_int))
  obtain ⟨aZ, kZ, mZ, pZ, qZ, rZ⟩ := Cond.arrayClass_spec (hts (.arrayClass .boolean) (gW_sub _ qa_boolean))
  obtain ⟨mR, aR, kR, pR, _, qR, rR, sR⟩ := Cond.arrayOver_spec (n := RX1) (hts _ (ov_tb (k := 0) (n := 0) gW_t1 155 (by decide +kernel)))
  obtain ⟨mQ, aQ, kQ, pQ, _, qQ, rQ, sQ⟩ := Cond.arrayOver_spec (n := RX2) (hts _ (ov_tb (k := 0) (n := 0) gW_t1 157 (by decide +kernel)))
  obtain ⟨mJ, aJ, kJ, pJ, _, qJ, rJ, sJ⟩ := arrayOverA_spec (t := .int) (hts _ (ov_tb (k := 0) (n := 0) gW_t1 30 (by decide +kernel)))
  refine ⟨(fun k => match k with | 0 => c0 | 1 => c1 | 2 => c2 | 3 => c3 | 4 => c4 | 5 => c5 | _ => c6, fun k => match k with | 0 => iS0 | 1 => iS1 | 2 => iS2 | 3 => iS3 | 4 => iS4 | 5 => iS5 | _ => iS6), fun k => match k with | 7 => aB | 8 => aC | 9 => aI | 10 => aZ | 11 => aR | 12 => aQ | _ => aJ, ?_, ?_⟩
  · intro k q hq
    match k, hq with
    | 0, hq => cases hq; exact hKn0
    | 1, hq => cases hq; exact hKn1
    | 2, hq => cases hq; exact hKn2
    | 3, hq => cases hq; exact hKn3
    | 4, hq => cases hq; exact hKn4
    | 5, hq => cases hq; exact hKn5
    | 6, hq => cases hq; exact hKn6
    | k + 7, hq => cases hq
  · intro k q hq
    match k, hq with
    | 0, hq => cases hq; exact ⟨fun N z => ⟨(fun q hq => by cases hq), kB, qB, mB, rB⟩, pB⟩
    | 1, hq => cases hq; exact ⟨fun N z => ⟨(fun q hq => by cases hq), kC, qC, mC, rC⟩, pC⟩
    | 2, hq => cases hq; exact ⟨fun N z => ⟨(fun q hq => by cases hq), kI, qI, mI, rI⟩, pI⟩
    | 3, hq => cases hq; exact ⟨fun N z => ⟨(fun q hq => by cases hq), kZ, qZ, mZ, rZ⟩, pZ⟩
    | 4, hq => cases hq; exact ⟨fun N z => ⟨(fun q hq => by cases hq), kR, qR, mR, rR⟩, kR, mR, qR, rR, pR, sR⟩
    | 5, hq => cases hq; exact ⟨fun N z => ⟨(fun q hq => by cases hq), kQ, qQ, mQ, rQ⟩, kQ, mQ, qQ, rQ, pQ, sQ⟩
    | 6, hq => cases hq; exact ⟨fun N z => ⟨(fun q hq => by cases hq), kJ, qJ, mJ, rJ⟩, sJ⟩
    | k + 7, hq => cases hq
set_option maxRecDepth 100000 in
set_option maxHeartbeats 4000000 in
theorem ov_start_V {Ln : Nat} {xs : Nat → Int32} {Inv : ovSt → Prop} (hL : Ln ≤ 384) (hB : law_B Inv) (h0 : Inv ovσ0) : ov_V (ovZL Ln xs) ovKL (0, 0) [] 0 [(0, .ref 7000)] [] (fun _ _ => 0) := by
  refine ov_new (i := 0) (n0 := 0) [some 9999, some 9999, some 9999, some 9999, some 9999, some 9999, some 9999, some 9999, some 9999, none, none] tyX5 (ovXL_mv Ln xs) dL_law_0 ⟨ql_L_7, qh_X5, qn_X5⟩ rfl tyX5_ok ov_dv5 rfl ⟨rfl, by decide, by decide⟩ rfl rfl rfl rfl (Nat.le_of_ble_eq_true rfl) (Nat.le_of_ble_eq_true rfl) [(5, 0, [some 9999, some 9999, some 9999, some 9999, some 9999, some 9999, some 9999, some 9999, some 9999, none, none])] rfl ?_
  refine ov_dup rfl dL_law_3 ?_
  refine ov_callI (n0 := 0) [] (ovXL_mv Ln xs) rfl (Nat.le_of_ble_eq_true rfl) dL_law_4 (c_X5_init (k := fun S' σ' => S' = ov_P74 ∧ σ' = ov_mk_X5_init (ov_row (fun _ _ => 0) 0 (fun _ => 0))) ⟨ov_fin5, rfl⟩) (Nat.le_of_ble_eq_true rfl) (Nat.le_of_ble_eq_true rfl) rfl ⟨qm_L_9, qi_X5_init, qn_X5, qk_X5_init⟩ (by decide +kernel) (Nat.le_of_ble_eq_true rfl) rfl rfl (Nat.le_of_ble_eq_true rfl) (Nat.le_of_ble_eq_true rfl) (fun S1 σ1 hk1 => ?_)
  obtain ⟨rfl, rfl⟩ := hk1
  refine ov_astore_n dL_law_7 (Nat.le_of_ble_eq_true rfl) [(1, .ref 0), (0, .ref 7000)] rfl ?_
  refine ov_new (i := 74) (n0 := 0) [some 9999, some 9999, some 9999, none, some 9999, some 9999, some 9999, some 9999, none, none, none, none, none, none, none, some 9999, some 9999, some 9999, none, none, some 9999, none, some 9999, some 9999, some 9999, some 9999, some 9999, some 9999, some 9999, some 9999, some 9999, some 9999, some 9999, some 9999, none] tyX6 (ovXL_mv Ln xs) dL_law_8 ⟨ql_L_10, qh_X6, qn_X6⟩ rfl tyX6_ok ov_dv6 rfl ⟨rfl, by decide, by decide⟩ rfl (by decide +kernel) rfl rfl (Nat.le_of_ble_eq_true rfl) (Nat.le_of_ble_eq_true rfl) (ov_P74 ++ [(6, 0, [some 9999, some 9999, some 9999, none, some 9999, some 9999, some 9999, some 9999, none, none, none, none, none, none, none, some 9999, some 9999, some 9999, none, none, some 9999, none, some 9999, some 9999, some 9999, some 9999, some 9999, some 9999, some 9999, some 9999, some 9999, some 9999, some 9999, some 9999, none])]) rfl ?_
  refine ov_dup rfl dL_law_11 ?_
  refine ov_callI (n0 := 0) [] (ovXL_mv Ln xs) rfl (Nat.le_of_ble_eq_true rfl) dL_law_12 (c_X6_init (k := fun S' σ' => S' = ov_S0 ∧ σ' = ovσ0) ⟨ov_fin6, rfl⟩) (Nat.le_of_ble_eq_true rfl) (Nat.le_of_ble_eq_true rfl) rfl ⟨qm_L_12, qi_X6_init, qn_X6, qk_X6_init⟩ (by decide +kernel) (Nat.le_of_ble_eq_true rfl) rfl rfl (Nat.le_of_ble_eq_true rfl) (Nat.le_of_ble_eq_true rfl) (fun S1 σ1 hk1 => ?_)
  obtain ⟨rfl, rfl⟩ := hk1
  refine ov_astore_n dL_law_15 (Nat.le_of_ble_eq_true rfl) [(2, .ref 74), (1, .ref 0), (0, .ref 7000)] rfl ?_
  refine ov_iconst 0 (by decide) dL_law_16 ?_
  refine ov_istore_n dL_law_17 (Nat.le_of_ble_eq_true rfl) [(3, .int 0), (2, .ref 74), (1, .ref 0), (0, .ref 7000)] rfl ?_
  exact law_loop hL hB 65 0 ovσ0 h0 (by decide) (by decide)
set_option maxRecDepth 100000 in
set_option maxHeartbeats 4000000 in
theorem ov_start_C {p : Program} {s : State} {m : MethodId} {meth : Method} {c : Code} {b L : Nat} {xs : Nat → Int32} (C0 : lw_At p s m meth c b L xs) : ov_C (ovZL L xs) p s m #[Value.ref b] meth c room_1 := by
  obtain ⟨hx, hb, hr, hml, hown, hts, hX, hbl, hlocks, hgv⟩ := C0
  refine ⟨hx, hb, hml, hown, fun w hw => hts w (gW_sub w hw), fun h => ?_, ?_, ?_, ?_, ?_⟩
  · exact absurd h (show ¬ ("law" : String) = "<init>" by decide)
  · show 120 ≤ 2048
    omega
  · show 40 * 120 ≤ 84000
    omega
  · exact Nat.le_refl _
  · exact Nat.le_refl _
set_option maxRecDepth 100000 in
set_option maxHeartbeats 4000000 in
theorem ov_start_R {p : Program} {l : Launch} {e : Env} {s : State} {m : MethodId} {below : List Frame} {meth : Method} {c : Code} {b L : Nat} {xs : Nat → Int32} (C0 : lw_At p s m meth c b L xs) (D : va_G) (cy : Nat → ClassId) (ad : Nat → Nat) : ov_Rt (ovZL L xs) ovKL D cy (fun q => s.heap.size ≤ q) ad p l e room_1 s m #[Value.ref b] below meth c (lw_Z below #[Value.ref b] s) := by
  obtain ⟨hx, hb, hr, hml, hown, hts, hX, hbl, hlocks, hgv⟩ := C0
  intro ad' H locs ls pc S σ r hag hW hk hd
  obtain rfl : r = some (.int 1) := hk
  refine va_forget (fun q hq => hW.2.2.2.2 q hq) ?_
  exact lw_ret hx hb hr hlocks hd
set_option maxRecDepth 100000 in
set_option maxHeartbeats 4000000 in
theorem whole_open {Inv : ovSt → Prop} (hB : law_B Inv) (h0 : Inv ovσ0) {p : Program} {e : Env} {s : State} {m : MethodId} {below : List Frame} {meth : Method} {c : Code} (l : Launch) {b L : Nat} {xs : Nat → Int32} (hL : L ≤ 384) (C0 : lw_At p s m meth c b L xs) : W p l e room_1 s m #[Value.ref b] below meth c s.heap [] 0 0 (lw_Z below #[Value.ref b] s) (entryFrame m ([Value.ref b] : List Value).toArray 4) := by
  obtain ⟨hx, hb, hr, hml, hown, hts, hX, hbl, hlocks, hgv⟩ := id C0
  obtain ⟨D, cy, hK⟩ := ov_start_D hts
  obtain ⟨ad, had, hKs⟩ := ov_start_K hts hgv
  have hl := lv_entry ([.ref b]) (n := 4) (Nat.le_of_ble_eq_true rfl)
  rw [lg_entry_eq]
  generalize (lg_sl ([Value.ref b]) ++ List.replicate (4 - (lg_sl ([Value.ref b])).length) Slot.unset).toArray = ls at hl ⊢
  have hl2 : lv_has ls 4 ([(0, Value.ref 7000)].map (ov_lc ad)) := by
    show lv_has ls 4 [(0, Value.ref (ad 7000))]
    rw [had]
    exact hl
  have hE : ov_E (ovZL L xs) D cy (fun q => s.heap.size ≤ q) ad ad s := ⟨hK, fun q h => h, hKs, ⟨by rw [had]; exact hX, by rw [had]; exact hbl, by rw [had]; exact Nat.not_le.mpr hbl⟩, fun _ _ => rfl⟩
  have hW : ov_Wd D cy (fun q => s.heap.size ≤ q) ad [] (fun _ _ => 0) s s.heap [] := ⟨fun k q h => by simp [ov_ws] at h, ⟨fun i j p q h => by simp [ov_ws] at h, fun k q h => by simp [ov_ws] at h⟩, va_S.rf⟩
  exact ov_start_V (Ln := L) (xs := xs) hL hB h0 p l e room_1 s m #[Value.ref b] below meth c _ D cy (fun q => s.heap.size ≤ q) ad ad s.heap [] ls (ov_start_C C0) (ov_start_R C0 D cy ad) hE hW hl2
