/-! ===== the shape of both systems, once made ===== -/
def ov_S0 : ovSh := [(5, 0, [some 1, some 21, some 27, some 33, some 39, some 45, some 48, some 49, some 50, none, none]), (0, 0, [some 2, some 17, some 18, some 19, some 20]), (13, 14, [some 3, some 4, some 5, some 6, some 7, some 8, some 9, some 10, some 11, some 12, some 13, some 14, some 15, some 16]), (9, 96, []), (9, 96, []), (9, 96, []), (9, 96, []), (9, 96, []), (9, 96, []), (9, 96, []), (9, 96, []), (9, 96, []), (9, 96, []), (9, 96, []), (9, 96, []), (9, 96, []), (9, 96, []), (9, 14, []), (9, 14, []), (9, 14, []), (9, 96, []), (3, 0, [some 1, some 22, some 23, some 24, some 25, some 26, none, none, none, none, none, none, none, none]), (9, 8, []), (9, 8, []), (9, 8, []), (9, 8, []), (9, 3, []), (3, 0, [some 1, some 28, some 29, some 30, some 31, some 32, none, none, none, none, none, none, none, none]), (9, 8, []), (9, 8, []), (9, 8, []), (9, 8, []), (9, 3, []), (3, 0, [some 1, some 34, some 35, some 36, some 37, some 38, none, none, none, none, none, none, none, none]), (9, 8, []), (9, 8, []), (9, 8, []), (9, 8, []), (9, 3, []), (3, 0, [some 1, some 40, some 41, some 42, some 43, some 44, none, none, none, none, none, none, none, none]), (9, 8, []), (9, 8, []), (9, 8, []), (9, 8, []), (9, 3, []), (4, 0, [some 46, some 47, none, none, none, none, none, none, none]), (7, 96, []), (9, 96, []), (11, 4, [some 51, some 53, some 55, some 57]), (12, 5, [some 59, some 62, some 65, some 68, some 71]), (9, 60, []), (1, 0, [some 52, none, none]), (9, 24, []), (1, 0, [some 54, none, none]), (9, 24, []), (1, 0, [some 56, none, none]), (9, 24, []), (1, 0, [some 58, none, none]), (9, 24, []), (2, 0, [some 60, none, none, none, none]), (1, 0, [some 61, none, none]), (9, 24, []), (2, 0, [some 63, none, none, none, none]), (1, 0, [some 64, none, none]), (9, 24, []), (2, 0, [some 66, none, none, none, none]), (1, 0, [some 67, none, none]), (9, 24, []), (2, 0, [some 69, none, none, none, none]), (1, 0, [some 70, none, none]), (9, 24, []), (2, 0, [some 72, none, none, none, none]), (1, 0, [some 73, none, none]), (9, 24, []), (6, 0, [some 75, some 76, some 77, none, some 78, some 79, some 80, some 81, none, none, none, none, none, none, none, some 82, some 83, some 84, none, none, some 85, none, some 86, some 87, some 88, some 89, some 90, some 91, some 92, some 93, some 94, some 95, some 96, some 97, none]), (9, 1412, []), (9, 1412, []), (9, 1412, []), (9, 40, []), (9, 3, []), (9, 201, []), (9, 96, []), (8, 11, []), (9, 4, []), (9, 96, []), (9, 96, []), (10, 10, []), (9, 96, []), (9, 4, []), (9, 4, []), (9, 4, []), (9, 96, []), (9, 5, []), (9, 5, []), (9, 5, []), (9, 120, []), (9, 24, []), (9, 60, [])]
theorem sh_0 : ov_S0[0]? = some (5, 0, [some 1, some 21, some 27, some 33, some 39, some 45, some 48, some 49, some 50, none, none]) := rfl
theorem sh_1 : ov_S0[1]? = some (0, 0, [some 2, some 17, some 18, some 19, some 20]) := rfl
theorem sh_2 : ov_S0[2]? = some (13, 14, [some 3, some 4, some 5, some 6, some 7, some 8, some 9, some 10, some 11, some 12, some 13, some 14, some 15, some 16]) := rfl
theorem sh_3 : ov_S0[3]? = some (9, 96, []) := rfl
theorem sh_4 : ov_S0[4]? = some (9, 96, []) := rfl
theorem sh_5 : ov_S0[5]? = some (9, 96, []) := rfl
theorem sh_6 : ov_S0[6]? = some (9, 96, []) := rfl
theorem sh_7 : ov_S0[7]? = some (9, 96, []) := rfl
theorem sh_8 : ov_S0[8]? = some (9, 96, []) := rfl
theorem sh_9 : ov_S0[9]? = some (9, 96, []) := rfl
theorem sh_10 : ov_S0[10]? = some (9, 96, []) := rfl
theorem sh_11 : ov_S0[11]? = some (9, 96, []) := rfl
theorem sh_12 : ov_S0[12]? = some (9, 96, []) := rfl
theorem sh_13 : ov_S0[13]? = some (9, 96, []) := rfl
theorem sh_14 : ov_S0[14]? = some (9, 96, []) := rfl
theorem sh_15 : ov_S0[15]? = some (9, 96, []) := rfl
theorem sh_16 : ov_S0[16]? = some (9, 96, []) := rfl
theorem sh_17 : ov_S0[17]? = some (9, 14, []) := rfl
theorem sh_18 : ov_S0[18]? = some (9, 14, []) := rfl
theorem sh_19 : ov_S0[19]? = some (9, 14, []) := rfl
theorem sh_20 : ov_S0[20]? = some (9, 96, []) := rfl
theorem sh_21 : ov_S0[21]? = some (3, 0, [some 1, some 22, some 23, some 24, some 25, some 26, none, none, none, none, none, none, none, none]) := rfl
theorem sh_22 : ov_S0[22]? = some (9, 8, []) := rfl
theorem sh_23 : ov_S0[23]? = some (9, 8, []) := rfl
theorem sh_24 : ov_S0[24]? = some (9, 8, []) := rfl
theorem sh_25 : ov_S0[25]? = some (9, 8, []) := rfl
theorem sh_26 : ov_S0[26]? = some (9, 3, []) := rfl
theorem sh_27 : ov_S0[27]? = some (3, 0, [some 1, some 28, some 29, some 30, some 31, some 32, none, none, none, none, none, none, none, none]) := rfl
theorem sh_28 : ov_S0[28]? = some (9, 8, []) := rfl
theorem sh_29 : ov_S0[29]? = some (9, 8, []) := rfl
theorem sh_30 : ov_S0[30]? = some (9, 8, []) := rfl
theorem sh_31 : ov_S0[31]? = some (9, 8, []) := rfl
theorem sh_32 : ov_S0[32]? = some (9, 3, []) := rfl
theorem sh_33 : ov_S0[33]? = some (3, 0, [some 1, some 34, some 35, some 36, some 37, some 38, none, none, none, none, none, none, none, none]) := rfl
theorem sh_34 : ov_S0[34]? = some (9, 8, []) := rfl
theorem sh_35 : ov_S0[35]? = some (9, 8, []) := rfl
theorem sh_36 : ov_S0[36]? = some (9, 8, []) := rfl
theorem sh_37 : ov_S0[37]? = some (9, 8, []) := rfl
theorem sh_38 : ov_S0[38]? = some (9, 3, []) := rfl
theorem sh_39 : ov_S0[39]? = some (3, 0, [some 1, some 40, some 41, some 42, some 43, some 44, none, none, none, none, none, none, none, none]) := rfl
theorem sh_40 : ov_S0[40]? = some (9, 8, []) := rfl
theorem sh_41 : ov_S0[41]? = some (9, 8, []) := rfl
theorem sh_42 : ov_S0[42]? = some (9, 8, []) := rfl
theorem sh_43 : ov_S0[43]? = some (9, 8, []) := rfl
theorem sh_44 : ov_S0[44]? = some (9, 3, []) := rfl
theorem sh_45 : ov_S0[45]? = some (4, 0, [some 46, some 47, none, none, none, none, none, none, none]) := rfl
theorem sh_46 : ov_S0[46]? = some (7, 96, []) := rfl
theorem sh_47 : ov_S0[47]? = some (9, 96, []) := rfl
theorem sh_48 : ov_S0[48]? = some (11, 4, [some 51, some 53, some 55, some 57]) := rfl
theorem sh_49 : ov_S0[49]? = some (12, 5, [some 59, some 62, some 65, some 68, some 71]) := rfl
theorem sh_50 : ov_S0[50]? = some (9, 60, []) := rfl
theorem sh_51 : ov_S0[51]? = some (1, 0, [some 52, none, none]) := rfl
theorem sh_52 : ov_S0[52]? = some (9, 24, []) := rfl
theorem sh_53 : ov_S0[53]? = some (1, 0, [some 54, none, none]) := rfl
theorem sh_54 : ov_S0[54]? = some (9, 24, []) := rfl
theorem sh_55 : ov_S0[55]? = some (1, 0, [some 56, none, none]) := rfl
theorem sh_56 : ov_S0[56]? = some (9, 24, []) := rfl
theorem sh_57 : ov_S0[57]? = some (1, 0, [some 58, none, none]) := rfl
theorem sh_58 : ov_S0[58]? = some (9, 24, []) := rfl
theorem sh_59 : ov_S0[59]? = some (2, 0, [some 60, none, none, none, none]) := rfl
theorem sh_60 : ov_S0[60]? = some (1, 0, [some 61, none, none]) := rfl
theorem sh_61 : ov_S0[61]? = some (9, 24, []) := rfl
theorem sh_62 : ov_S0[62]? = some (2, 0, [some 63, none, none, none, none]) := rfl
theorem sh_63 : ov_S0[63]? = some (1, 0, [some 64, none, none]) := rfl
theorem sh_64 : ov_S0[64]? = some (9, 24, []) := rfl
theorem sh_65 : ov_S0[65]? = some (2, 0, [some 66, none, none, none, none]) := rfl
theorem sh_66 : ov_S0[66]? = some (1, 0, [some 67, none, none]) := rfl
theorem sh_67 : ov_S0[67]? = some (9, 24, []) := rfl
theorem sh_68 : ov_S0[68]? = some (2, 0, [some 69, none, none, none, none]) := rfl
theorem sh_69 : ov_S0[69]? = some (1, 0, [some 70, none, none]) := rfl
theorem sh_70 : ov_S0[70]? = some (9, 24, []) := rfl
theorem sh_71 : ov_S0[71]? = some (2, 0, [some 72, none, none, none, none]) := rfl
theorem sh_72 : ov_S0[72]? = some (1, 0, [some 73, none, none]) := rfl
theorem sh_73 : ov_S0[73]? = some (9, 24, []) := rfl
theorem sh_74 : ov_S0[74]? = some (6, 0, [some 75, some 76, some 77, none, some 78, some 79, some 80, some 81, none, none, none, none, none, none, none, some 82, some 83, some 84, none, none, some 85, none, some 86, some 87, some 88, some 89, some 90, some 91, some 92, some 93, some 94, some 95, some 96, some 97, none]) := rfl
theorem sh_75 : ov_S0[75]? = some (9, 1412, []) := rfl
theorem sh_76 : ov_S0[76]? = some (9, 1412, []) := rfl
theorem sh_77 : ov_S0[77]? = some (9, 1412, []) := rfl
theorem sh_78 : ov_S0[78]? = some (9, 40, []) := rfl
theorem sh_79 : ov_S0[79]? = some (9, 3, []) := rfl
theorem sh_80 : ov_S0[80]? = some (9, 201, []) := rfl
theorem sh_81 : ov_S0[81]? = some (9, 96, []) := rfl
theorem sh_82 : ov_S0[82]? = some (8, 11, []) := rfl
theorem sh_83 : ov_S0[83]? = some (9, 4, []) := rfl
theorem sh_84 : ov_S0[84]? = some (9, 96, []) := rfl
theorem sh_85 : ov_S0[85]? = some (9, 96, []) := rfl
theorem sh_86 : ov_S0[86]? = some (10, 10, []) := rfl
theorem sh_87 : ov_S0[87]? = some (9, 96, []) := rfl
theorem sh_88 : ov_S0[88]? = some (9, 4, []) := rfl
theorem sh_89 : ov_S0[89]? = some (9, 4, []) := rfl
theorem sh_90 : ov_S0[90]? = some (9, 4, []) := rfl
theorem sh_91 : ov_S0[91]? = some (9, 96, []) := rfl
theorem sh_92 : ov_S0[92]? = some (9, 5, []) := rfl
theorem sh_93 : ov_S0[93]? = some (9, 5, []) := rfl
theorem sh_94 : ov_S0[94]? = some (9, 5, []) := rfl
theorem sh_95 : ov_S0[95]? = some (9, 120, []) := rfl
theorem sh_96 : ov_S0[96]? = some (9, 24, []) := rfl
theorem sh_97 : ov_S0[97]? = some (9, 60, []) := rfl
def ov_stk (s : Nat) : Prop := s = 21 ∨ s = 27 ∨ s = 33 ∨ s = 39
def ov_isr (r : Nat) : Prop := r = 51 ∨ r = 53 ∨ r = 55 ∨ r = 57 ∨ r = 60 ∨ r = 63 ∨ r = 66 ∨ r = 69 ∨ r = 72
def ov_isq (q : Nat) : Prop := q = 59 ∨ q = 62 ∨ q = 65 ∨ q = 68 ∨ q = 71
def ov_iss (w : Nat) : Prop := 6000 ≤ w ∧ w < 6006
theorem ov_issj {w : Nat} (h : ov_iss w) : w - 6000 < 6 ∧ w = 6000 + (w - 6000) := by unfold ov_iss at h; omega
theorem ov_stk0 {s : Nat} (h : ov_stk s) : ov_S0[s]? = some (3, 0, [some 1, some (s + 1), some (s + 2), some (s + 3), some (s + 4), some (s + 5), none, none, none, none, none, none, none, none]) := by rcases h with rfl | rfl | rfl | rfl <;> rfl
theorem ov_stk1 {s : Nat} (h : ov_stk s) : ov_S0[s + 1]? = some (9, 8, []) := by rcases h with rfl | rfl | rfl | rfl <;> rfl
theorem ov_stk2 {s : Nat} (h : ov_stk s) : ov_S0[s + 2]? = some (9, 8, []) := by rcases h with rfl | rfl | rfl | rfl <;> rfl
theorem ov_stk3 {s : Nat} (h : ov_stk s) : ov_S0[s + 3]? = some (9, 8, []) := by rcases h with rfl | rfl | rfl | rfl <;> rfl
theorem ov_stk4 {s : Nat} (h : ov_stk s) : ov_S0[s + 4]? = some (9, 8, []) := by rcases h with rfl | rfl | rfl | rfl <;> rfl
theorem ov_stk5 {s : Nat} (h : ov_stk s) : ov_S0[s + 5]? = some (9, 3, []) := by rcases h with rfl | rfl | rfl | rfl <;> rfl
theorem ov_stkn {s : Nat} (h : ov_stk s) (j : Nat) (hj : j ≤ 5) : ¬ s + j = 9999 := by rcases h with rfl | rfl | rfl | rfl <;> omega
theorem ov_isr0 {r : Nat} (h : ov_isr r) : ov_S0[r]? = some (1, 0, [some (r + 1), none, none]) := by rcases h with rfl | rfl | rfl | rfl | rfl | rfl | rfl | rfl | rfl <;> rfl
theorem ov_isr1 {r : Nat} (h : ov_isr r) : ov_S0[r + 1]? = some (9, 24, []) := by rcases h with rfl | rfl | rfl | rfl | rfl | rfl | rfl | rfl | rfl <;> rfl
theorem ov_isrn {r : Nat} (h : ov_isr r) (j : Nat) (hj : j ≤ 5) : ¬ r + j = 9999 := by rcases h with rfl | rfl | rfl | rfl | rfl | rfl | rfl | rfl | rfl <;> omega
theorem ov_isq0 {q : Nat} (h : ov_isq q) : ov_S0[q]? = some (2, 0, [some (q + 1), none, none, none, none]) := by rcases h with rfl | rfl | rfl | rfl | rfl <;> rfl
theorem ov_isq1 {q : Nat} (h : ov_isq q) : ov_isr (q + 1) := by rcases h with rfl | rfl | rfl | rfl | rfl <;> (unfold ov_isr; decide)
theorem ov_isqn {q : Nat} (h : ov_isq q) (j : Nat) (hj : j ≤ 5) : ¬ q + j = 9999 := by rcases h with rfl | rfl | rfl | rfl | rfl <;> omega
theorem ov_inlt {x : Int32} {n : Nat} (h : vp_in x n) : x.toNatClampNeg < n := Nat.not_le.mp fun q => h (Or.inr q)
theorem ov_shR {x : Int32} (h : vp_in x 4) : ([some 51, some 53, some 55, some 57] : List (Option Nat))[x.toNatClampNeg]? = some (some (51 + 2 * x.toNatClampNeg)) := by
  have h1 := ov_inlt h
  generalize x.toNatClampNeg = j at h1 ⊢
  match j, h1 with
  | 0, _ => rfl
  | 1, _ => rfl
  | 2, _ => rfl
  | 3, _ => rfl
theorem ov_shR2 {x : Int32} (h : vp_in x 4) : ov_isr (51 + 2 * x.toNatClampNeg) := by
  have h1 := ov_inlt h
  generalize x.toNatClampNeg = j at h1 ⊢
  match j, h1 with
  | 0, _ => first | (unfold ov_isr; decide) | (unfold ov_isq; decide)
  | 1, _ => first | (unfold ov_isr; decide) | (unfold ov_isq; decide)
  | 2, _ => first | (unfold ov_isr; decide) | (unfold ov_isq; decide)
  | 3, _ => first | (unfold ov_isr; decide) | (unfold ov_isq; decide)
theorem ov_shRn {x : Int32} (h : vp_in x 4) : ¬ 51 + 2 * x.toNatClampNeg = 9999 := by have h1 := ov_inlt h; omega
theorem ov_shQ {x : Int32} (h : vp_in x 5) : ([some 59, some 62, some 65, some 68, some 71] : List (Option Nat))[x.toNatClampNeg]? = some (some (59 + 3 * x.toNatClampNeg)) := by
  have h1 := ov_inlt h
  generalize x.toNatClampNeg = j at h1 ⊢
  match j, h1 with
  | 0, _ => rfl
  | 1, _ => rfl
  | 2, _ => rfl
  | 3, _ => rfl
  | 4, _ => rfl
theorem ov_shQ2 {x : Int32} (h : vp_in x 5) : ov_isq (59 + 3 * x.toNatClampNeg) := by
  have h1 := ov_inlt h
  generalize x.toNatClampNeg = j at h1 ⊢
  match j, h1 with
  | 0, _ => first | (unfold ov_isr; decide) | (unfold ov_isq; decide)
  | 1, _ => first | (unfold ov_isr; decide) | (unfold ov_isq; decide)
  | 2, _ => first | (unfold ov_isr; decide) | (unfold ov_isq; decide)
  | 3, _ => first | (unfold ov_isr; decide) | (unfold ov_isq; decide)
  | 4, _ => first | (unfold ov_isr; decide) | (unfold ov_isq; decide)
theorem ov_shQn {x : Int32} (h : vp_in x 5) : ¬ 59 + 3 * x.toNatClampNeg = 9999 := by have h1 := ov_inlt h; omega
theorem ov_shL {x : Int32} (h : vp_in x 14) : ([some 3, some 4, some 5, some 6, some 7, some 8, some 9, some 10, some 11, some 12, some 13, some 14, some 15, some 16] : List (Option Nat))[x.toNatClampNeg]? = some (some (3 + x.toNatClampNeg)) := by
  have h1 := ov_inlt h
  generalize x.toNatClampNeg = j at h1 ⊢
  match j, h1 with
  | 0, _ => rfl
  | 1, _ => rfl
  | 2, _ => rfl
  | 3, _ => rfl
  | 4, _ => rfl
  | 5, _ => rfl
  | 6, _ => rfl
  | 7, _ => rfl
  | 8, _ => rfl
  | 9, _ => rfl
  | 10, _ => rfl
  | 11, _ => rfl
  | 12, _ => rfl
  | 13, _ => rfl
theorem ov_shL2 {x : Int32} (h : vp_in x 14) : ov_S0[3 + x.toNatClampNeg]? = some (9, 96, []) := by
  have h1 := ov_inlt h
  generalize x.toNatClampNeg = j at h1 ⊢
  match j, h1 with
  | 0, _ => rfl
  | 1, _ => rfl
  | 2, _ => rfl
  | 3, _ => rfl
  | 4, _ => rfl
  | 5, _ => rfl
  | 6, _ => rfl
  | 7, _ => rfl
  | 8, _ => rfl
  | 9, _ => rfl
  | 10, _ => rfl
  | 11, _ => rfl
  | 12, _ => rfl
  | 13, _ => rfl
theorem ov_shLn {x : Int32} (h : vp_in x 14) : ¬ 3 + x.toNatClampNeg = 9999 := by have h1 := ov_inlt h; omega
def ov_bl (x : Int32) : Prop := narrow .boolean (.int x) = .int x
theorem ov_bl0 : ov_bl 0 := rfl
theorem ov_bl1 : ov_bl 1 := rfl
abbrev ovKi (k : Int32 → ovSt → Prop) : Option Value → ovSt → Prop := fun r σ => ∃ v, r = some (.int v) ∧ k v σ
abbrev ovKl (k : Int64 → ovSt → Prop) : Option Value → ovSt → Prop := fun r σ => ∃ v, r = some (.long v) ∧ k v σ
abbrev ovKr (k : Nat → ovSt → Prop) : Option Value → ovSt → Prop := fun r σ => ∃ v, r = some (.ref v) ∧ k v σ
abbrev ovKv (k : ovSt → Prop) : Option Value → ovSt → Prop := fun r σ => r = none ∧ k σ
section OVS
variable {Z : ovZ} {k : ovK} {n : Nat × Nat} {S : ovSh} {pc : Nat} {L : List (Nat × Value)} {st : List Value} {σ : ovSt}
theorem ov_pick (ks : List Nat) (L' : List (Nat × Value)) (hL : lv_pick L ks = L') (h : ov_V Z k n S pc L' st σ) : ov_V Z k n S pc L st σ := by
  intro p l e R s m args below meth c Q D cy A ad0 ad H locs ls hC hT hE hW hl
  refine h p l e R s m args below meth c Q D cy A ad0 ad H locs ls hC hT hE hW (lv_sub hl ks ?_)
  rw [← hL]
  unfold lv_pick
  rw [List.map_filterMap]
  congr 1
  funext i
  rw [List.getElem?_map]
theorem ov_ldcS {index : Nat} (j : Nat) (hj : j < 6) (hi : index = 67 + 2 * j) (hZ : Z.2.1.1.cls = "OldPot$Tape") (hd : decode Z.2.1.2.1 pc = .ok (.ldc index, 2)) (h : ov_V Z k n S (pc + 2) L (.ref (6000 + j) :: st) σ) : ov_V Z k n S pc L st σ := by
  intro p l e R s m args below meth c Q D cy A ad0 ad H locs ls hC hT hE hW hl
  subst hi
  exact va_ldcS hC.1 hC.2.1 (by rw [← hZ]; exact hC.2.2.2.1) (hE.2.2.1.2.1.2 j hj) hd (h p l e R s m args below meth c Q D cy A ad0 ad H locs ls hC hT hE hW hl)
end OVS
