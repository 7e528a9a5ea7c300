/-! ===== the store of all ints, the shapes of the cells, the world of a shape and a store ===== -/
abbrev ovSt : Type := Nat → Nat → Int32
abbrev ovSc : Type := Nat × Nat × List (Option Nat)
abbrev ovSh : Type := List ovSc
def ov_up (σ : ovSt) (i k : Nat) (v : Int32) : ovSt := fun j => if j = i then upd (σ i) k v else σ j
def ov_row (σ : ovSt) (i : Nat) (f : Nat → Int32) : ovSt := fun j => if j = i then f else σ j
def ov_cv (ad : Nat → Nat) (v : Value) : Value := match v with
  | .ref i => .ref (ad i)
  | w => w
def ov_lc (ad : Nat → Nat) (q : Nat × Value) : Nat × Value := (q.1, ov_cv ad q.2)
def ov_rq (ad : Nat → Nat) (j : Nat) : Option Nat := if j = 9999 then none else some (ad j)
def ov_fv (ad : Nat → Nat) (f : Nat → Int32) (k : Nat) (o : Option Nat) : Value := match o with
  | none => .int (f k)
  | some j => va_rf (ov_rq ad j)
def ov_fl (ad : Nat → Nat) (f : Nat → Int32) : Nat → List (Option Nat) → List Value
  | _, [] => []
  | k, o :: r => ov_fv ad f k o :: ov_fl ad f (k + 1) r
def ov_ce (cy : Nat → ClassId) (ad : Nat → Nat) (f : Nat → Int32) (q : ovSc) : va_E :=
  if q.1 < 7 then .inr (q.1, ov_fl ad f 0 q.2.2)
  else if q.1 < 11 then .inl (cy q.1, q.2.1, .inl f)
  else .inl (cy q.1, q.2.1, .inr (.inr (.inr (.inr (fun k => ((q.2.2[k]?).getD none).bind (ov_rq ad))))))
def ov_ws (cy : Nat → ClassId) (ad : Nat → Nat) (σ : ovSt) : Nat → ovSh → va_W
  | _, [] => []
  | i, c :: r => (ad i, ov_ce cy ad (σ i) c) :: ov_ws cy ad σ (i + 1) r
theorem ov_cv_cat (ad : Nat → Nat) (v : Value) : (ov_cv ad v).category = v.category := by cases v <;> rfl
theorem ov_fl_get (ad : Nat → Nat) (f : Nat → Int32) : ∀ (rs : List (Option Nat)) (k0 k : Nat), (ov_fl ad f k0 rs)[k]? = (rs[k]?).map (ov_fv ad f (k0 + k))
  | [], k0, k => by simp [ov_fl]
  | o :: r, k0, 0 => by simp [ov_fl]
  | o :: r, k0, k + 1 => by
    rw [ov_fl, List.getElem?_cons_succ, List.getElem?_cons_succ, ov_fl_get ad f r (k0 + 1) k, show k0 + 1 + k = k0 + (k + 1) by omega]
theorem ov_fl_len (ad : Nat → Nat) (f : Nat → Int32) : ∀ (rs : List (Option Nat)) (k0 : Nat), (ov_fl ad f k0 rs).length = rs.length
  | [], k0 => rfl
  | o :: r, k0 => by rw [ov_fl, List.length_cons, List.length_cons, ov_fl_len ad f r]
theorem ov_fl_set {ad : Nat → Nat} {f : Nat → Int32} {rs : List (Option Nat)} {k : Nat} (h : rs[k]? = some none) (v : Int32) : (ov_fl ad f 0 rs).set k (.int v) = ov_fl ad (upd f k v) 0 rs := by
  have hk : k < rs.length := (List.getElem?_eq_some_iff.mp h).1
  apply List.ext_getElem?
  intro j
  rw [ov_fl_get]
  by_cases hj : j = k
  · subst hj
    rw [List.getElem?_set_self (by rw [ov_fl_len]; exact hk), h]
    simp [ov_fv, upd]
  · rw [List.getElem?_set_ne (Ne.symm hj), ov_fl_get]
    cases rs[j]? with
    | none => rfl
    | some o =>
      cases o with
      | none => simp [ov_fv, upd, hj]
      | some q => rfl
theorem ov_ws_get (cy : Nat → ClassId) (ad : Nat → Nat) (σ : ovSt) : ∀ (S : ovSh) (i k : Nat), (ov_ws cy ad σ i S)[k]? = (S[k]?).map (fun c => (ad (i + k), ov_ce cy ad (σ (i + k)) c))
  | [], i, k => by simp [ov_ws]
  | c :: r, i, 0 => by simp [ov_ws]
  | c :: r, i, k + 1 => by
    rw [ov_ws, List.getElem?_cons_succ, List.getElem?_cons_succ, ov_ws_get cy ad σ r (i + 1) k, show i + 1 + k = i + (k + 1) by omega]
theorem ov_ws_at {cy : Nat → ClassId} {ad : Nat → Nat} {σ : ovSt} {S : ovSh} {i : Nat} {c : ovSc} (h : S[i]? = some c) : (ov_ws cy ad σ 0 S)[i]? = some (ad i, ov_ce cy ad (σ i) c) := by
  rw [ov_ws_get, h]
  simp
theorem ov_ws_len (cy : Nat → ClassId) (ad : Nat → Nat) (σ : ovSt) : ∀ (S : ovSh) (i : Nat), (ov_ws cy ad σ i S).length = S.length
  | [], i => rfl
  | c :: r, i => by rw [ov_ws, List.length_cons, List.length_cons, ov_ws_len cy ad σ r]
/-- a cell of ints is another one: so is the store -/
theorem ov_ws_set {cy : Nat → ClassId} {ad : Nat → Nat} {σ : ovSt} {S : ovSh} {i : Nat} {c : ovSc} (h : S[i]? = some c) (f : Nat → Int32) : (ov_ws cy ad σ 0 S).set i (ad i, ov_ce cy ad f c) = ov_ws cy ad (ov_row σ i f) 0 S := by
  have hk : i < S.length := (List.getElem?_eq_some_iff.mp h).1
  apply List.ext_getElem?
  intro j
  rw [ov_ws_get]
  by_cases hj : j = i
  · subst hj
    rw [List.getElem?_set_self (by rw [ov_ws_len]; exact hk), h]
    simp [ov_row]
  · rw [List.getElem?_set_ne (Ne.symm hj), ov_ws_get]
    simp [ov_row, hj]
theorem ov_row_up (σ : ovSt) (i k : Nat) (v : Int32) : ov_row σ i (upd (σ i) k v) = ov_up σ i k v := rfl
/-! ===== what is constant: the static array, the texts, links of nest mates ===== -/
def ov_abv (j : Nat) : Int32 := if j = 0 then -1 else if j = 3 then 1 else if j = 4 then 2 else 0
def ov_len : List Nat := [4, 4, 3, 3, 2, 2]
def ov_byt : List (List Int32) := [[102, 97, 100, 101], [98, 105, 108, 108], [108, 111, 116], [97, 103, 116], [116, 119], [100, 116]]
def ov_txt (i : Nat) : String := match i with
  | 0 => "fade"
  | 1 => "bill"
  | 2 => "lot"
  | 3 => "agt"
  | 4 => "tw"
  | _ => "dt"
def ov_nest : List Cond := [.methodLinkNest RX5 9 yX0_init RX5, .methodLinkNest RX5 36 yX4_init RX5, .methodLinkNest RX5 65 yX1_init RX5, .methodLinkNest RX5 66 yX2_init RX5, .methodLinkNest RX2 11 yX1_init RX5, .methodLinkNest RX3 107 yX5_held RX5, .methodLinkNest RX3 113 yX5_worthOf RX5]
/-- the tables know the class of arrays of int arrays -/
def ov_AOI (U : State) : Prop := (Cond.arrayOver (.array .int)).before #[] U = true
theorem ov_AOI.moved {u U : State} (hvm : u.vm.Alike U.vm) (h : ov_AOI u) : ov_AOI U := by
  obtain ⟨comp, c, k, h1, h2, h3, h4, h5⟩ := arrayOverA_spec h
  obtain ⟨k', hk', he⟩ := hvm.2.2 _ _ h3
  have hi := (va_idx_bare u.vm comp).trans h2
  have hb : u.vm.bare = U.vm.bare := by first | exact hvm.bare_eq | exact hvm.bare_eq.symm
  rw [hb, va_idx_bare] at hi
  have e1 : k'.kind = .array comp (.array .int) := by rw [he]; exact h4
  have e2 : U.vm.findClass (FieldType.array .int).toString = some comp := by rw [hvm.findClass]; exact h1
  have e3 : U.vm.findClass ("[" ++ (FieldType.array .int).toString) = some c := by rw [hvm.findClass]; exact h5
  unfold ov_AOI Cond.before Cond.holds
  simp only [Cond.value]
  rw [e2, Option.bind_some]
  have key : ∀ o : Option Nat, o = some c → ((o.bind (fun c => (U.vm.classes[c]?).map fun (k : Class) => match k.kind with | .array _ ty => decide (ty = FieldType.array .int) && decide (U.vm.findClass ("[" ++ (FieldType.array .int).toString) = some c) | _ => false) == some true)) = true := by
    intro o ho
    subst ho
    simp [hk', e1, e3]
  exact key _ hi
def ov_Kst (ad : Nat → Nat) (A : Nat → Prop) (s : State) (H : Heap) : Prop :=
  (va_Z "OldPot" "ABOVE" "[I" (.ref (ad 5000)) A s H ∧ va_T .int (ad 5000) 6 (fun j => .int (ov_abv j)) A s H) ∧
  (vk_S 6 ov_len ov_byt (fun i => ad (6000 + i)) (fun i => ad (6100 + i)) A s H ∧ ∀ i, i < 6 → vk_R "OldPot$Tape" (67 + 2 * i) (ov_txt i) (ad (6000 + i)) s) ∧
  (va_Z "java/lang/String" "COMPACT_STRINGS" "Z" (.int 1) A s H ∧ (va_Z "jdk/internal/util/Preconditions" "SIOOBE_FORMATTER" "Ljava/util/function/BiFunction;" .null A s H ∨ va_Z "jdk/internal/util/Preconditions" "SIOOBE_FORMATTER" "Ljava/util/function/BiFunction;" (.ref (ad 7500)) A s H)) ∧
  ((∀ w ∈ ov_nest, va_Nw w s) ∧ va_AO RX1 s ∧ va_AO RX2 s ∧ ov_AOI s)
theorem ov_nest_warm {s U : State} (hW : s.WarmedH U.vm) (h : ∀ w ∈ ov_nest, va_Nw w s) : ∀ w ∈ ov_nest, va_Nw w U := by
  intro w hw
  have h1 := h w hw
  simp only [ov_nest, List.mem_cons, List.not_mem_nil, or_false] at hw
  rcases hw with rfl | rfl | rfl | rfl | rfl | rfl | rfl <;> exact va_Nw.warmM hW h1
theorem ov_nest_same {s U : State} (hv : s.vm = U.vm) (h : ∀ w ∈ ov_nest, va_Nw w s) : ∀ w ∈ ov_nest, va_Nw w U := by
  intro w hw
  have h1 := h w hw
  simp only [ov_nest, List.mem_cons, List.not_mem_nil, or_false] at hw
  rcases hw with rfl | rfl | rfl | rfl | rfl | rfl | rfl <;> exact va_Nw.same rfl hv h1
/-- into a call -/
theorem ov_Kst.call {ad : Nat → Nat} {A B : Nat → Prop} {s U : State} {H : Heap} {locs : List Loc} (h : ov_Kst ad A s s.heap) (hS : va_S A s.heap H locs) (hW : s.WarmedH U.vm) (hU : U.heap = H) (hAB : ∀ q, B q → A q) : ov_Kst ad B U U.heap := by
  obtain ⟨⟨h1, h2⟩, ⟨h3, h4⟩, ⟨h5, h6⟩, h7, h8, h9, h10⟩ := h
  subst hU
  have hq : ∀ a : Nat, a < s.heap.size → ¬ A a → U.heap[a]? = s.heap[a]? := hS.2.1
  exact ⟨⟨((h1.kept hq).narrow hAB).moved hW.alike, ((h2.kept hq).narrow hAB).moved hW.alike⟩, ⟨((h3.kept hq).narrow hAB).moved hW.alike, fun i hi => (h4 i hi).warm hW⟩, ⟨((h5.kept hq).narrow hAB).moved hW.alike, h6.imp (fun z => ((z.kept hq).narrow hAB).moved hW.alike) (fun z => ((z.kept hq).narrow hAB).moved hW.alike)⟩, ov_nest_warm hW h7, h8.moved hW.alike, h9.moved hW.alike, h10.moved hW.alike⟩
theorem ov_Kst.blind {ad : Nat → Nat} {A : Nat → Prop} {U : State} {g : JFrame} {mk : MethodId} {a : Array Value} (h : ov_Kst ad A U U.heap) : ov_Kst ad A (U.calling g mk a) (U.calling g mk a).heap := by
  obtain ⟨⟨h1, h2⟩, ⟨h3, h4⟩, ⟨h5, h6⟩, h7, h8, h9, h10⟩ := h
  have hv : U.vm.Alike (U.calling g mk a).vm := Vm.Alike.refl U.vm
  exact ⟨⟨h1.moved hv, h2.moved hv⟩, ⟨h3.moved hv, fun i hi => (h4 i hi).same rfl⟩, ⟨h5.moved hv, h6.imp (fun z => z.moved hv) (fun z => z.moved hv)⟩, ov_nest_same (s := U) (U := U.calling g mk a) rfl h7, h8.moved hv, h9.moved hv, h10.moved hv⟩
theorem ov_Kst.ad {ad ad' : Nat → Nat} {A : Nat → Prop} {s : State} {H : Heap} (h : ov_Kst ad A s H) (he : ∀ i, 5000 ≤ i → ad' i = ad i) : ov_Kst ad' A s H := by
  have e1 : (fun i => ad' (6000 + i)) = (fun i => ad (6000 + i)) := funext fun i => he _ (by omega)
  have e2 : (fun i => ad' (6100 + i)) = (fun i => ad (6100 + i)) := funext fun i => he _ (by omega)
  obtain ⟨⟨h1, h2⟩, ⟨h3, h4⟩, ⟨h5, h6⟩, h7⟩ := h
  refine ⟨⟨?_, ?_⟩, ⟨?_, fun i hi => ?_⟩, ⟨h5, by rw [he 7500 (by omega)]; exact h6⟩, h7⟩
  · rw [he 5000 (by omega)]; exact h1
  · rw [he 5000 (by omega)]; exact h2
  · rw [e1, e2]; exact h3
  · rw [he (6000 + i) (by omega)]; exact h4 i hi
/-! ===== words ===== -/
def gW : List Cond := lw_tbl.filter goodWord
theorem gW_good : ∀ w ∈ gW, (w.onTables && w.keeps) = true ∨ ∃ ty, w = .arrayClass ty := fun w h => good_of_word (List.mem_filter.mp h).2
theorem gW_in {w : Cond} (i : Nat) (h : lw_tbl[i]? = some w) (hg : goodWord w = true) : w ∈ gW := List.mem_filter.mpr ⟨List.mem_of_getElem? h, hg⟩
theorem gW_sub : ∀ w ∈ gW, w ∈ lw_tbl := fun w h => (List.mem_filter.mp h).1
