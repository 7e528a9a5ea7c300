def va_AOA (t : FieldType) (U : State) : Prop := (Cond.arrayOver (.array t)).before #[] U = true
theorem va_AOA.use {t : FieldType} {A : Array Value} {U : State} (h : va_AOA t U) : (Cond.arrayOver (.array t)).before A U = true := h
/-! ===== BEGIN new T[n][m]: the outer array a place, the inner ones among the pooled ===== -/
/-- f, but v at every address of l -/
def vr_up {α : Type} (f : Nat → α) (l : List Nat) (v : α) : Nat → α := fun a => if a ∈ l then v else f a
theorem vr_up_in {α : Type} {f : Nat → α} {l : List Nat} {v : α} {a : Nat} (h : a ∈ l) : vr_up f l v a = v := if_pos h
theorem vr_up_ne {α : Type} {f : Nat → α} {l : List Nat} {v : α} {a : Nat} (h : a ∉ l) : vr_up f l v a = f a := if_neg h
theorem vr_rows {L l : List Nat} {f : Nat → va_E} {e : va_E} (h : ∀ a, a ∈ l → a ∉ L) : va_pl L f ++ l.map (fun a => (a, e)) = va_pl (L ++ l) (vr_up f l e) := by
  unfold va_pl
  rw [List.map_append]
  congr 1
  · apply List.map_congr_left
    intro a ha
    rw [vr_up_ne (fun q => h a q ha)]
  · apply List.map_congr_left
    intro a ha
    rw [vr_up_in ha]
theorem vr_lay {X rows : va_W} {x : Nat × va_E} {pl : va_W} {D : va_G} {cl : List vw_C} {H : Heap} (hP : va_P D cl (((X ++ pl) ++ [x]) ++ rows) H) : va_P D cl ((X ++ [x]) ++ (pl ++ rows)) H := by
  rw [List.append_assoc (X ++ pl)] at hP
  have h := va_P.swap hP
  rw [← List.append_assoc X] at h
  have h2 := va_P.swap h
  rw [List.append_assoc (X ++ [x])] at h2
  exact h2
theorem vr_layD {X rows : va_W} {x : Nat × va_E} {pl : va_W} {A : Nat → Prop} (hD : va_D A (((X ++ pl) ++ [x]) ++ rows)) : va_D A ((X ++ [x]) ++ (pl ++ rows)) := by
  rw [List.append_assoc (X ++ pl)] at hD
  have h := va_D.swap hD
  rw [← List.append_assoc X] at h
  have h2 := va_D.swap h
  rw [List.append_assoc (X ++ [x])] at h2
  exact h2
theorem vr_outer (c : ClassId) (N h0 : Nat) : ∀ i : Nat, Jvm.Free.Multi.outerC c N h0 i = arrV c N (fun j => va_rf (if j < i then some (h0 + 1 + j) else none))
  | 0 => by
    show ({ cls := c, slots := Array.replicate N .null, vm := .none } : Cell) = _
    rw [arrV_new]
    refine congrArg (arrV c N) (funext fun j => ?_)
    simp [va_rf]
  | i + 1 => by
    show (Jvm.Free.Multi.outerC c N h0 i).setSlot i (.ref (h0 + 1 + i)) = _
    rw [vr_outer c N h0 i, arrV_store]
    refine congrArg (arrV c N) (funext fun j => ?_)
    by_cases e : j = i
    · subst e
      simp [updV, va_rf]
    · by_cases h : j < i
      · simp [updV, e, h, Nat.lt_succ_of_lt h]
      · simp [updV, e, h, show ¬ j < i + 1 by omega]
section VGM
variable {p : Program} {l : Launch} {e : Env} {R : Room} {s : State} {m : MethodId} {args : Array Value} {below : List Frame} {meth : Method} {c : Code} {H : Heap} {locs : List Loc} {cells slots : Nat} {Q : State → Prop}
variable {cc : ByteArray} {pc : Nat} {ls : Array Slot} {rest : List Value} {D : va_G} {cl : List vw_C} {A : Nat → Prop} {a : Nat} {tys : List (ClassId × FieldType)} {ws : va_W} {H0 : Heap}
theorem va_mna {X : va_W} {L : List Nat} {f : Nat → va_E} {cc : ByteArray} (hexec : p.tables.exec = Jvm.exec) (hb : c.code = cc) {own : String} {index : Nat} {ty : FieldType} {cy : ClassId} (hown : s.vm.findClass own = some m.cls) (hclink : (Cond.classLink own index ("[" ++ (FieldType.array ty).toString)).before args s = true) (hover : va_AOA ty s) (harr : (Cond.arrayClass ty).before args s = true) (hcy : s.vm.findClass (FieldType.array ty).toString = some cy)
    (hK : va_K D cl tys s) (hP : va_P D cl (X ++ va_pl L f) H) (hD : va_D A (X ++ va_pl L f)) (hS : va_S A H0 H locs) (hA : ∀ q, H0.size ≤ q → A q) {n k : Int32} {N' K' : Nat} {z : vp_A} (hn : ¬ n < 0) (hk : ¬ k < 0) (hN : n.toNatClampNeg = N') (hM : k.toNatClampNeg = K')
    (hb1 : N' * 4 ≤ 536870912) (hb2 : K' * componentBytes ty ≤ 536870912) (hb3 : K' ≤ 536870912) (hdf : fits ty (defaultValue ty) = true) (hdd : (defaultValue ty).isDefault = true) (hcells : cells + (1 + N') ≤ R.cells) (hslots : slots + (N' + N' * K') ≤ R.slots) (hz : ∀ c : ClassId, Jvm.Free.Multi.innerC c K' (defaultValue ty) = vp_cell c z) (hdg : decode cc pc = .ok (.multianewarray index 2, 4))
    (kk : ∀ (q : Nat) (r : Nat → Nat) (cA : ClassId) (H1 : Heap), (∀ i j : Nat, i < N' → j < N' → r i = r j → i = j) → (∀ i : Nat, i < N' → r i ∉ L) → va_K D cl (tys ++ [(cA, .array ty)]) s →
      va_P D cl ((X ++ [(q, .inl (cA, N', .inr (.inr (.inr (.inr (fun i => if i < N' then some (r i) else none))))))]) ++ va_pl (L ++ (List.range N').map r) (vr_up f ((List.range N').map r) (.inl (cy, z)))) H1 → va_D A ((X ++ [(q, .inl (cA, N', .inr (.inr (.inr (.inr (fun i => if i < N' then some (r i) else none))))))]) ++ va_pl (L ++ (List.range N').map r) (vr_up f ((List.range N').map r) (.inl (cy, z)))) → va_S A H0 H1 locs →
      W p l e R s m args below meth c H1 locs (cells + 1 + N') (slots + N' + N' * K') Q (F0 m (pc + 4) ls (.ref q :: rest))) : W p l e R s m args below meth c H locs cells slots Q (F0 m pc ls (.int k :: .int n :: rest)) := by
  subst hN
  subst hM
  intro T hT Xs
  obtain ⟨vm₁, cA, comp, -, fA, fC, hO, -, X', step⟩ := Xs.multianewarray2F hexec hown hclink (va_AOA.use hover) harr (g := F0 m pc ls (.int k :: .int n :: rest)) rfl (by rw [hb]; exact hdg) rfl hn hk hb1 hb2 hb3 hdf hdd hcells hslots
  have ec : some cy = some comp := hcy.symm.trans fC
  cases ec
  generalize hF : Jvm.Free.Multi.fill (T.setVm vm₁) cA cy n.toNatClampNeg k.toNatClampNeg (defaultValue ty) n.toNatClampNeg = F at X' step
  have hTh : (T.setVm vm₁).heap = H := hT
  obtain ⟨f1, f2, -, -⟩ := Jvm.Free.Multi.fill_facts (T.setVm vm₁) cA cy n.toNatClampNeg k.toNatClampNeg (defaultValue ty) n.toNatClampNeg
  rw [hF, hTh] at f1 f2
  have hold : ∀ x : Nat, x < H.size → F.heap[x]? = H[x]? := fun x hx => by
    have := Jvm.Free.Multi.fill_old (T.setVm vm₁) cA cy n.toNatClampNeg k.toNatClampNeg (defaultValue ty) (a := x) (by rw [hTh]; exact hx) n.toNatClampNeg
    rw [hF, hTh] at this
    exact this
  have hrow : ∀ j : Nat, j < n.toNatClampNeg → F.heap[H.size + 1 + j]? = some (vp_cell cy z) := fun j hj => by
    have := Jvm.Free.Multi.fill_inner (T.setVm vm₁) cA cy n.toNatClampNeg k.toNatClampNeg (defaultValue ty) n.toNatClampNeg j hj
    rw [hF, hTh, hz] at this
    exact this
  have hout : Jvm.Free.Multi.outerC cA n.toNatClampNeg H.size n.toNatClampNeg = vp_cell cA (n.toNatClampNeg, .inr (.inr (.inr (.inr (fun i => if i < n.toNatClampNeg then some (H.size + 1 + i) else none))))) := by
    rw [vp_cell_q]
    exact vr_outer cA n.toNatClampNeg H.size n.toNatClampNeg
  rw [hout] at f2
  have hlt : ∀ a, a ∈ L → a < H.size := fun a ha => by
    obtain ⟨k9, hk9⟩ := va_pl_get (X := X) (f := f) ha
    exact (hP k9 _ hk9).lt
  have hnl : ∀ i : Nat, i < n.toNatClampNeg → H.size + 1 + i ∉ L := fun i _ h => by
    have := hlt _ h
    omega
  have hnm : ∀ a, a ∈ (List.range n.toNatClampNeg).map (fun i => H.size + 1 + i) → a ∉ L := fun a ha h => by
    obtain ⟨i, -, rfl⟩ := List.mem_map.mp ha
    have := hlt _ h
    omega
  have hP0 : va_P D cl (X ++ va_pl L f) F.heap := hP.kept (fun k9 x hx => hold x.1 ((hP k9 x hx).lt))
  have hP1 : va_P D cl ((X ++ va_pl L f) ++ [(H.size, .inl (cA, n.toNatClampNeg, .inr (.inr (.inr (.inr (fun i => if i < n.toNatClampNeg then some (H.size + 1 + i) else none))))))]) F.heap := hP0.app (fun k9 x hx => by
    have h0 : k9 < 1 := (List.getElem?_eq_some_iff.mp hx).1
    rw [show k9 = 0 by omega] at hx
    cases hx
    exact f2)
  have hP2 : va_P D cl (((X ++ va_pl L f) ++ [(H.size, .inl (cA, n.toNatClampNeg, .inr (.inr (.inr (.inr (fun i => if i < n.toNatClampNeg then some (H.size + 1 + i) else none))))))]) ++ ((List.range n.toNatClampNeg).map (fun i => H.size + 1 + i)).map (fun a => (a, .inl (cy, z)))) F.heap := hP1.app (fun k9 x hx => by
    obtain ⟨a, ha, rfl⟩ := List.mem_map.mp (List.mem_of_getElem? hx)
    obtain ⟨i, hi, rfl⟩ := List.mem_map.mp ha
    exact hrow i (List.mem_range.mp hi))
  have hD2 : va_D A (((X ++ va_pl L f) ++ [(H.size, .inl (cA, n.toNatClampNeg, .inr (.inr (.inr (.inr (fun i => if i < n.toNatClampNeg then some (H.size + 1 + i) else none))))))]) ++ ((List.range n.toNatClampNeg).map (fun i => H.size + 1 + i)).map (fun a => (a, .inl (cy, z)))) := by
    have hD1 := hD.push (e := .inl (cA, n.toNatClampNeg, .inr (.inr (.inr (.inr (fun i => if i < n.toNatClampNeg then some (H.size + 1 + i) else none)))))) hP rfl (hA _ hS.1)
    generalize hW1 : (X ++ va_pl L f) ++ [(H.size, .inl (cA, n.toNatClampNeg, .inr (.inr (.inr (.inr (fun i => if i < n.toNatClampNeg then some (H.size + 1 + i) else none))))))] = W1 at hD1 hP1 ⊢
    have hle : ∀ (k9 : Nat) (x : Nat × va_E), W1[k9]? = some x → x.1 ≤ H.size := fun k9 x hx => by
      rw [← hW1] at hx
      by_cases hl : k9 < (X ++ va_pl L f).length
      · rw [List.getElem?_append_left hl] at hx
        exact Nat.le_of_lt ((hP k9 x hx).lt)
      · rw [List.getElem?_append_right (by omega)] at hx
        have h0 : k9 - (X ++ va_pl L f).length < 1 := (List.getElem?_eq_some_iff.mp hx).1
        rw [show k9 - (X ++ va_pl L f).length = 0 by omega] at hx
        cases hx
        exact Nat.le_refl _
    have hr : ∀ (k9 : Nat) (x : Nat × va_E), (((List.range n.toNatClampNeg).map (fun i => H.size + 1 + i)).map (fun a => ((a, .inl (cy, z)) : Nat × va_E)))[k9]? = some x → x.1 = H.size + 1 + k9 := fun k9 x hx => by
      rw [List.getElem?_map, List.getElem?_map] at hx
      by_cases h9 : k9 < n.toNatClampNeg
      · rw [List.getElem?_range h9] at hx
        cases hx
        rfl
      · have hn0 : (List.range n.toNatClampNeg)[k9]? = none := List.getElem?_eq_none (by rw [List.length_range]; omega)
        rw [hn0] at hx
        cases hx
    refine ⟨fun i j x y hi hj hxy => ?_, fun k9 x hx => ?_⟩
    · by_cases h1 : i < W1.length <;> by_cases h2 : j < W1.length
      · rw [List.getElem?_append_left h1] at hi
        rw [List.getElem?_append_left h2] at hj
        exact hD1.1 i j x y hi hj hxy
      · rw [List.getElem?_append_left h1] at hi
        rw [List.getElem?_append_right (by omega)] at hj
        have := hle _ _ hi
        have := hr _ _ hj
        omega
      · rw [List.getElem?_append_right (by omega)] at hi
        rw [List.getElem?_append_left h2] at hj
        have := hle _ _ hj
        have := hr _ _ hi
        omega
      · rw [List.getElem?_append_right (by omega)] at hi hj
        have := hr _ _ hi
        have := hr _ _ hj
        omega
    · by_cases h1 : k9 < W1.length
      · rw [List.getElem?_append_left h1] at hx
        exact hD1.2 k9 x hx
      · rw [List.getElem?_append_right (by omega)] at hx
        have := hr _ _ hx
        exact hA _ (by have := hS.1; omega)
  have hAr : ArrOfT s cA (.array ty) := fun N9 z9 => by
    obtain ⟨-, k9, hk9, cm9, hkk9⟩ := (hO 0 0 0).1
    exact ⟨(fun q hq => by cases hq), k9, hk9, cm9, hkk9⟩
  have hK2 : va_K D cl (tys ++ [(cA, .array ty)]) s := ⟨hK.1, fun k9 x hx => by
    by_cases hl : k9 < tys.length
    · rw [List.getElem?_append_left hl] at hx
      exact hK.2 k9 x hx
    · rw [List.getElem?_append_right (by omega)] at hx
      have h0 : k9 - tys.length < 1 := (List.getElem?_eq_some_iff.mp hx).1
      rw [show k9 - tys.length = 0 by omega] at hx
      cases hx
      exact ⟨hAr, fA⟩⟩
  obtain ⟨t, a1, b1⟩ := kk H.size (fun i => H.size + 1 + i) cA F.heap (fun i j _ _ h => by have h9 : H.size + 1 + i = H.size + 1 + j := h; omega) hnl hK2 (by rw [← vr_rows hnm]; exact vr_lay hP2) (by rw [← vr_rows hnm]; exact vr_layD hD2) ⟨by rw [f1]; have := hS.1; omega, fun x h1 h2 => (hold x (Nat.lt_of_lt_of_le h1 hS.1)).trans (hS.2.1 x h1 h2), hS.2.2⟩ F rfl X'
  refine ⟨t, step t ?_, b1⟩
  have e : T.heap.size = H.size := by rw [hT]
  rw [e]
  exact a1
end VGM
/-! ===== END ===== -/
/-! ===== new cells: their numbers follow, their addresses come ===== -/
def ov_nr (a b : Nat) (v : Value) : Bool := match v with
  | .ref i => decide (i < a) || decide (b ≤ i)
  | _ => true
def ov_nq (a b : Nat) (o : Option Nat) : Bool := match o with
  | none => true
  | some i => decide (i < a) || decide (b ≤ i)
def ov_frS (a b : Nat) (S : ovSh) : Bool := S.all (fun c => c.2.2.all (ov_nq a b))
def ov_frV (a b : Nat) (st : List Value) : Bool := st.all (ov_nr a b)
def ov_frL (a b : Nat) (L : List (Nat × Value)) : Bool := L.all (fun q => ov_nr a b q.2)
theorem ov_cv_ad {ad ad' : Nat → Nat} {a b : Nat} (he : ∀ i, i < a ∨ b ≤ i → ad' i = ad i) {v : Value} (h : ov_nr a b v = true) : ov_cv ad' v = ov_cv ad v := by
  cases v with
  | ref i =>
    simp only [ov_nr, Bool.or_eq_true, decide_eq_true_eq] at h
    show Value.ref (ad' i) = Value.ref (ad i)
    rw [he i h]
  | _ => rfl
theorem ov_st_ad {ad ad' : Nat → Nat} {a b : Nat} (he : ∀ i, i < a ∨ b ≤ i → ad' i = ad i) {st : List Value} (h : ov_frV a b st = true) : st.map (ov_cv ad') = st.map (ov_cv ad) := by
  apply List.map_congr_left
  intro v hv
  exact ov_cv_ad he (List.all_eq_true.mp h v hv)
theorem ov_L_ad {ad ad' : Nat → Nat} {a b : Nat} (he : ∀ i, i < a ∨ b ≤ i → ad' i = ad i) {L : List (Nat × Value)} (h : ov_frL a b L = true) : L.map (ov_lc ad') = L.map (ov_lc ad) := by
  apply List.map_congr_left
  intro q hq
  show (q.1, ov_cv ad' q.2) = (q.1, ov_cv ad q.2)
  rw [ov_cv_ad he (List.all_eq_true.mp h q hq)]
theorem ov_rq_ad {ad ad' : Nat → Nat} {a b : Nat} (he : ∀ i, i < a ∨ b ≤ i → ad' i = ad i) {j : Nat} (h : ov_nq a b (some j) = true) : ov_rq ad' j = ov_rq ad j := by
  simp only [ov_nq, Bool.or_eq_true, decide_eq_true_eq] at h
  unfold ov_rq
  rw [he j h]
theorem ov_fl_ad {ad ad' : Nat → Nat} {a b : Nat} (he : ∀ i, i < a ∨ b ≤ i → ad' i = ad i) (f : Nat → Int32) : ∀ (rs : List (Option Nat)) (k : Nat), rs.all (ov_nq a b) = true → ov_fl ad' f k rs = ov_fl ad f k rs
  | [], k, _ => rfl
  | x :: r, k, h => by
    rw [List.all_cons, Bool.and_eq_true] at h
    rw [ov_fl, ov_fl, ov_fl_ad he f r (k + 1) h.2]
    cases x with
    | none => rfl
    | some j =>
      show va_rf (ov_rq ad' j) :: _ = va_rf (ov_rq ad j) :: _
      rw [ov_rq_ad he h.1]
theorem ov_ce_ad {cy : Nat → ClassId} {ad ad' : Nat → Nat} {a b : Nat} (he : ∀ i, i < a ∨ b ≤ i → ad' i = ad i) (f : Nat → Int32) {c : ovSc} (h : c.2.2.all (ov_nq a b) = true) : ov_ce cy ad' f c = ov_ce cy ad f c := by
  unfold ov_ce
  rw [ov_fl_ad he f c.2.2 0 h]
  have e2 : (fun k : Nat => ((c.2.2[k]?).getD none).bind (ov_rq ad')) = (fun k : Nat => ((c.2.2[k]?).getD none).bind (ov_rq ad)) := by
    funext k
    cases hk : c.2.2[k]? with
    | none => rfl
    | some o =>
      cases o with
      | none => rfl
      | some j => exact ov_rq_ad he (List.all_eq_true.mp h _ (List.mem_of_getElem? hk))
  rw [e2]
theorem ov_ws_ad {cy : Nat → ClassId} {ad ad' : Nat → Nat} {a b : Nat} (he : ∀ i, i < a ∨ b ≤ i → ad' i = ad i) {σ σ' : ovSt} (hs : ∀ i, i < a → σ' i = σ i) : ∀ (S : ovSh) (i : Nat), i + S.length ≤ a → ov_frS a b S = true → ov_ws cy ad' σ' i S = ov_ws cy ad σ i S
  | [], i, _, _ => rfl
  | c :: r, i, hl, h => by
    rw [List.length_cons] at hl
    unfold ov_frS at h
    rw [List.all_cons, Bool.and_eq_true] at h
    rw [ov_ws, ov_ws, ov_ws_ad he hs r (i + 1) (by omega) h.2, he i (Or.inl (by omega)), hs i (by omega), ov_ce_ad he (σ i) h.1]
theorem ov_ws_app (cy : Nat → ClassId) (ad : Nat → Nat) (σ : ovSt) : ∀ (S T : ovSh) (i : Nat), ov_ws cy ad σ i (S ++ T) = ov_ws cy ad σ i S ++ ov_ws cy ad σ (i + S.length) T
  | [], T, i => rfl
  | c :: r, T, i => by
    rw [List.cons_append, ov_ws, ov_ws, ov_ws_app cy ad σ r T (i + 1), List.cons_append, List.length_cons, show i + 1 + r.length = i + (r.length + 1) by omega]
def ov_ad1 (ad : Nat → Nat) (n q : Nat) : Nat → Nat := fun i => if i = n then q else ad i
theorem ov_ad1_ne (ad : Nat → Nat) (n q : Nat) : ∀ i, i < n ∨ n + 1 ≤ i → ov_ad1 ad n q i = ad i := fun i h => if_neg (by omega)
theorem ov_ad1_eq (ad : Nat → Nat) (n q : Nat) : ov_ad1 ad n q n = q := if_pos rfl
/-- a shape that grew by one cell -/
theorem ov_grow {cy : Nat → ClassId} {ad : Nat → Nat} {σ : ovSt} {S : ovSh} {n q : Nat} (hn : S.length = n) (hfr : ov_frS n (n + 1) S = true) {c : ovSc} (hc : c.2.2.all (ov_nq n (n + 1)) = true) : ov_ws cy (ov_ad1 ad n q) (ov_row σ n (fun _ => 0)) 0 (S ++ [c]) = ov_ws cy ad σ 0 S ++ [(q, ov_ce cy ad (fun _ => 0) c)] := by
  rw [ov_ws_app, ov_ws_ad (a := n) (b := n + 1) (ov_ad1_ne ad n q) (σ := σ) (fun i h => by simp [ov_row, Nat.ne_of_lt h]) S 0 (by omega) hfr, hn]
  congr 1
  show [(ov_ad1 ad n q (0 + n), ov_ce cy (ov_ad1 ad n q) (ov_row σ n (fun _ => 0) (0 + n)) c)] = _
  rw [Nat.zero_add, ov_ad1_eq, ov_ce_ad (ov_ad1_ne ad n q) _ hc]
  simp [ov_row]
theorem ov_cA {D : va_G} {cl : List vw_C} {tys : List (ClassId × FieldType)} {s : State} {ty : FieldType} {c c' : ClassId} (h1 : va_RA s c ty) (h2 : va_RA s c' ty) : c = c' := by
  cases ty with
  | object C =>
    obtain ⟨_, _, _, _, _, e1⟩ := h1
    obtain ⟨_, _, _, _, _, e2⟩ := h2
    exact Option.some.inj (e1.symm.trans e2)
  | _ => exact Option.some.inj (Eq.trans (Eq.symm h1) h2)
/-- may this method make cells here -/
def ov_mk (Z : ovZ) (n0 n : Nat) : Prop := Z.2.2.2.2 = some n0 ∧ n0 ≤ n ∧ n + 20 < 5000
theorem ov_ag1 {Z : ovZ} {n0 n q : Nat} {ad0 ad : Nat → Nat} (hm : ov_mk Z n0 n) (h : ov_ag Z.2.2.2.2 ad0 ad) : ov_ag Z.2.2.2.2 ad0 (ov_ad1 ad n q) := by
  rw [hm.1] at h ⊢
  intro i hi
  have h3 := hm.2.1
  have h4 := hm.2.2
  rw [ov_ad1_ne ad n q i (by omega)]
  exact h i hi
section OVN
variable {Z : ovZ} {k : ovK} {n : Nat × Nat} {S : ovSh} {pc : Nat} {L : List (Nat × Value)} {st : List Value} {σ : ovSt} {index i n0 : Nat}
theorem ov_new {ci N : Nat} {C : String} {T : u_T} (rs : List (Option Nat)) (ty0 : Nat → FieldType) (hex : ∀ ad A s, Z.2.2.1 ad A s → ∀ ad', (∀ i, 5000 ≤ i → ad' i = ad i) → Z.2.2.1 ad' A s) (hd : decode Z.2.1.2.1 pc = .ok (.new index, 3)) (hw : Cond.classLink Z.2.1.1.cls index C ∈ gW ∧ Cond.instantiable C N ∈ gW ∧ Cond.initialized C ∈ gW) (hc : vwCl[ci]? = some (C, T, N)) (hty : ∀ k, k < N → parseFieldDescriptor (T k).2.2.1 = some (ty0 k)) (hfs : ∀ ad : Nat → Nat, ∀ j, j < N → defaultValue (ty0 j) = vp_V (ov_fl ad (fun _ => 0) 0 rs) j) (hi : S.length = i) (hm : ov_mk Z n0 i) (hrs : rs.all (ov_nq i (i + 1)) = true) (hfr : ov_frS i (i + 1) S = true) (hL : ov_frL i (i + 1) L = true) (hst : ov_frV i (i + 1) st = true) (h1 : n.1 + 1 ≤ Z.2.2.2.1.1) (h2 : n.2 + N ≤ Z.2.2.2.1.2) (S' : ovSh) (hS' : S ++ [(ci, 0, rs)] = S')
    (h : ov_V Z k (n.1 + 1, n.2 + N) S' (pc + 3) L (.ref i :: st) (ov_row σ i (fun _ => 0))) : ov_V Z k n S pc L st σ := by
  intro p l e R s m args below meth c Q D cy A ad0 ad H locs ls hC hT hE hW hl
  subst hS'
  refine va_new (fs := ov_fl ad (fun _ => 0) 0 rs) hC.1 hC.2.1 hC.2.2.2.2.1 (ov_gc hc) ty0 hty hC.2.2.2.1 (hC.2.2.2.2.1 _ hw.1) (hC.2.2.2.2.1 _ hw.2.1) (hC.2.2.2.2.1 _ hw.2.2) hE.1 hW.1 hW.2.1 hW.2.2 hE.2.1 hc (hfs ad) (Nat.le_trans h1 hC.2.2.2.2.2.2.2.2.1) (Nat.le_trans h2 hC.2.2.2.2.2.2.2.2.2) hd (fun q H1 hP1 hD1 hS1 => ?_)
  have he := ov_ad1_ne ad i q
  have e0 : ov_ce cy ad (fun _ => 0) (ci, 0, rs) = .inr (ci, ov_fl ad (fun _ => 0) 0 rs) := by simp [ov_ce, ov_cl7 hc]
  rw [← e0, ← ov_grow (σ := σ) hi hfr hrs] at hP1 hD1
  have e5 : ∀ j, 5000 ≤ j → ov_ad1 ad i q j = ad j := fun j hj => he j (by have := hm.2.2; omega)
  have hV := h p l e R s m args below meth c Q D cy A ad0 (ov_ad1 ad i q) H1 locs ls hC hT ⟨hE.1, hE.2.1, hE.2.2.1.ad e5, hex ad A s hE.2.2.2.1 _ e5, ov_ag1 hm hE.2.2.2.2⟩ ⟨hP1, hD1, hS1⟩ (by rw [ov_L_ad he hL]; exact hl)
  have e6 : (Value.ref i :: st).map (ov_cv (ov_ad1 ad i q)) = .ref q :: st.map (ov_cv ad) := by
    rw [List.map_cons, ov_st_ad he hst]
    show Value.ref (ov_ad1 ad i q i) :: _ = _
    rw [ov_ad1_eq]
  rw [e6] at hV
  exact hV
theorem ov_newarr_int {x : Int32} (N : Nat) (hex : ∀ ad A s, Z.2.2.1 ad A s → ∀ ad', (∀ i, 5000 ≤ i → ad' i = ad i) → Z.2.2.1 ad' A s) (hd : decode Z.2.1.2.1 pc = .ok (.newarray .int, 2)) (hw : Cond.arrayClass .int ∈ gW) (hx : ¬ x < 0) (hN : x.toNatClampNeg = N) (hby : N * componentBytes .int ≤ 536870912) (hi : S.length = i) (hm : ov_mk Z n0 i) (hfr : ov_frS i (i + 1) S = true) (hL : ov_frL i (i + 1) L = true) (hst : ov_frV i (i + 1) st = true) (h1 : n.1 + 1 ≤ Z.2.2.2.1.1) (h2 : n.2 + N ≤ Z.2.2.2.1.2) (S' : ovSh) (hS' : S ++ [(9, N, [])] = S')
    (h : ov_V Z k (n.1 + 1, n.2 + N) S' (pc + 2) L (.ref i :: st) (ov_row σ i (fun _ => 0))) : ov_V Z k n S pc L (.int x :: st) σ := by
  intro p l e R s m args below meth c Q D cy A ad0 ad H locs ls hC hT hE hW hl
  subst hS'
  refine va_newa (atype := .int) (ty := .int) (a0 := (N, .inl (fun _ => 0))) hC.1 hC.2.1 (hC.2.2.2.2.1 _ hw) rfl hE.1 hW.1 hW.2.1 hW.2.2 hE.2.1 (fun _ => rfl) hx hN hby (Nat.le_trans h1 hC.2.2.2.2.2.2.2.2.1) (Nat.le_trans h2 hC.2.2.2.2.2.2.2.2.2) hd (fun q cA H1 hK1 hP1 hD1 hS1 => ?_)
  have he := ov_ad1_ne ad i q
  have eA : cA = cy 9 := ov_cA (D := D) (cl := vwCl) (tys := []) (hK1.2 7 _ rfl).2 (hE.1.2 2 _ rfl).2
  subst eA
  have e0 : ov_ce cy ad (fun _ => 0) (9, N, []) = .inl (cy 9, N, .inl (fun _ => 0)) := by simp [ov_ce]
  rw [← e0, ← ov_grow (σ := σ) hi hfr rfl] at hP1 hD1
  have e5 : ∀ j, 5000 ≤ j → ov_ad1 ad i q j = ad j := fun j hj => he j (by have := hm.2.2; omega)
  have hV := h p l e R s m args below meth c Q D cy A ad0 (ov_ad1 ad i q) H1 locs ls hC hT ⟨hE.1, hE.2.1, hE.2.2.1.ad e5, hex ad A s hE.2.2.2.1 _ e5, ov_ag1 hm hE.2.2.2.2⟩ ⟨hP1, hD1, hS1⟩ (by rw [ov_L_ad he hL]; exact hl)
  have e6 : (Value.ref i :: st).map (ov_cv (ov_ad1 ad i q)) = .ref q :: st.map (ov_cv ad) := by
    rw [List.map_cons, ov_st_ad he hst]
    show Value.ref (ov_ad1 ad i q i) :: _ = _
    rw [ov_ad1_eq]
  rw [e6] at hV
  exact hV
theorem ov_newarr_byte {x : Int32} (N : Nat) (hex : ∀ ad A s, Z.2.2.1 ad A s → ∀ ad', (∀ i, 5000 ≤ i → ad' i = ad i) → Z.2.2.1 ad' A s) (hd : decode Z.2.1.2.1 pc = .ok (.newarray .byte, 2)) (hw : Cond.arrayClass .byte ∈ gW) (hx : ¬ x < 0) (hN : x.toNatClampNeg = N) (hby : N * componentBytes .byte ≤ 536870912) (hi : S.length = i) (hm : ov_mk Z n0 i) (hfr : ov_frS i (i + 1) S = true) (hL : ov_frL i (i + 1) L = true) (hst : ov_frV i (i + 1) st = true) (h1 : n.1 + 1 ≤ Z.2.2.2.1.1) (h2 : n.2 + N ≤ Z.2.2.2.1.2) (S' : ovSh) (hS' : S ++ [(7, N, [])] = S')
    (h : ov_V Z k (n.1 + 1, n.2 + N) S' (pc + 2) L (.ref i :: st) (ov_row σ i (fun _ => 0))) : ov_V Z k n S pc L (.int x :: st) σ := by
  intro p l e R s m args below meth c Q D cy A ad0 ad H locs ls hC hT hE hW hl
  subst hS'
  refine va_newa (atype := .byte) (ty := .byte) (a0 := (N, .inl (fun _ => 0))) hC.1 hC.2.1 (hC.2.2.2.2.1 _ hw) rfl hE.1 hW.1 hW.2.1 hW.2.2 hE.2.1 (fun _ => rfl) hx hN hby (Nat.le_trans h1 hC.2.2.2.2.2.2.2.2.1) (Nat.le_trans h2 hC.2.2.2.2.2.2.2.2.2) hd (fun q cA H1 hK1 hP1 hD1 hS1 => ?_)
  have he := ov_ad1_ne ad i q
  have eA : cA = cy 7 := ov_cA (D := D) (cl := vwCl) (tys := []) (hK1.2 7 _ rfl).2 (hE.1.2 0 _ rfl).2
  subst eA
  have e0 : ov_ce cy ad (fun _ => 0) (7, N, []) = .inl (cy 7, N, .inl (fun _ => 0)) := by simp [ov_ce]
  rw [← e0, ← ov_grow (σ := σ) hi hfr rfl] at hP1 hD1
  have e5 : ∀ j, 5000 ≤ j → ov_ad1 ad i q j = ad j := fun j hj => he j (by have := hm.2.2; omega)
  have hV := h p l e R s m args below meth c Q D cy A ad0 (ov_ad1 ad i q) H1 locs ls hC hT ⟨hE.1, hE.2.1, hE.2.2.1.ad e5, hex ad A s hE.2.2.2.1 _ e5, ov_ag1 hm hE.2.2.2.2⟩ ⟨hP1, hD1, hS1⟩ (by rw [ov_L_ad he hL]; exact hl)
  have e6 : (Value.ref i :: st).map (ov_cv (ov_ad1 ad i q)) = .ref q :: st.map (ov_cv ad) := by
    rw [List.map_cons, ov_st_ad he hst]
    show Value.ref (ov_ad1 ad i q i) :: _ = _
    rw [ov_ad1_eq]
  rw [e6] at hV
  exact hV
theorem ov_newarr_char {x : Int32} (N : Nat) (hex : ∀ ad A s, Z.2.2.1 ad A s → ∀ ad', (∀ i, 5000 ≤ i → ad' i = ad i) → Z.2.2.1 ad' A s) (hd : decode Z.2.1.2.1 pc = .ok (.newarray .char, 2)) (hw : Cond.arrayClass .char ∈ gW) (hx : ¬ x < 0) (hN : x.toNatClampNeg = N) (hby : N * componentBytes .char ≤ 536870912) (hi : S.length = i) (hm : ov_mk Z n0 i) (hfr : ov_frS i (i + 1) S = true) (hL : ov_frL i (i + 1) L = true) (hst : ov_frV i (i + 1) st = true) (h1 : n.1 + 1 ≤ Z.2.2.2.1.1) (h2 : n.2 + N ≤ Z.2.2.2.1.2) (S' : ovSh) (hS' : S ++ [(8, N, [])] = S')
    (h : ov_V Z k (n.1 + 1, n.2 + N) S' (pc + 2) L (.ref i :: st) (ov_row σ i (fun _ => 0))) : ov_V Z k n S pc L (.int x :: st) σ := by
  intro p l e R s m args below meth c Q D cy A ad0 ad H locs ls hC hT hE hW hl
  subst hS'
  refine va_newa (atype := .char) (ty := .char) (a0 := (N, .inl (fun _ => 0))) hC.1 hC.2.1 (hC.2.2.2.2.1 _ hw) rfl hE.1 hW.1 hW.2.1 hW.2.2 hE.2.1 (fun _ => rfl) hx hN hby (Nat.le_trans h1 hC.2.2.2.2.2.2.2.2.1) (Nat.le_trans h2 hC.2.2.2.2.2.2.2.2.2) hd (fun q cA H1 hK1 hP1 hD1 hS1 => ?_)
  have he := ov_ad1_ne ad i q
  have eA : cA = cy 8 := ov_cA (D := D) (cl := vwCl) (tys := []) (hK1.2 7 _ rfl).2 (hE.1.2 1 _ rfl).2
  subst eA
  have e0 : ov_ce cy ad (fun _ => 0) (8, N, []) = .inl (cy 8, N, .inl (fun _ => 0)) := by simp [ov_ce]
  rw [← e0, ← ov_grow (σ := σ) hi hfr rfl] at hP1 hD1
  have e5 : ∀ j, 5000 ≤ j → ov_ad1 ad i q j = ad j := fun j hj => he j (by have := hm.2.2; omega)
  have hV := h p l e R s m args below meth c Q D cy A ad0 (ov_ad1 ad i q) H1 locs ls hC hT ⟨hE.1, hE.2.1, hE.2.2.1.ad e5, hex ad A s hE.2.2.2.1 _ e5, ov_ag1 hm hE.2.2.2.2⟩ ⟨hP1, hD1, hS1⟩ (by rw [ov_L_ad he hL]; exact hl)
  have e6 : (Value.ref i :: st).map (ov_cv (ov_ad1 ad i q)) = .ref q :: st.map (ov_cv ad) := by
    rw [List.map_cons, ov_st_ad he hst]
    show Value.ref (ov_ad1 ad i q i) :: _ = _
    rw [ov_ad1_eq]
  rw [e6] at hV
  exact hV
theorem ov_newarr_boolean {x : Int32} (N : Nat) (hex : ∀ ad A s, Z.2.2.1 ad A s → ∀ ad', (∀ i, 5000 ≤ i → ad' i = ad i) → Z.2.2.1 ad' A s) (hd : decode Z.2.1.2.1 pc = .ok (.newarray .boolean, 2)) (hw : Cond.arrayClass .boolean ∈ gW) (hx : ¬ x < 0) (hN : x.toNatClampNeg = N) (hby : N * componentBytes .boolean ≤ 536870912) (hi : S.length = i) (hm : ov_mk Z n0 i) (hfr : ov_frS i (i + 1) S = true) (hL : ov_frL i (i + 1) L = true) (hst : ov_frV i (i + 1) st = true) (h1 : n.1 + 1 ≤ Z.2.2.2.1.1) (h2 : n.2 + N ≤ Z.2.2.2.1.2) (S' : ovSh) (hS' : S ++ [(10, N, [])] = S')
    (h : ov_V Z k (n.1 + 1, n.2 + N) S' (pc + 2) L (.ref i :: st) (ov_row σ i (fun _ => 0))) : ov_V Z k n S pc L (.int x :: st) σ := by
  intro p l e R s m args below meth c Q D cy A ad0 ad H locs ls hC hT hE hW hl
  subst hS'
  refine va_newa (atype := .boolean) (ty := .boolean) (a0 := (N, .inl (fun _ => 0))) hC.1 hC.2.1 (hC.2.2.2.2.1 _ hw) rfl hE.1 hW.1 hW.2.1 hW.2.2 hE.2.1 (fun _ => rfl) hx hN hby (Nat.le_trans h1 hC.2.2.2.2.2.2.2.2.1) (Nat.le_trans h2 hC.2.2.2.2.2.2.2.2.2) hd (fun q cA H1 hK1 hP1 hD1 hS1 => ?_)
  have he := ov_ad1_ne ad i q
  have eA : cA = cy 10 := ov_cA (D := D) (cl := vwCl) (tys := []) (hK1.2 7 _ rfl).2 (hE.1.2 3 _ rfl).2
  subst eA
  have e0 : ov_ce cy ad (fun _ => 0) (10, N, []) = .inl (cy 10, N, .inl (fun _ => 0)) := by simp [ov_ce]
  rw [← e0, ← ov_grow (σ := σ) hi hfr rfl] at hP1 hD1
  have e5 : ∀ j, 5000 ≤ j → ov_ad1 ad i q j = ad j := fun j hj => he j (by have := hm.2.2; omega)
  have hV := h p l e R s m args below meth c Q D cy A ad0 (ov_ad1 ad i q) H1 locs ls hC hT ⟨hE.1, hE.2.1, hE.2.2.1.ad e5, hex ad A s hE.2.2.2.1 _ e5, ov_ag1 hm hE.2.2.2.2⟩ ⟨hP1, hD1, hS1⟩ (by rw [ov_L_ad he hL]; exact hl)
  have e6 : (Value.ref i :: st).map (ov_cv (ov_ad1 ad i q)) = .ref q :: st.map (ov_cv ad) := by
    rw [List.map_cons, ov_st_ad he hst]
    show Value.ref (ov_ad1 ad i q i) :: _ = _
    rw [ov_ad1_eq]
  rw [e6] at hV
  exact hV
theorem ov_anewR {x : Int32} (N : Nat) (hex : ∀ ad A s, Z.2.2.1 ad A s → ∀ ad', (∀ i, 5000 ≤ i → ad' i = ad i) → Z.2.2.1 ad' A s) (hd : decode Z.2.1.2.1 pc = .ok (.anewarray index, 3)) (hw : Cond.classLink Z.2.1.1.cls index RX1 ∈ gW) (hx : ¬ x < 0) (hN : x.toNatClampNeg = N) (hby : N * 4 ≤ 536870912) (hi : S.length = i) (hm : ov_mk Z n0 i) (hfr : ov_frS i (i + 1) S = true) (hL : ov_frL i (i + 1) L = true) (hst : ov_frV i (i + 1) st = true) (h1 : n.1 + 1 ≤ Z.2.2.2.1.1) (h2 : n.2 + N ≤ Z.2.2.2.1.2) (S' : ovSh) (hS' : S ++ [(11, N, [])] = S')
    (h : ov_V Z k (n.1 + 1, n.2 + N) S' (pc + 3) L (.ref i :: st) (ov_row σ i (fun _ => 0))) : ov_V Z k n S pc L (.int x :: st) σ := by
  intro p l e R s m args below meth c Q D cy A ad0 ad H locs ls hC hT hE hW hl
  subst hS'
  refine va_newq hC.1 hC.2.1 hC.2.2.2.1 (hC.2.2.2.2.1 _ hw) hE.2.2.1.2.2.2.2.1 hE.1 hW.1 hW.2.1 hW.2.2 hE.2.1 hx hN hby (Nat.le_trans h1 hC.2.2.2.2.2.2.2.2.1) (Nat.le_trans h2 hC.2.2.2.2.2.2.2.2.2) hd (fun q cA H1 hK1 hP1 hD1 hS1 => ?_)
  have he := ov_ad1_ne ad i q
  have eA : cA = cy 11 := ov_cA (D := D) (cl := vwCl) (tys := []) (hK1.2 7 _ rfl).2 (hE.1.2 4 _ rfl).2
  subst eA
  have e0 : ov_ce cy ad (fun _ => 0) (11, N, []) = .inl (cy 11, N, .inr (.inr (.inr (.inr (fun _ => none))))) := by simp [ov_ce]
  rw [← e0, ← ov_grow (σ := σ) hi hfr rfl] at hP1 hD1
  have e5 : ∀ j, 5000 ≤ j → ov_ad1 ad i q j = ad j := fun j hj => he j (by have := hm.2.2; omega)
  have hV := h p l e R s m args below meth c Q D cy A ad0 (ov_ad1 ad i q) H1 locs ls hC hT ⟨hE.1, hE.2.1, hE.2.2.1.ad e5, hex ad A s hE.2.2.2.1 _ e5, ov_ag1 hm hE.2.2.2.2⟩ ⟨hP1, hD1, hS1⟩ (by rw [ov_L_ad he hL]; exact hl)
  have e6 : (Value.ref i :: st).map (ov_cv (ov_ad1 ad i q)) = .ref q :: st.map (ov_cv ad) := by
    rw [List.map_cons, ov_st_ad he hst]
    show Value.ref (ov_ad1 ad i q i) :: _ = _
    rw [ov_ad1_eq]
  rw [e6] at hV
  exact hV
theorem ov_anewS {x : Int32} (N : Nat) (hex : ∀ ad A s, Z.2.2.1 ad A s → ∀ ad', (∀ i, 5000 ≤ i → ad' i = ad i) → Z.2.2.1 ad' A s) (hd : decode Z.2.1.2.1 pc = .ok (.anewarray index, 3)) (hw : Cond.classLink Z.2.1.1.cls index RX2 ∈ gW) (hx : ¬ x < 0) (hN : x.toNatClampNeg = N) (hby : N * 4 ≤ 536870912) (hi : S.length = i) (hm : ov_mk Z n0 i) (hfr : ov_frS i (i + 1) S = true) (hL : ov_frL i (i + 1) L = true) (hst : ov_frV i (i + 1) st = true) (h1 : n.1 + 1 ≤ Z.2.2.2.1.1) (h2 : n.2 + N ≤ Z.2.2.2.1.2) (S' : ovSh) (hS' : S ++ [(12, N, [])] = S')
    (h : ov_V Z k (n.1 + 1, n.2 + N) S' (pc + 3) L (.ref i :: st) (ov_row σ i (fun _ => 0))) : ov_V Z k n S pc L (.int x :: st) σ := by
  intro p l e R s m args below meth c Q D cy A ad0 ad H locs ls hC hT hE hW hl
  subst hS'
  refine va_newq hC.1 hC.2.1 hC.2.2.2.1 (hC.2.2.2.2.1 _ hw) hE.2.2.1.2.2.2.2.2.1 hE.1 hW.1 hW.2.1 hW.2.2 hE.2.1 hx hN hby (Nat.le_trans h1 hC.2.2.2.2.2.2.2.2.1) (Nat.le_trans h2 hC.2.2.2.2.2.2.2.2.2) hd (fun q cA H1 hK1 hP1 hD1 hS1 => ?_)
  have he := ov_ad1_ne ad i q
  have eA : cA = cy 12 := ov_cA (D := D) (cl := vwCl) (tys := []) (hK1.2 7 _ rfl).2 (hE.1.2 5 _ rfl).2
  subst eA
  have e0 : ov_ce cy ad (fun _ => 0) (12, N, []) = .inl (cy 12, N, .inr (.inr (.inr (.inr (fun _ => none))))) := by simp [ov_ce]
  rw [← e0, ← ov_grow (σ := σ) hi hfr rfl] at hP1 hD1
  have e5 : ∀ j, 5000 ≤ j → ov_ad1 ad i q j = ad j := fun j hj => he j (by have := hm.2.2; omega)
  have hV := h p l e R s m args below meth c Q D cy A ad0 (ov_ad1 ad i q) H1 locs ls hC hT ⟨hE.1, hE.2.1, hE.2.2.1.ad e5, hex ad A s hE.2.2.2.1 _ e5, ov_ag1 hm hE.2.2.2.2⟩ ⟨hP1, hD1, hS1⟩ (by rw [ov_L_ad he hL]; exact hl)
  have e6 : (Value.ref i :: st).map (ov_cv (ov_ad1 ad i q)) = .ref q :: st.map (ov_cv ad) := by
    rw [List.map_cons, ov_st_ad he hst]
    show Value.ref (ov_ad1 ad i q i) :: _ = _
    rw [ov_ad1_eq]
  rw [e6] at hV
  exact hV
theorem ov_fl_setr {ad : Nat → Nat} {f : Nat → Int32} {rs : List (Option Nat)} {k j : Nat} (hk : k < rs.length) (hj : ¬ j = 9999) : (ov_fl ad f 0 rs).set k (.ref (ad j)) = ov_fl ad f 0 (rs.set k (some j)) := by
  apply List.ext_getElem?
  intro q
  rw [ov_fl_get]
  by_cases hq : q = k
  · subst hq
    rw [List.getElem?_set_self (by rw [ov_fl_len]; exact hk), List.getElem?_set_self hk]
    simp [ov_fv, ov_rq, va_rf, hj]
  · rw [List.getElem?_set_ne (Ne.symm hq), List.getElem?_set_ne (Ne.symm hq), ov_fl_get]
theorem ov_ws_setc {cy : Nat → ClassId} {ad : Nat → Nat} {σ : ovSt} {S : ovSh} {i : Nat} (hi : i < S.length) (c' : ovSc) : (ov_ws cy ad σ 0 S).set i (ad i, ov_ce cy ad (σ i) c') = ov_ws cy ad σ 0 (S.set i c') := by
  apply List.ext_getElem?
  intro q
  rw [ov_ws_get]
  by_cases hq : q = i
  · subst hq
    rw [List.getElem?_set_self (by rw [ov_ws_len]; exact hi), List.getElem?_set_self hi]
    simp
  · rw [List.getElem?_set_ne (Ne.symm hq), List.getElem?_set_ne (Ne.symm hq), ov_ws_get]
theorem ov_putr {ci ln kf N j : Nat} {rs : List (Option Nat)} {C : String} {T : u_T} {ty : FieldType} (hd : decode Z.2.1.2.1 pc = .ok (.putfield index, 3)) (hw : Cond.fieldLink Z.2.1.1.cls index (T kf).1 (T kf).2.1 (T kf).2.2.1 ∈ gW) (hS : S[i]? = some (ci, ln, rs)) (hc : vwCl[ci]? = some (C, T, N)) (hk : kf < N) (hr : kf < rs.length) (hj : ¬ j = 9999) (hfin : (T kf).2.2.2 = true) (hini : Z.2.1.1.name = "<init>") (hdecl : (T kf).1 = Z.2.1.1.cls) (hp : parseFieldDescriptor (T kf).2.2.1 = some ty) (hn : ∀ a : Nat, narrow ty (.ref a) = .ref a) (hf : ∀ a : Nat, fits ty (.ref a) = true) (S' : ovSh) (hS' : S.set i (ci, ln, rs.set kf (some j)) = S') (h : ov_V Z k n S' (pc + 3) L st σ) : ov_V Z k n S pc L (.ref j :: .ref i :: st) σ := by
  intro p l e R s m args below meth c Q D cy A ad0 ad H locs ls hC hT hE hW hl
  subst hS'
  obtain ⟨ty0, hty, hnm⟩ := ov_gt hc
  refine va_putF (v := .ref (ad j)) hC.1 hC.2.1 hC.2.2.2.2.1 (ov_gc hc) ty0 hty hnm hC.2.2.2.1 hE.1 hW.1 hW.2.1 hW.2.2 i (ov_at_o hS (ov_cl7 hc)) hc kf hk (hC.2.2.2.2.1 _ hw) (fun _ h9 => h9) hfin (hC.2.2.2.2.2.1 hini) hdecl hp (hn _) (hf _) (by rw [ov_fl_len]; exact hr) hd (fun H1 locs1 hP1 hD1 hS1 => ?_)
  have e0 : ov_ce cy ad (σ i) (ci, ln, rs.set kf (some j)) = .inr (ci, (ov_fl ad (σ i) 0 rs).set kf (.ref (ad j))) := by
    rw [ov_fl_setr hr hj]
    simp [ov_ce, ov_cl7 hc]
  rw [← e0, ov_ws_setc (List.getElem?_eq_some_iff.mp hS).1] at hP1 hD1
  exact h p l e R s m args below meth c Q D cy A ad0 ad H1 locs1 ls hC hT hE ⟨hP1, hD1, hS1⟩ hl
theorem ov_aastR {ln j lj : Nat} {x : Int32} (q : Nat) {rs rj : List (Option Nat)} (hd : decode Z.2.1.2.1 pc = .ok (.aastore, 1)) (hS : S[i]? = some (11, ln, rs)) (hJ : S[j]? = some (1, lj, rj)) (hj : ¬ j = 9999) (hi : vp_in x ln) (hq : x.toNatClampNeg = q) (hr : rs.length = q) (S' : ovSh) (hS' : S.set i (11, ln, rs ++ [some j]) = S') (h : ov_V Z k n S' (pc + 1) L st σ) : ov_V Z k n S pc L (.ref j :: .int x :: .ref i :: st) σ := by
  intro p l e R s m args below meth c Q D cy A ad0 ad H locs ls hC hT hE hW hl
  subst hS'
  refine va_astq hC.1 hC.2.1 hE.1 hW.1 hW.2.1 hW.2.2 i 4 j 1 (r := vwCl[1]) (ov_at_q hS (by decide) (by decide)) rfl (ov_at_o hJ (by decide)) rfl hi hd (fun H1 locs1 hP1 hD1 hS1 => ?_)
  have ef : va_up (fun k : Nat => ((rs[k]?).getD none).bind (ov_rq ad)) x.toNatClampNeg (some (ad j)) = (fun k : Nat => (((rs ++ [some j])[k]?).getD none).bind (ov_rq ad)) := by
    funext z
    unfold va_up
    rw [hq]
    by_cases hz : z = q
    · subst hz
      rw [if_pos rfl, ← hr, List.getElem?_concat_length]
      simp [ov_rq, hj]
    · rw [if_neg hz]
      by_cases hlt : z < rs.length
      · rw [List.getElem?_append_left hlt]
      · have q1 : rs[z]? = none := List.getElem?_eq_none (by omega)
        have q2 : (rs ++ [some j])[z]? = none := List.getElem?_eq_none (by rw [List.length_append, List.length_singleton]; omega)
        show ((rs[z]?).getD none).bind (ov_rq ad) = _
        rw [q1, q2]
  rw [ef] at hP1 hD1
  have e0 : ov_ce cy ad (σ i) (11, ln, rs ++ [some j]) = .inl (cy 11, ln, .inr (.inr (.inr (.inr (fun k : Nat => (((rs ++ [some j])[k]?).getD none).bind (ov_rq ad)))))) := by simp [ov_ce]
  rw [← e0, ov_ws_setc (List.getElem?_eq_some_iff.mp hS).1] at hP1 hD1
  exact h p l e R s m args below meth c Q D cy A ad0 ad H1 locs1 ls hC hT hE ⟨hP1, hD1, hS1⟩ hl
theorem ov_aastS {ln j lj : Nat} {x : Int32} (q : Nat) {rs rj : List (Option Nat)} (hd : decode Z.2.1.2.1 pc = .ok (.aastore, 1)) (hS : S[i]? = some (12, ln, rs)) (hJ : S[j]? = some (2, lj, rj)) (hj : ¬ j = 9999) (hi : vp_in x ln) (hq : x.toNatClampNeg = q) (hr : rs.length = q) (S' : ovSh) (hS' : S.set i (12, ln, rs ++ [some j]) = S') (h : ov_V Z k n S' (pc + 1) L st σ) : ov_V Z k n S pc L (.ref j :: .int x :: .ref i :: st) σ := by
  intro p l e R s m args below meth c Q D cy A ad0 ad H locs ls hC hT hE hW hl
  subst hS'
  refine va_astq hC.1 hC.2.1 hE.1 hW.1 hW.2.1 hW.2.2 i 5 j 2 (r := vwCl[2]) (ov_at_q hS (by decide) (by decide)) rfl (ov_at_o hJ (by decide)) rfl hi hd (fun H1 locs1 hP1 hD1 hS1 => ?_)
  have ef : va_up (fun k : Nat => ((rs[k]?).getD none).bind (ov_rq ad)) x.toNatClampNeg (some (ad j)) = (fun k : Nat => (((rs ++ [some j])[k]?).getD none).bind (ov_rq ad)) := by
    funext z
    unfold va_up
    rw [hq]
    by_cases hz : z = q
    · subst hz
      rw [if_pos rfl, ← hr, List.getElem?_concat_length]
      simp [ov_rq, hj]
    · rw [if_neg hz]
      by_cases hlt : z < rs.length
      · rw [List.getElem?_append_left hlt]
      · have q1 : rs[z]? = none := List.getElem?_eq_none (by omega)
        have q2 : (rs ++ [some j])[z]? = none := List.getElem?_eq_none (by rw [List.length_append, List.length_singleton]; omega)
        show ((rs[z]?).getD none).bind (ov_rq ad) = _
        rw [q1, q2]
  rw [ef] at hP1 hD1
  have e0 : ov_ce cy ad (σ i) (12, ln, rs ++ [some j]) = .inl (cy 12, ln, .inr (.inr (.inr (.inr (fun k : Nat => (((rs ++ [some j])[k]?).getD none).bind (ov_rq ad)))))) := by simp [ov_ce]
  rw [← e0, ov_ws_setc (List.getElem?_eq_some_iff.mp hS).1] at hP1 hD1
  exact h p l e R s m args below meth c Q D cy A ad0 ad H1 locs1 ls hC hT hE ⟨hP1, hD1, hS1⟩ hl
theorem ov_obj {j : Nat} (hd : decode Z.2.1.2.1 pc = .ok (.invokespecial index, 3)) (hw : Cond.methodLink Z.2.1.1.cls index objectInit ∈ gW) (hd1 : 1 ≤ Z.1) (hst : (st.map fun v => v.category).sum ≤ 8) (h : ov_V Z k n S (pc + 3) L st σ) : ov_V Z k n S pc L (.ref j :: st) σ := by
  intro p l e R s m args below meth c Q D cy A ad0 ad H locs ls hC hT hE hW hl
  refine W.objInit hC.1 hC.2.1 hC.2.2.2.1 (hC.2.2.2.2.1 _ hw) (hC.2.2.2.2.1 _ qi_obj) (hC.2.2.2.2.1 _ qk_obj) rfl (hl.1.trans hC.2.2.1.symm) (rest := st.map (ov_cv ad)) rfl hd (Nat.le_trans hd1 hC.2.2.2.2.2.2.1) ?_ ?_
  · have h9 := lv_room (m := m) (pc := pc) (ls := ls) (rest := (Value.ref j :: st).map (ov_cv ad)) (st := st.map (ov_cv ad)) (by rw [ov_stsum]; exact hst)
    have h8 := hC.2.2.2.2.2.2.2.1
    have h7 : 40 ≤ 40 * Z.1 := by omega
    exact Nat.le_trans (Nat.add_le_add_right h9 12) (by omega)
  · exact h p l e R s m args below meth c Q D cy A ad0 ad H locs ls hC hT hE hW hl
end OVN
/-! ===== contracts of constructors ===== -/
def ov_Qn (S : ovSh) (σ : ovSt) (D : va_G) (cy : Nat → ClassId) (ad : Nat → Nat) (sz : Nat) (k : ovSh → ovSt → Prop) : Array Value → State → Outcome → State → Prop := fun _ st o t =>
  (∃ (S' : ovSh) (σ' : ovSt) (ad' : Nat → Nat), o = .returned none ∧ k S' σ' ∧ ov_ag (some S.length) ad ad' ∧ va_P D vwCl (ov_ws cy ad' σ' 0 S') t.heap ∧ va_D (va_A (ov_ws cy ad σ 0 S) sz) (ov_ws cy ad' σ' 0 S')) ∧ va_F (va_A (ov_ws cy ad σ 0 S) sz) st t
def ov_Cn (d : Nat) (y : MethodName) (cc : ByteArray) (nL : Nat) (M : Nat × Nat) (S : ovSh) (av : List Value) (σ : ovSt) (k : ovSh → ovSt → Prop) : Prop :=
  ∀ (l : Launch) (D : va_G) (cy : Nat → ClassId) (ad : Nat → Nat) (sz : Nat),
    Met l y (Cond.code y cc nL none :: gW) (ov_rm d M) (va_Pc (av.map (ov_cv ad)) (ov_Pm S σ D cy ad sz)) (ov_Qn S σ D cy ad sz k) M.1 M.2 (va_A (ov_ws cy ad σ 0 S) sz)
abbrev ovZn (d : Nat) (y : MethodName) (cc : ByteArray) (nL : Nat) (M : Nat × Nat) (n0 : Nat) : ovZ := (d, (y, cc, nL), ov_noEx, M, some n0)
abbrev ovKn (k : ovSh → ovSt → Prop) : ovK := fun r S σ => r = none ∧ k S σ
theorem ov_noEx_mv : ∀ ad A s, ov_noEx ad A s → ∀ ad', (∀ i, 5000 ≤ i → ad' i = ad i) → ov_noEx ad' A s := fun _ _ _ _ _ _ => trivial
theorem ov_Cn.of {d : Nat} {y : MethodName} {cc : ByteArray} {nL n0 : Nat} {M : Nat × Nat} {S : ovSh} {av : List Value} {σ : ovSt} {k : ovSh → ovSt → Prop} (hy : plainName y.cls = true) (hlen : (lg_sl av).length ≤ nL) (hn0 : S.length = n0)
    (h : ov_V (ovZn d y cc nL M n0) (ovKn k) (0, 0) S 0 (lv_args 0 av) [] σ) : ov_Cn d y cc nL M S av σ k := by
  subst hn0
  intro l D cy ad sz
  refine Met.ofW (cc := cc) (maxL := nL) (ret := none) hy rfl ?_
  intro p e s m args below meth c s₁ B hml hv
  obtain ⟨rfl, hsz, hP, hK, hD0, hKs⟩ := hv
  have hts := atoms_spec (ws := Cond.code y cc nL none :: gW) B.pre
  have hown : s.vm.findClass y.cls = some m.cls := findClass_of_methodNamed B.named
  have hlocks : meth.locks = false := B.notSynchronized
  have hr := B.returns
  subst hsz
  have hD := hD0.self (sz := s.heap.size)
  have hl := lv_entry (av.map (ov_cv ad)) (n := nL) (by rw [ov_sl_len]; exact hlen)
  rw [ov_args_map] at hl
  rw [lg_entry_eq]
  refine h p l e _ s m _ below meth c _ D cy (va_A (ov_ws cy ad σ 0 S) s.heap.size) ad ad s.heap [] _ ⟨B.exec, B.bytes, hml, hown, fun w hw => hts w (List.mem_cons_of_mem _ hw), fun hn => (name_of_methodNamed B.named B.method).1.trans hn, Nat.le_refl _, Nat.le_refl _, Nat.le_refl _, Nat.le_refl _⟩ ?_ ⟨hK, fun q h => Or.inr h, hKs, trivial, fun _ _ => rfl⟩ ⟨hP, hD, va_S.rf⟩ hl
  intro ad' H locs ls pc S' σ' r hag hW hk hd
  obtain ⟨rfl, hk⟩ := hk
  exact W.vret B.exec B.bytes hr (fun t ht _ => ⟨⟨S', σ', ad', rfl, hk, hag, by rw [ht]; exact hW.1, hW.2.1⟩, hW.2.2.F ht⟩) hW.2.2.2.2 hd
theorem ov_roomN {Z : ovZ} {p : Program} {s : State} {m : MethodId} {args : Array Value} {meth : Method} {c : Code} {R : Room} (hC : ov_C Z p s m args meth c R) {d nL : Nat} {M : Nat × Nat} (hd : d + 1 ≤ Z.1) (hn : nL ≤ 21) : (ov_rm d M).frames + 1 ≤ R.frames ∧ 8 + (nL + 11) + (ov_rm d M).locals ≤ R.locals := by
  have h1 := hC.2.2.2.2.2.2.1
  have h2 := hC.2.2.2.2.2.2.2.1
  refine ⟨Nat.le_trans hd h1, ?_⟩
  show 8 + (nL + 11) + 40 * d ≤ R.locals
  omega
/-- refs that are not new: below n, or constants -/
def ov_old (n : Nat) (v : Value) : Bool := match v with
  | .ref i => decide (i < n) || decide (5000 ≤ i)
  | _ => true
theorem ov_cv_old {ad ad' : Nat → Nat} {n : Nat} (he : ∀ i, i < n ∨ 5000 ≤ i → ad' i = ad i) {v : Value} (h : ov_old n v = true) : ov_cv ad' v = ov_cv ad v := by
  cases v with
  | ref i =>
    simp only [ov_old, Bool.or_eq_true, decide_eq_true_eq] at h
    show Value.ref (ad' i) = Value.ref (ad i)
    rw [he i h]
  | _ => rfl
section OVI
variable {Z : ovZ} {k : ovK} {n : Nat × Nat} {S : ovSh} {pc : Nat} {L : List (Nat × Value)} {st : List Value} {σ : ovSt} {index n0 d' nL b : Nat} {y : MethodName} {cc : ByteArray} {M : Nat × Nat} {k0 : ovSh → ovSt → Prop}
/-- behind a constructor's call -/
theorem ov_afterN (hex : ∀ ad A s, Z.2.2.1 ad A s → ∀ ad', (∀ i, 5000 ≤ i → ad' i = ad i) → Z.2.2.1 ad' A s) (hN : Z.2.2.2.2 = some n0) (hn0 : n0 ≤ S.length) (hL : L.all (fun q => ov_old S.length q.2) = true) (hst : st.all (ov_old S.length) = true) (h : ∀ S' σ', k0 S' σ' → ov_V Z k (n.1 + M.1, n.2 + M.2) S' (pc + 3) L st σ')
    {p : Program} {l : Launch} {e : Env} {R : Room} {s : State} {m : MethodId} {args : Array Value} {below : List Frame} {meth : Method} {c : Code} {Q : State → Prop} {D : va_G} {cy : Nat → ClassId} {A : Nat → Prop} {ad0 ad : Nat → Nat} {H : Heap} {locs : List Loc} {ls : Array Slot}
    (hC : ov_C Z p s m args meth c R) (hT : ov_Rt Z k D cy A ad0 p l e R s m args below meth c Q) (hE : ov_E Z D cy A ad0 ad s) (hW : ov_Wd D cy A ad S σ s H locs) (hl : lv_has ls Z.2.1.2.2 (L.map (ov_lc ad))) {st0 : List Value} {a : Array Value}
    (hr : va_Run p l e R s m args below meth c H locs n.1 n.2 M.1 M.2 (F0 m pc ls st0) (st.map (ov_cv ad)) (ov_Qn S σ D cy ad H.size k0 a) (va_A (ov_ws cy ad σ 0 S) H.size)) : W p l e R s m args below meth c H locs n.1 n.2 Q (F0 m pc ls st0) := by
  have hAB := ov_inA hW.2.1 hW.2.2 hE.2.1
  intro T hTH X
  obtain ⟨v, st₀, t, T', Lc, h0, X', hLc, e1, e2, ⟨⟨S', σ', ad', hv, hk0, hag, hP1, hD1⟩, hz, hkp⟩, step⟩ := hr T hTH X
  cases hv
  rw [h0] at hz hkp
  have hS1 : va_S A s.heap T'.heap (locs ++ Lc) := ⟨Nat.le_trans hW.2.2.1 (by rw [e1]; exact hz), fun q h1 h2 => by rw [e1, hkp q (Nat.lt_of_lt_of_le h1 hW.2.2.1) (fun z => h2 (hAB q z))]; exact hW.2.2.2.1 q h1 h2, fun q hq => by
    rcases List.mem_append.mp hq with h | h
    · exact hW.2.2.2.2 q h
    · exact hAB _ (hLc q h)⟩
  have he : ∀ i, i < S.length ∨ 5000 ≤ i → ad' i = ad i := hag
  have e5 : ∀ i, 5000 ≤ i → ad' i = ad i := fun i hi => he i (Or.inr hi)
  have hagZ : ov_ag Z.2.2.2.2 ad0 ad' := by
    have h9 := hE.2.2.2.2
    rw [hN] at h9 ⊢
    intro i hi
    exact (he i (by omega)).trans (h9 i hi)
  have eL : L.map (ov_lc ad') = L.map (ov_lc ad) := by
    apply List.map_congr_left
    intro q hq
    show (q.1, ov_cv ad' q.2) = (q.1, ov_cv ad q.2)
    rw [ov_cv_old he (List.all_eq_true.mp hL q hq)]
  have eS : st.map (ov_cv ad') = st.map (ov_cv ad) := by
    apply List.map_congr_left
    intro q hq
    exact ov_cv_old he (List.all_eq_true.mp hst q hq)
  obtain ⟨t2, a1, b1⟩ := h S' σ' hk0 p l e R s m args below meth c Q D cy A ad0 ad' T'.heap (locs ++ Lc) ls hC hT ⟨hE.1, hE.2.1, hE.2.2.1.ad e5, hex ad A s hE.2.2.2.1 _ e5, hagZ⟩ ⟨by rw [e1]; exact hP1, hD1.weaken (fun _ q _ z => hAB q.1 z), hS1⟩ (by rw [eL]; exact hl) T' rfl X'
  refine ⟨t2, step t2 ?_, b1⟩
  rw [eS] at a1
  exact a1
theorem ov_callI (As : List Value) (hex : ∀ ad A s, Z.2.2.1 ad A s → ∀ ad', (∀ i, 5000 ≤ i → ad' i = ad i) → Z.2.2.1 ad' A s) (hN : Z.2.2.2.2 = some n0) (hn0 : n0 ≤ S.length) (hd : decode Z.2.1.2.1 pc = .ok (.invokespecial index, 3)) (hc : ov_Cn d' y cc nL M S (.ref b :: As) σ k0) (hdd : d' + 1 ≤ Z.1) (hnL : nL ≤ 21) (hy : y.name = "<init>") (hq : Cond.methodLink Z.2.1.1.cls index y ∈ gW ∧ Cond.instanceMethod y ∈ gW ∧ Cond.initialized y.cls ∈ gW ∧ Cond.code y cc nL none ∈ gW) (hp : y.cls ≠ "java/lang/invoke/MethodHandle" ∧ y.cls ≠ "java/lang/invoke/VarHandle" ∧ (parseMethodDescriptor y.desc).map (fun d => d.parameters.length) = some As.length) (hsum : (st.map fun v => v.category).sum ≤ 8) (hL : L.all (fun q => ov_old S.length q.2) = true) (hst : st.all (ov_old S.length) = true) (h1 : n.1 + M.1 ≤ Z.2.2.2.1.1) (h2 : n.2 + M.2 ≤ Z.2.2.2.1.2)
    (h : ∀ S' σ', k0 S' σ' → ov_V Z k (n.1 + M.1, n.2 + M.2) S' (pc + 3) L st σ') : ov_V Z k n S pc L (As.reverse ++ .ref b :: st) σ := by
  intro p l e R s m args below meth c Q D cy A ad0 ad H locs ls hC hT hE hW hl
  refine ov_afterN hex hN hn0 hL hst h hC hT hE hW hl (va_runI (As := As.map (ov_cv ad)) (rest := st.map (ov_cv ad)) (b := ad b) ⟨hC.1, hC.2.1, hC.2.2.1, hC.2.2.2.1, hC.2.2.2.2.1⟩ (hc l D cy ad H.size) (cwI (As.map (ov_cv ad)).length hC.2.2.2.2.1 (ov_gg hq.2.2.2) rfl rfl rfl (hC.2.2.2.2.1 _ hq.2.2.1) (hC.2.2.2.2.1 _ hq.1) (hC.2.2.2.2.1 _ hq.2.1) hy (by rw [List.length_map]; exact hp) (ov_roomN hC hdd hnL)) ⟨ov_blind, fun U hU hWm => ⟨rfl, by rw [hU], by rw [hU]; exact hW.1, va_K.moved hWm.alike hE.1, hW.2.1.weaken (fun _ _ _ _ => trivial), hE.2.2.1.call hW.2.2 hWm hU (ov_inA hW.2.1 hW.2.2 hE.2.1)⟩⟩ rfl rfl hl.1 ?_ (lv_room (by rw [ov_stsum]; exact hsum)) hd ⟨Nat.le_trans h1 hC.2.2.2.2.2.2.2.2.1, Nat.le_trans h2 hC.2.2.2.2.2.2.2.2.2⟩)
  simp [ov_cv]
theorem ov_callIN (As : List Value) (hex : ∀ ad A s, Z.2.2.1 ad A s → ∀ ad', (∀ i, 5000 ≤ i → ad' i = ad i) → Z.2.2.1 ad' A s) (hN : Z.2.2.2.2 = some n0) (hn0 : n0 ≤ S.length) (hd : decode Z.2.1.2.1 pc = .ok (.invokespecial index, 3)) (hc : ov_Cn d' y cc nL M S (.ref b :: As) σ k0) (hdd : d' + 1 ≤ Z.1) (hnL : nL ≤ 21) (hy : y.name = "<init>") (hq : Cond.methodLinkNest Z.2.1.1.cls index y RX5 ∈ ov_nest ∧ Cond.instanceMethod y ∈ gW ∧ Cond.initialized y.cls ∈ gW ∧ Cond.code y cc nL none ∈ gW) (hp : y.cls ≠ "java/lang/invoke/MethodHandle" ∧ y.cls ≠ "java/lang/invoke/VarHandle" ∧ (parseMethodDescriptor y.desc).map (fun d => d.parameters.length) = some As.length) (hsum : (st.map fun v => v.category).sum ≤ 8) (hL : L.all (fun q => ov_old S.length q.2) = true) (hst : st.all (ov_old S.length) = true) (h1 : n.1 + M.1 ≤ Z.2.2.2.1.1) (h2 : n.2 + M.2 ≤ Z.2.2.2.1.2)
    (h : ∀ S' σ', k0 S' σ' → ov_V Z k (n.1 + M.1, n.2 + M.2) S' (pc + 3) L st σ') : ov_V Z k n S pc L (As.reverse ++ .ref b :: st) σ := by
  intro p l e R s m args below meth c Q D cy A ad0 ad H locs ls hC hT hE hW hl
  refine ov_afterN hex hN hn0 hL hst h hC hT hE hW hl (va_runIN (As := As.map (ov_cv ad)) (rest := st.map (ov_cv ad)) (b := ad b) ⟨hC.1, hC.2.1, hC.2.2.1, hC.2.2.2.1, hC.2.2.2.2.1⟩ (hc l D cy ad H.size) ⟨va_cnB (As.map (ov_cv ad)).length hC.2.2.2.2.1 (ov_gg hq.2.2.2) rfl rfl rfl (hE.2.2.1.2.2.2.1 _ hq.1) (hC.2.2.2.2.1 _ hq.2.2.1) (by rw [List.length_map]; exact hp) (ov_roomN hC hdd hnL), hy, hC.2.2.2.2.1 _ hq.2.1⟩ ⟨ov_blind, fun U hU hWm => ⟨rfl, by rw [hU], by rw [hU]; exact hW.1, va_K.moved hWm.alike hE.1, hW.2.1.weaken (fun _ _ _ _ => trivial), hE.2.2.1.call hW.2.2 hWm hU (ov_inA hW.2.1 hW.2.2 hE.2.1)⟩⟩ rfl rfl hl.1 ?_ (lv_room (by rw [ov_stsum]; exact hsum)) hd ⟨Nat.le_trans h1 hC.2.2.2.2.2.2.2.2.1, Nat.le_trans h2 hC.2.2.2.2.2.2.2.2.2⟩)
  simp [ov_cv]
end OVI
