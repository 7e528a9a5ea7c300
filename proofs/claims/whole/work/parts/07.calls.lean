/-! ===== contracts ===== -/
def ov_rm (d : Nat) (M : Nat × Nat) : Room := { frames := d, cells := M.1, slots := M.2, locals := 40 * d }
def ov_noEx : ovEx := fun _ _ _ => True
def ov_Pm (S : ovSh) (σ : ovSt) (D : va_G) (cy : Nat → ClassId) (ad : Nat → Nat) (sz : Nat) (U : State) : Prop :=
  U.heap.size = sz ∧ va_P D vwCl (ov_ws cy ad σ 0 S) U.heap ∧ va_K D vwCl (ov_ty cy) U ∧ va_D (fun _ => True) (ov_ws cy ad σ 0 S) ∧ ov_Kst ad (va_A (ov_ws cy ad σ 0 S) sz) U U.heap
def ov_Qm (S : ovSh) (σ : ovSt) (D : va_G) (cy : Nat → ClassId) (ad : Nat → Nat) (sz : Nat) (k : Option Value → ovSt → Prop) : Array Value → State → Outcome → State → Prop := fun _ st o t =>
  (∃ (r : Option Value) (σ' : ovSt), o = .returned (r.map (ov_cv ad)) ∧ k r σ' ∧ va_P D vwCl (ov_ws cy ad σ' 0 S) t.heap ∧ va_D (va_A (ov_ws cy ad σ 0 S) sz) (ov_ws cy ad σ' 0 S)) ∧ va_F (va_A (ov_ws cy ad σ 0 S) sz) st t
def ov_Ct (d : Nat) (y : MethodName) (cc : ByteArray) (nL : Nat) (rt : Option FieldType) (S : ovSh) (av : List Value) (σ : ovSt) (k : Option Value → ovSt → Prop) : Prop :=
  ∀ (l : Launch) (D : va_G) (cy : Nat → ClassId) (ad : Nat → Nat) (sz : Nat),
    Met l y (Cond.code y cc nL rt :: gW) (ov_rm d (0, 0)) (va_Pc (av.map (ov_cv ad)) (ov_Pm S σ D cy ad sz)) (ov_Qm S σ D cy ad sz k) 0 0 (va_A (ov_ws cy ad σ 0 S) sz)
def ov_okr (rt : Option FieldType) (r : Option Value) : Prop := match rt, r with
  | none, none => True
  | some .int, some (.int _) => True
  | some .boolean, some (.int v) => narrow .boolean (.int v) = .int v
  | some .byte, some (.int v) => narrow .byte (.int v) = .int v
  | some .char, some (.int v) => narrow .char (.int v) = .int v
  | some .long, some (.long _) => True
  | some (.object _), some (.ref _) => True
  | _, _ => False
theorem ov_sl_len (ad : Nat → Nat) (av : List Value) : (lg_sl (av.map (ov_cv ad))).length = (lg_sl av).length := by
  induction av with
  | nil => rfl
  | cons v av ih =>
    simp only [lg_sl, List.map_cons, List.flatMap_cons, List.length_append] at ih ⊢
    rw [ih, ov_cv_cat]
    by_cases hv : v.category = 2 <;> simp [hv]
theorem ov_args_map (ad : Nat → Nat) : ∀ (av : List Value) (i : Nat), lv_args i (av.map (ov_cv ad)) = (lv_args i av).map (ov_lc ad)
  | [], i => rfl
  | v :: av, i => by
    simp only [List.map_cons, lv_args, ov_cv_cat]
    rw [ov_args_map ad av]
    rfl
abbrev ovZs (d : Nat) (y : MethodName) (cc : ByteArray) (nL : Nat) : ovZ := (d, (y, cc, nL), ov_noEx, (0, 0), none)
abbrev ovKs (rt : Option FieldType) (S : ovSh) (k : Option Value → ovSt → Prop) : ovK := fun r S' σ' => S' = S ∧ ov_okr rt r ∧ k r σ'
theorem ov_Ct.of {d : Nat} {y : MethodName} {cc : ByteArray} {nL : Nat} {rt : Option FieldType} {S : ovSh} {av : List Value} {σ : ovSt} {k : Option Value → ovSt → Prop} (hy : plainName y.cls = true) (hlen : (lg_sl av).length ≤ nL)
    (h : ov_V (ovZs d y cc nL) (ovKs rt S k) (0, 0) S 0 (lv_args 0 av) [] σ) : ov_Ct d y cc nL rt S av σ k := by
  intro l D cy ad sz
  refine Met.ofW (cc := cc) (maxL := nL) (ret := rt) hy rfl ?_
  intro p e s m args below meth c s₁ B hml hv
  obtain ⟨rfl, hsz, hP, hK, hD0, hKs⟩ := hv
  have hts := atoms_spec (ws := Cond.code y cc nL rt :: gW) B.pre
  have hown : s.vm.findClass y.cls = some m.cls := findClass_of_methodNamed B.named
  have hlocks : meth.locks = false := B.notSynchronized
  have hr := B.returns
  subst hsz
  have hD := hD0.self (sz := s.heap.size)
  have hl := lv_entry (av.map (ov_cv ad)) (n := nL) (by rw [ov_sl_len]; exact hlen)
  rw [ov_args_map] at hl
  rw [lg_entry_eq]
  refine h p l e _ s m _ below meth c _ D cy (va_A (ov_ws cy ad σ 0 S) s.heap.size) ad ad s.heap [] _ ⟨B.exec, B.bytes, hml, hown, fun w hw => hts w (List.mem_cons_of_mem _ hw), fun hn => (name_of_methodNamed B.named B.method).1.trans hn, Nat.le_refl _, Nat.le_refl _, Nat.le_refl _, Nat.le_refl _⟩ ?_ ⟨hK, fun q h => Or.inr h, hKs, trivial, rfl⟩ ⟨hP, hD, va_S.rf⟩ hl
  intro ad' H locs ls pc S' σ' r hag hW hk hd
  obtain rfl : ad' = ad := hag
  obtain ⟨rfl, hok, hk⟩ := hk
  have hq : ∀ t : State, t.heap = H → ov_Qm S' σ D cy ad' s.heap.size k (av.map (ov_cv ad')).toArray s (.returned (r.map (ov_cv ad'))) t := fun t ht => ⟨⟨r, σ', rfl, hk, by rw [ht]; exact hW.1, hW.2.1⟩, hW.2.2.F ht⟩
  have hf := hW.2.2.2.2
  unfold ov_okr at hok
  split at hok
  · exact W.vret B.exec B.bytes hr (fun t ht _ => hq t ht) hf hd
  · exact W.iret B.exec B.bytes hr (fun t ht _ => hq t ht) hf hd
  · exact W.zret B.exec B.bytes hr hok (fun t ht _ => hq t ht) hf hd
  · exact W.zret B.exec B.bytes hr hok (fun t ht _ => hq t ht) hf hd
  · exact W.zret B.exec B.bytes hr hok (fun t ht _ => hq t ht) hf hd
  · exact W.lret B.exec B.bytes hr (fun t ht _ => hq t ht) hf hd
  · exact W.aret B.exec B.bytes hr (Or.inl ⟨_, rfl⟩) (Or.inr ⟨_, rfl⟩) (fun t ht _ => hq t ht) hf hd
  · exact hok.elim
theorem ov_Ct.mono {d : Nat} {y : MethodName} {cc : ByteArray} {nL : Nat} {rt : Option FieldType} {S : ovSh} {av : List Value} {σ : ovSt} {k k' : Option Value → ovSt → Prop} (h : ∀ r σ', k r σ' → k' r σ')
    (hV : ov_V (ovZs d y cc nL) (ovKs rt S k) (0, 0) S 0 (lv_args 0 av) [] σ) : ov_V (ovZs d y cc nL) (ovKs rt S k') (0, 0) S 0 (lv_args 0 av) [] σ := by
  intro p l e R s m args below meth c Q D cy A ad0 ad H locs ls hC hT hE hW hl
  exact hV p l e R s m args below meth c Q D cy A ad0 ad H locs ls hC (fun ad H locs ls pc S σ r a1 a2 a3 a4 => hT ad H locs ls pc S σ r a1 a2 ⟨a3.1, a3.2.1, h _ _ a3.2.2⟩ a4) hE hW hl
theorem ov_blind {av : List Value} {S : ovSh} {σ : ovSt} {D : va_G} {cy : Nat → ClassId} {ad : Nat → Nat} {sz : Nat} : FrameBlind (va_Pc av (ov_Pm S σ D cy ad sz)) := fun a U g mk q => by
  obtain ⟨q0, q1, qP, qK, qD, qS⟩ := q
  exact ⟨q0, q1, qP, va_K.moved (u := U) (U := U.calling g mk a) (Vm.Alike.refl U.vm) qK, qD, ov_Kst.blind qS⟩
theorem ov_inA {A : Nat → Prop} {ws : va_W} {H0 H : Heap} {locs : List Loc} (hD : va_D A ws) (hS : va_S A H0 H locs) (hA : ∀ q, H0.size ≤ q → A q) : ∀ q, va_A ws H.size q → A q := by
  intro q h
  rcases h with ⟨k, e, h⟩ | h
  · exact hD.2 k (q, e) h
  · exact hA q (Nat.le_trans hS.1 h)
/-- behind a call, whatever it answers -/
theorem ov_after {Z : ovZ} {k : ovK} {n : Nat × Nat} {S : ovSh} {pc : Nat} {L : List (Nat × Value)} {st : List Value} {σ : ovSt} {k0 : Option Value → ovSt → Prop} (h : ∀ r σ', k0 r σ' → ov_V Z k n S (pc + 3) L (r.toList ++ st) σ')
    {p : Program} {l : Launch} {e : Env} {R : Room} {s : State} {m : MethodId} {args : Array Value} {below : List Frame} {meth : Method} {c : Code} {Q : State → Prop} {D : va_G} {cy : Nat → ClassId} {A : Nat → Prop} {ad0 ad : Nat → Nat} {H : Heap} {locs : List Loc} {ls : Array Slot}
    (hC : ov_C Z p s m args meth c R) (hT : ov_Rt Z k D cy A ad0 p l e R s m args below meth c Q) (hE : ov_E Z D cy A ad0 ad s) (hW : ov_Wd D cy A ad S σ s H locs) (hl : lv_has ls Z.2.1.2.2 (L.map (ov_lc ad))) {st0 : List Value} {a : Array Value}
    (hr : va_Run p l e R s m args below meth c H locs n.1 n.2 0 0 (F0 m pc ls st0) (st.map (ov_cv ad)) (ov_Qm S σ D cy ad H.size k0 a) (va_A (ov_ws cy ad σ 0 S) H.size)) : W p l e R s m args below meth c H locs n.1 n.2 Q (F0 m pc ls st0) := by
  have hAB := ov_inA hW.2.1 hW.2.2 hE.2.1
  intro T hTH X
  obtain ⟨v, st₀, t, T', Lc, h0, X', hL, e1, e2, ⟨⟨r, σ', hv, hk0, hP1, hD1⟩, hz, hkp⟩, step⟩ := hr T hTH X
  cases hv
  rw [h0] at hz hkp
  have hS1 : va_S A s.heap T'.heap (locs ++ Lc) := ⟨Nat.le_trans hW.2.2.1 (by rw [e1]; exact hz), fun q h1 h2 => by rw [e1, hkp q (Nat.lt_of_lt_of_le h1 hW.2.2.1) (fun z => h2 (hAB q z))]; exact hW.2.2.2.1 q h1 h2, fun q hq => by
    rcases List.mem_append.mp hq with h | h
    · exact hW.2.2.2.2 q h
    · exact hAB _ (hL q h)⟩
  obtain ⟨t2, a1, b1⟩ := h r σ' hk0 p l e R s m args below meth c Q D cy A ad0 ad T'.heap (locs ++ Lc) ls hC hT hE ⟨by rw [e1]; exact hP1, hD1.weaken (fun _ q _ z => hAB q.1 z), hS1⟩ hl T' rfl X'
  refine ⟨t2, step t2 ?_, b1⟩
  have e3 : (r.toList ++ st).map (ov_cv ad) = (r.map (ov_cv ad)).toList ++ st.map (ov_cv ad) := by cases r <;> simp
  rw [e3] at a1
  exact a1
theorem ov_stsum (ad : Nat → Nat) (st : List Value) : ((st.map (ov_cv ad)).map fun v => v.category) = (st.map fun v => v.category) := by
  rw [List.map_map]
  congr 1
  funext v
  exact ov_cv_cat ad v
/-- the words of a call -/
def ov_lkV (own : String) (index : Nat) (y : MethodName) (cc : ByteArray) (nL : Nat) (rt : Option FieldType) (n : Nat) : Prop :=
  GoodIn gW (wsV own index y.cls y [Cond.code y cc nL rt]) ∧ (y.cls = y.cls ∧ y.cls ≠ "java/lang/invoke/MethodHandle" ∧ y.cls ≠ "java/lang/invoke/VarHandle" ∧ (parseMethodDescriptor y.desc).map (fun d => d.parameters.length) = some n)
def ov_lkS (own : String) (index : Nat) (y : MethodName) (cc : ByteArray) (nL : Nat) (rt : Option FieldType) (n : Nat) : Prop :=
  GoodIn gW (wsS own index y [Cond.code y cc nL rt]) ∧ (y.cls = own ∧ y.cls ≠ "java/lang/invoke/MethodHandle" ∧ y.cls ≠ "java/lang/invoke/VarHandle" ∧ (parseMethodDescriptor y.desc).map (fun d => d.parameters.length) = some n)
def ov_lkN (own : String) (index : Nat) (y : MethodName) (cc : ByteArray) (nL : Nat) (rt : Option FieldType) (n : Nat) : Prop :=
  (Cond.methodLinkNest own index y RX5 ∈ ov_nest ∧ Cond.static y ∈ gW ∧ Cond.initialized y.cls ∈ gW ∧ Cond.code y cc nL rt ∈ gW) ∧ (y.cls ≠ "java/lang/invoke/MethodHandle" ∧ y.cls ≠ "java/lang/invoke/VarHandle" ∧ (parseMethodDescriptor y.desc).map (fun d => d.parameters.length) = some n)
def ov_lkO (own : String) (index : Nat) (y : MethodName) (cc : ByteArray) (nL : Nat) (rt : Option FieldType) (n : Nat) : Prop :=
  (Cond.methodLink own index y ∈ gW ∧ Cond.static y ∈ gW ∧ Cond.initialized y.cls ∈ gW ∧ Cond.code y cc nL rt ∈ gW) ∧ (y.cls ≠ "java/lang/invoke/MethodHandle" ∧ y.cls ≠ "java/lang/invoke/VarHandle" ∧ (parseMethodDescriptor y.desc).map (fun d => d.parameters.length) = some n)
theorem ov_gg {y : MethodName} {cc : ByteArray} {nL : Nat} {rt : Option FieldType} (h : Cond.code y cc nL rt ∈ gW) : GoodIn gW (Cond.code y cc nL rt :: gW) := by
  intro w hw
  rcases List.mem_cons.mp hw with rfl | hw
  · exact ⟨h, gW_good _ h⟩
  · exact ⟨hw, gW_good _ hw⟩
theorem ov_ggV {own : String} {index : Nat} {C : String} {y : MethodName} {cc : ByteArray} {nL : Nat} {rt : Option FieldType} (h : GoodIn gW (wsV own index C y [Cond.code y cc nL rt])) : GoodIn gW (wsV own index C y (Cond.code y cc nL rt :: gW)) := by
  intro w hw
  unfold wsV at h hw
  rcases List.mem_append.mp hw with q | q
  · exact h w (List.mem_append_left _ q)
  · exact ov_gg (h _ (List.mem_append_right _ List.mem_cons_self)).1 w q
theorem ov_ggS {own : String} {index : Nat} {y : MethodName} {cc : ByteArray} {nL : Nat} {rt : Option FieldType} (h : GoodIn gW (wsS own index y [Cond.code y cc nL rt])) : GoodIn gW (wsS own index y (Cond.code y cc nL rt :: gW)) := by
  intro w hw
  unfold wsS at h hw
  rcases List.mem_append.mp hw with q | q
  · exact h w (List.mem_append_left _ q)
  · exact ov_gg (h _ (List.mem_append_right _ List.mem_cons_self)).1 w q
theorem ov_roomR {Z : ovZ} {p : Program} {s : State} {m : MethodId} {args : Array Value} {meth : Method} {c : Code} {R : Room} (hC : ov_C Z p s m args meth c R) {d nL : Nat} (hd : d + 1 ≤ Z.1) (hn : nL ≤ 21) : (ov_rm d (0, 0)).frames + 1 ≤ R.frames ∧ 8 + (nL + 11) + (ov_rm d (0, 0)).locals ≤ R.locals := by
  have h1 := hC.2.2.2.2.2.2.1
  have h2 := hC.2.2.2.2.2.2.2.1
  refine ⟨Nat.le_trans hd h1, ?_⟩
  show 8 + (nL + 11) + 40 * d ≤ R.locals
  omega
section OVC
variable {Z : ovZ} {k : ovK} {n : Nat × Nat} {S : ovSh} {pc : Nat} {L : List (Nat × Value)} {st : List Value} {σ : ovSt} {d' nL index b ci ln N : Nat} {y : MethodName} {cc : ByteArray} {rt : Option FieldType} {k0 : Option Value → ovSt → Prop} {rs : List (Option Nat)} {T : u_T}
theorem ov_callV (As : List Value) (hd : decode Z.2.1.2.1 pc = .ok (.invokevirtual index, 3)) (hc : ov_Ct d' y cc nL rt S (.ref b :: As) σ k0) (hdd : d' + 1 ≤ Z.1) (hnL : nL ≤ 21) (hq : ov_lkV Z.2.1.1.cls index y cc nL rt As.length) (hS : S[b]? = some (ci, ln, rs)) (hcl : vwCl[ci]? = some (y.cls, T, N)) (hst : (st.map fun v => v.category).sum ≤ 8) (h1 : n.1 ≤ Z.2.2.2.1.1) (h2 : n.2 ≤ Z.2.2.2.1.2)
    (h : ∀ r σ', k0 r σ' → ov_V Z k n S (pc + 3) L (r.toList ++ st) σ') : ov_V Z k n S pc L (As.reverse ++ .ref b :: st) σ := by
  intro p l e R s m args below meth c Q D cy A ad0 ad H locs ls hC hT hE hW hl
  refine ov_after h hC hT hE hW hl (va_runV (As := As.map (ov_cv ad)) (rest := st.map (ov_cv ad)) ⟨hC.1, hC.2.1, hC.2.2.1, hC.2.2.2.1, hC.2.2.2.2.1⟩ (hc l D cy ad H.size) (cwV (As.map (ov_cv ad)).length hC.2.2.2.2.1 (ov_ggV hq.1) rfl rfl rfl (by rw [List.length_map]; exact hq.2) (ov_roomR hC hdd hnL)) ⟨ov_blind, va_recv hE.1 hW.1 hcl (ov_at_o hS (ov_cl7 hcl)), fun U hU hWm => ⟨rfl, by rw [hU], by rw [hU]; exact hW.1, va_K.moved hWm.alike hE.1, hW.2.1.weaken (fun _ _ _ _ => trivial), hE.2.2.1.call hW.2.2 hWm hU (ov_inA hW.2.1 hW.2.2 hE.2.1)⟩⟩ rfl rfl hl.1 ?_ (lv_room (by rw [ov_stsum]; exact hst)) hd ⟨Nat.le_trans h1 hC.2.2.2.2.2.2.2.2.1, Nat.le_trans h2 hC.2.2.2.2.2.2.2.2.2⟩)
  simp [ov_cv]
theorem ov_callS (As : List Value) (hd : decode Z.2.1.2.1 pc = .ok (.invokestatic index, 3)) (hc : ov_Ct d' y cc nL rt S As σ k0) (hdd : d' + 1 ≤ Z.1) (hnL : nL ≤ 21) (hq : ov_lkS Z.2.1.1.cls index y cc nL rt As.length) (hst : (st.map fun v => v.category).sum ≤ 8) (h1 : n.1 ≤ Z.2.2.2.1.1) (h2 : n.2 ≤ Z.2.2.2.1.2)
    (h : ∀ r σ', k0 r σ' → ov_V Z k n S (pc + 3) L (r.toList ++ st) σ') : ov_V Z k n S pc L (As.reverse ++ st) σ := by
  intro p l e R s m args below meth c Q D cy A ad0 ad H locs ls hC hT hE hW hl
  refine ov_after h hC hT hE hW hl (va_runS (As := As.map (ov_cv ad)) (rest := st.map (ov_cv ad)) ⟨hC.1, hC.2.1, hC.2.2.1, hC.2.2.2.1, hC.2.2.2.2.1⟩ (hc l D cy ad H.size) (cwS (As.map (ov_cv ad)).length hC.2.2.2.2.1 (ov_ggS hq.1) rfl rfl rfl (by rw [List.length_map]; exact hq.2) (ov_roomR hC hdd hnL)) ⟨ov_blind, fun U hU hWm => ⟨rfl, by rw [hU], by rw [hU]; exact hW.1, va_K.moved hWm.alike hE.1, hW.2.1.weaken (fun _ _ _ _ => trivial), hE.2.2.1.call hW.2.2 hWm hU (ov_inA hW.2.1 hW.2.2 hE.2.1)⟩⟩ rfl rfl hl.1 ?_ (lv_room (by rw [ov_stsum]; exact hst)) hd ⟨Nat.le_trans h1 hC.2.2.2.2.2.2.2.2.1, Nat.le_trans h2 hC.2.2.2.2.2.2.2.2.2⟩)
  simp
theorem ov_callN (As : List Value) (hd : decode Z.2.1.2.1 pc = .ok (.invokestatic index, 3)) (hc : ov_Ct d' y cc nL rt S As σ k0) (hdd : d' + 1 ≤ Z.1) (hnL : nL ≤ 21) (hq : ov_lkN Z.2.1.1.cls index y cc nL rt As.length) (hst : (st.map fun v => v.category).sum ≤ 8) (h1 : n.1 ≤ Z.2.2.2.1.1) (h2 : n.2 ≤ Z.2.2.2.1.2)
    (h : ∀ r σ', k0 r σ' → ov_V Z k n S (pc + 3) L (r.toList ++ st) σ') : ov_V Z k n S pc L (As.reverse ++ st) σ := by
  intro p l e R s m args below meth c Q D cy A ad0 ad H locs ls hC hT hE hW hl
  refine ov_after h hC hT hE hW hl (va_runSN (As := As.map (ov_cv ad)) (rest := st.map (ov_cv ad)) ⟨hC.1, hC.2.1, hC.2.2.1, hC.2.2.2.1, hC.2.2.2.2.1⟩ (hc l D cy ad H.size) ⟨va_cnB (As.map (ov_cv ad)).length hC.2.2.2.2.1 (ov_gg hq.1.2.2.2) rfl rfl rfl (hE.2.2.1.2.2.2.1 _ hq.1.1) (hC.2.2.2.2.1 _ hq.1.2.2.1) (by rw [List.length_map]; exact hq.2) (ov_roomR hC hdd hnL), hC.2.2.2.2.1 _ hq.1.2.1, trivial⟩ ⟨ov_blind, fun U hU hWm => ⟨rfl, by rw [hU], by rw [hU]; exact hW.1, va_K.moved hWm.alike hE.1, hW.2.1.weaken (fun _ _ _ _ => trivial), hE.2.2.1.call hW.2.2 hWm hU (ov_inA hW.2.1 hW.2.2 hE.2.1)⟩⟩ rfl rfl hl.1 ?_ (lv_room (by rw [ov_stsum]; exact hst)) hd ⟨Nat.le_trans h1 hC.2.2.2.2.2.2.2.2.1, Nat.le_trans h2 hC.2.2.2.2.2.2.2.2.2⟩)
  simp
theorem ov_callO (As : List Value) (hd : decode Z.2.1.2.1 pc = .ok (.invokestatic index, 3)) (hc : ov_Ct d' y cc nL rt S As σ k0) (hdd : d' + 1 ≤ Z.1) (hnL : nL ≤ 21) (hq : ov_lkO Z.2.1.1.cls index y cc nL rt As.length) (hst : (st.map fun v => v.category).sum ≤ 8) (h1 : n.1 ≤ Z.2.2.2.1.1) (h2 : n.2 ≤ Z.2.2.2.1.2)
    (h : ∀ r σ', k0 r σ' → ov_V Z k n S (pc + 3) L (r.toList ++ st) σ') : ov_V Z k n S pc L (As.reverse ++ st) σ := by
  intro p l e R s m args below meth c Q D cy A ad0 ad H locs ls hC hT hE hW hl
  refine ov_after h hC hT hE hW hl (va_runS (As := As.map (ov_cv ad)) (rest := st.map (ov_cv ad)) ⟨hC.1, hC.2.1, hC.2.2.1, hC.2.2.2.1, hC.2.2.2.2.1⟩ (hc l D cy ad H.size) ⟨callB_of (As.map (ov_cv ad)).length hC.2.2.2.2.1 (ov_gg hq.1.2.2.2) rfl rfl rfl (hC.2.2.2.2.1 _ hq.1.2.2.1) (hC.2.2.2.2.1 _ hq.1.1) (by rw [List.length_map]; exact hq.2) (ov_roomR hC hdd hnL), hC.2.2.2.2.1 _ hq.1.2.1⟩ ⟨ov_blind, fun U hU hWm => ⟨rfl, by rw [hU], by rw [hU]; exact hW.1, va_K.moved hWm.alike hE.1, hW.2.1.weaken (fun _ _ _ _ => trivial), hE.2.2.1.call hW.2.2 hWm hU (ov_inA hW.2.1 hW.2.2 hE.2.1)⟩⟩ rfl rfl hl.1 ?_ (lv_room (by rw [ov_stsum]; exact hst)) hd ⟨Nat.le_trans h1 hC.2.2.2.2.2.2.2.2.1, Nat.le_trans h2 hC.2.2.2.2.2.2.2.2.2⟩)
  simp
theorem ov_callT (As : List Value) (hd : decode Z.2.1.2.1 pc = .ok (.invokevirtual index, 3)) (j : Nat) (hj : j < 6) (hb : b = 6000 + j) (hy : y.cls = "java/lang/String") (hc : ov_Ct d' y cc nL rt S (.ref b :: As) σ k0) (hdd : d' + 1 ≤ Z.1) (hnL : nL ≤ 21) (hq : ov_lkV Z.2.1.1.cls index y cc nL rt As.length) (hst : (st.map fun v => v.category).sum ≤ 8) (h1 : n.1 ≤ Z.2.2.2.1.1) (h2 : n.2 ≤ Z.2.2.2.1.2)
    (h : ∀ r σ', k0 r σ' → ov_V Z k n S (pc + 3) L (r.toList ++ st) σ') : ov_V Z k n S pc L (As.reverse ++ .ref b :: st) σ := by
  intro p l e R s m args below meth c Q D cy A ad0 ad H locs ls hC hT hE hW hl
  subst hb
  refine ov_after h hC hT hE hW hl (va_runV (As := As.map (ov_cv ad)) (rest := st.map (ov_cv ad)) ⟨hC.1, hC.2.1, hC.2.2.1, hC.2.2.2.1, hC.2.2.2.2.1⟩ (hc l D cy ad H.size) (cwV (As.map (ov_cv ad)).length hC.2.2.2.2.1 (ov_ggV hq.1) rfl rfl rfl (by rw [List.length_map]; exact hq.2) (ov_roomR hC hdd hnL)) ⟨ov_blind, by rw [hy]; exact vk_recv (i := j) (adK := fun i => ad (6000 + i)) hE.2.2.1.2.1.1 hj hW.2.2, fun U hU hWm => ⟨rfl, by rw [hU], by rw [hU]; exact hW.1, va_K.moved hWm.alike hE.1, hW.2.1.weaken (fun _ _ _ _ => trivial), hE.2.2.1.call hW.2.2 hWm hU (ov_inA hW.2.1 hW.2.2 hE.2.1)⟩⟩ rfl rfl hl.1 ?_ (lv_room (by rw [ov_stsum]; exact hst)) hd ⟨Nat.le_trans h1 hC.2.2.2.2.2.2.2.2.1, Nat.le_trans h2 hC.2.2.2.2.2.2.2.2.2⟩)
  simp [ov_cv]
end OVC
/-! ===== Math, System.arraycopy ===== -/
section OVM
variable {Z : ovZ} {k : ovK} {n : Nat × Nat} {S : ovSh} {pc : Nat} {L : List (Nat × Value)} {st : List Value} {σ : ovSt} {index : Nat}
theorem ov_mmin {x y : Int32} (hd : decode Z.2.1.2.1 pc = .ok (.invokestatic index, 3)) (hw : Cond.methodLink Z.2.1.1.cls index Lib.Math.min.name ∈ gW ∧ Cond.static Lib.Math.min.name ∈ gW ∧ Cond.initialized "java/lang/Math" ∈ gW ∧ Cond.code Lib.Math.min.name Lib.Math.min.code 2 (some .int) ∈ gW) (hd1 : 1 ≤ Z.1) (hst : (st.map fun v => v.category).sum ≤ 27) (h1 : n.1 ≤ Z.2.2.2.1.1) (h2 : n.2 ≤ Z.2.2.2.1.2) (h : ov_V Z k n S (pc + 3) L (.int (if y < x then y else x) :: st) σ) : ov_V Z k n S pc L (.int y :: .int x :: st) σ := by
  intro p l e R s m args below meth c Q D cy A ad0 ad H locs ls hC hT hE hW hl
  exact va_mmin hC.1 hC.2.1 (hC.2.2.1.trans hl.1.symm) hC.2.2.2.1 (hC.2.2.2.2.1 _ hw.1) (hC.2.2.2.2.1 _ hw.2.1) (hC.2.2.2.2.1 _ hw.2.2.1) (hC.2.2.2.2.1 _ hw.2.2.2) (Nat.le_trans hd1 hC.2.2.2.2.2.2.1) (by rw [ov_stsum]; have := hC.2.2.2.2.2.2.2.1; omega) (Nat.le_trans h1 hC.2.2.2.2.2.2.2.2.1) (Nat.le_trans h2 hC.2.2.2.2.2.2.2.2.2) hd (h p l e R s m args below meth c Q D cy A ad0 ad H locs ls hC hT hE hW hl)
theorem ov_mmax {x y : Int32} (hd : decode Z.2.1.2.1 pc = .ok (.invokestatic index, 3)) (hw : Cond.methodLink Z.2.1.1.cls index Lib.Math.max.name ∈ gW ∧ Cond.static Lib.Math.max.name ∈ gW ∧ Cond.initialized "java/lang/Math" ∈ gW ∧ Cond.code Lib.Math.max.name Lib.Math.max.code 2 (some .int) ∈ gW) (hd1 : 1 ≤ Z.1) (hst : (st.map fun v => v.category).sum ≤ 27) (h1 : n.1 ≤ Z.2.2.2.1.1) (h2 : n.2 ≤ Z.2.2.2.1.2) (h : ov_V Z k n S (pc + 3) L (.int (if x < y then y else x) :: st) σ) : ov_V Z k n S pc L (.int y :: .int x :: st) σ := by
  intro p l e R s m args below meth c Q D cy A ad0 ad H locs ls hC hT hE hW hl
  exact va_mmax hC.1 hC.2.1 (hC.2.2.1.trans hl.1.symm) hC.2.2.2.1 (hC.2.2.2.2.1 _ hw.1) (hC.2.2.2.2.1 _ hw.2.1) (hC.2.2.2.2.1 _ hw.2.2.1) (hC.2.2.2.2.1 _ hw.2.2.2) (Nat.le_trans hd1 hC.2.2.2.2.2.2.1) (by rw [ov_stsum]; have := hC.2.2.2.2.2.2.2.1; omega) (Nat.le_trans h1 hC.2.2.2.2.2.2.2.2.1) (Nat.le_trans h2 hC.2.2.2.2.2.2.2.2.2) hd (h p l e R s m args below meth c Q D cy A ad0 ad H locs ls hC hT hE hW hl)
theorem ov_mabs {x : Int32} (hd : decode Z.2.1.2.1 pc = .ok (.invokestatic index, 3)) (hw : Cond.methodLink Z.2.1.1.cls index Lib.Math.abs.name ∈ gW ∧ Cond.static Lib.Math.abs.name ∈ gW ∧ Cond.initialized "java/lang/Math" ∈ gW ∧ Cond.code Lib.Math.abs.name Lib.Math.abs.code 1 (some .int) ∈ gW) (hd1 : 1 ≤ Z.1) (hst : (st.map fun v => v.category).sum ≤ 27) (h1 : n.1 ≤ Z.2.2.2.1.1) (h2 : n.2 ≤ Z.2.2.2.1.2) (h : ov_V Z k n S (pc + 3) L (.int (if 0 ≤ x then x else 0 - x) :: st) σ) : ov_V Z k n S pc L (.int x :: st) σ := by
  intro p l e R s m args below meth c Q D cy A ad0 ad H locs ls hC hT hE hW hl
  exact va_mabs hC.1 hC.2.1 (hC.2.2.1.trans hl.1.symm) hC.2.2.2.1 (hC.2.2.2.2.1 _ hw.1) (hC.2.2.2.2.1 _ hw.2.1) (hC.2.2.2.2.1 _ hw.2.2.1) (hC.2.2.2.2.1 _ hw.2.2.2) (Nat.le_trans hd1 hC.2.2.2.2.2.2.1) (by rw [ov_stsum]; have := hC.2.2.2.2.2.2.2.1; omega) (Nat.le_trans h1 hC.2.2.2.2.2.2.2.2.1) (Nat.le_trans h2 hC.2.2.2.2.2.2.2.2.2) hd (h p l e R s m args below meth c Q D cy A ad0 ad H locs ls hC hT hE hW hl)
theorem ov_copy {a0 a1 n0 n1 : Nat} {r0 r1 : List (Option Nat)} {sp dp q : Int32} (hd : decode Z.2.1.2.1 pc = .ok (.invokestatic index, 3)) (hw : Cond.methodLink Z.2.1.1.cls index arraycopyName ∈ gW ∧ Cond.native arraycopyName ∈ gW ∧ Cond.static arraycopyName ∈ gW ∧ Cond.initialized "java/lang/System" ∈ gW) (hS0 : S[a0]? = some (9, n0, r0)) (hS1 : S[a1]? = some (9, n1, r1)) (hb : (¬ sp < 0 ∧ ¬ dp < 0 ∧ ¬ q < 0) ∧ sp.toNatClampNeg + q.toNatClampNeg ≤ n0 ∧ dp.toNatClampNeg + q.toNatClampNeg ≤ n1) (hd1 : 1 ≤ Z.1) (hst : (st.map fun v => v.category).sum + (nativeFrameWords "java/lang/System" "arraycopy" 5 + 11) ≤ 40)
    (h : ov_V Z k n S (pc + 3) L st (ov_row σ a1 (va_cpy (σ a0) (σ a1) sp.toNatClampNeg dp.toNatClampNeg q.toNatClampNeg))) : ov_V Z k n S pc L (.int q :: .int dp :: .ref a1 :: .int sp :: .ref a0 :: st) σ := by
  intro p l e R s m args below meth c Q D cy A ad0 ad H locs ls hC hT hE hW hl
  refine va_copyi (ty := .int) hC.1 hC.2.1 (hC.2.2.1.trans hl.1.symm) hC.2.2.2.1 (hC.2.2.2.2.1 _ hw.1) (hC.2.2.2.2.1 _ hw.2.1) (hC.2.2.2.2.1 _ hw.2.2.1) (hC.2.2.2.2.1 _ hw.2.2.2) hE.1 hW.1 hW.2.1 hW.2.2 a0 a1 2 2 (ov_at_i hS0 (by decide) (by decide)) (ov_at_i hS1 (by decide) (by decide)) rfl rfl rfl hb.1.1 hb.1.2.1 hb.1.2.2 hb.2.1 hb.2.2 (fun _ _ => rfl) (Nat.le_trans hd1 hC.2.2.2.2.2.2.1) (by rw [ov_stsum]; have := hC.2.2.2.2.2.2.2.1; omega) hd (fun H1 locs1 hP1 hD1 hS1' => ?_)
  rw [ov_set_i hS1 (by decide) (by decide)] at hP1 hD1
  exact h p l e R s m args below meth c Q D cy A ad0 ad H1 locs1 ls hC hT hE ⟨hP1, hD1, hS1'⟩ hl
/-! ===== the texts' own fields, the JDK's statics ===== -/
theorem ov_sval {w : Nat} (hw : 6000 ≤ w ∧ w < 6006) (hd : decode Z.2.1.2.1 pc = .ok (.getfield index, 3)) (hq : Cond.fieldLink Z.2.1.1.cls index "java/lang/String" "value" "[B" ∈ gW) (h : ov_V Z k n S (pc + 3) L (.ref (w + 100) :: st) σ) : ov_V Z k n S pc L (.ref w :: st) σ := by
  intro p l e R s m args below meth c Q D cy A ad0 ad H locs ls hC hT hE hW hl
  obtain ⟨j, rfl⟩ : ∃ j, w = 6000 + j := ⟨w - 6000, by omega⟩
  refine vk_getf hC.1 hC.2.1 (v := .ref (ad (6100 + j))) (hE.2.2.1.2.1.1.1 j (by omega)).2.2.1 hW.2.2 hC.2.2.2.1 (hC.2.2.2.2.1 _ hq) (fun _ h9 => h9) hd ?_
  rw [show 6100 + j = 6000 + j + 100 by omega]
  exact (h p l e R s m args below meth c Q D cy A ad0 ad H locs ls hC hT hE hW hl)
theorem ov_scod {w : Nat} (hw : 6000 ≤ w ∧ w < 6006) (hd : decode Z.2.1.2.1 pc = .ok (.getfield index, 3)) (hq : Cond.fieldLink Z.2.1.1.cls index "java/lang/String" "coder" "B" ∈ gW) (h : ov_V Z k n S (pc + 3) L (.int 0 :: st) σ) : ov_V Z k n S pc L (.ref w :: st) σ := by
  intro p l e R s m args below meth c Q D cy A ad0 ad H locs ls hC hT hE hW hl
  obtain ⟨j, rfl⟩ : ∃ j, w = 6000 + j := ⟨w - 6000, by omega⟩
  exact vk_getf hC.1 hC.2.1 (v := .int 0) (hE.2.2.1.2.1.1.1 j (by omega)).2.1 hW.2.2 hC.2.2.2.1 (hC.2.2.2.2.1 _ hq) (fun _ h9 => h9) hd (h p l e R s m args below meth c Q D cy A ad0 ad H locs ls hC hT hE hW hl)
theorem ov_sln {w : Nat} (hw : 6000 ≤ w ∧ w < 6006) (hd : decode Z.2.1.2.1 pc = .ok (.arraylength, 1)) (h : ov_V Z k n S (pc + 1) L (.int (Int32.ofNat (ov_len.getD (w - 6000) 0)) :: st) σ) : ov_V Z k n S pc L (.ref (w + 100) :: st) σ := by
  intro p l e R s m args below meth c Q D cy A ad0 ad H locs ls hC hT hE hW hl
  obtain ⟨j, rfl⟩ : ∃ j, w = 6000 + j := ⟨w - 6000, by omega⟩
  rw [show 6000 + j - 6000 = j by omega] at h
  have ht := (hE.2.2.1.2.1.1.1 j (by omega)).2.2.2
  dsimp only at ht
  rw [show 6100 + j = 6000 + j + 100 by omega] at ht
  exact va_tlen hC.1 hC.2.1 ht hW.2.2 rfl hd (h p l e R s m args below meth c Q D cy A ad0 ad H locs ls hC hT hE hW hl)
theorem ov_sbl {w : Nat} {x : Int32} (hw : 6000 ≤ w ∧ w < 6006) (hd : decode Z.2.1.2.1 pc = .ok (.baload, 1)) (hi : vp_in x (ov_len.getD (w - 6000) 0)) (h : ov_V Z k n S (pc + 1) L (.int ((ov_byt.getD (w - 6000) []).getD x.toNatClampNeg 0) :: st) σ) : ov_V Z k n S pc L (.int x :: .ref (w + 100) :: st) σ := by
  intro p l e R s m args below meth c Q D cy A ad0 ad H locs ls hC hT hE hW hl
  obtain ⟨j, rfl⟩ : ∃ j, w = 6000 + j := ⟨w - 6000, by omega⟩
  rw [show 6000 + j - 6000 = j by omega] at h hi
  have ht := (hE.2.2.1.2.1.1.1 j (by omega)).2.2.2
  dsimp only at ht
  rw [show 6100 + j = 6000 + j + 100 by omega] at ht
  exact va_tb hC.1 hC.2.1 ht hW.2.2 hi rfl hd (h p l e R s m args below meth c Q D cy A ad0 ad H locs ls hC hT hE hW hl)
theorem ov_cmpt (hd : decode Z.2.1.2.1 pc = .ok (.getstatic index, 3)) (hq : Cond.fieldLink Z.2.1.1.cls index "java/lang/String" "COMPACT_STRINGS" "Z" ∈ gW) (h : ov_V Z k n S (pc + 3) L (.int 1 :: st) σ) : ov_V Z k n S pc L st σ := by
  intro p l e R s m args below meth c Q D cy A ad0 ad H locs ls hC hT hE hW hl
  exact va_gets hC.1 hC.2.1 hE.2.2.1.2.2.1.1 hW.2.2 hC.2.2.2.1 (hC.2.2.2.2.1 _ hq) (fun _ h9 => h9) hd (h p l e R s m args below meth c Q D cy A ad0 ad H locs ls hC hT hE hW hl)
theorem ov_siof (hd : decode Z.2.1.2.1 pc = .ok (.getstatic index, 3)) (hq : Cond.fieldLink Z.2.1.1.cls index "jdk/internal/util/Preconditions" "SIOOBE_FORMATTER" "Ljava/util/function/BiFunction;" ∈ gW) (h : ∀ g : Value, g.category = 1 → ov_V Z k n S (pc + 3) L (g :: st) σ) : ov_V Z k n S pc L st σ := by
  intro p l e R s m args below meth c Q D cy A ad0 ad H locs ls hC hT hE hW hl
  rcases hE.2.2.1.2.2.1.2 with z | z
  · exact va_gets hC.1 hC.2.1 z hW.2.2 hC.2.2.2.1 (hC.2.2.2.2.1 _ hq) (fun _ h9 => h9) hd (h .null rfl p l e R s m args below meth c Q D cy A ad0 ad H locs ls hC hT hE hW hl)
  · exact va_gets hC.1 hC.2.1 z hW.2.2 hC.2.2.2.1 (hC.2.2.2.2.1 _ hq) (fun _ h9 => h9) hd (h (.ref 7500) rfl p l e R s m args below meth c Q D cy A ad0 ad H locs ls hC hT hE hW hl)
end OVM
