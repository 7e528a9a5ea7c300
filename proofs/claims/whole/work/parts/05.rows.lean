/-! ===== the judgement: from pc with locals L, operands st, shape S and store σ the method comes to its end ===== -/
abbrev ovX : Type := MethodName × ByteArray × Nat
abbrev ovEx : Type := (Nat → Nat) → (Nat → Prop) → State → Prop
abbrev ovZ : Type := Nat × ovX × ovEx × (Nat × Nat) × Option Nat
abbrev ovK : Type := Option Value → ovSh → ovSt → Prop
def ov_ty (cy : Nat → ClassId) : List (ClassId × FieldType) := [(cy 7, .byte), (cy 8, .char), (cy 9, .int), (cy 10, .boolean), (cy 11, .object RX1), (cy 12, .object RX2), (cy 13, .array .int)]
def ov_ag (N : Option Nat) (ad0 ad : Nat → Nat) : Prop := match N with
  | none => ad = ad0
  | some n => ∀ i, i < n ∨ 5000 ≤ i → ad i = ad0 i
def ov_ri (r : Option Value) : Instr := match r with
  | none => .return_
  | some (.int _) => .ireturn
  | some (.long _) => .lreturn
  | some _ => .areturn
def ov_C (Z : ovZ) (p : Program) (s : State) (m : MethodId) (args : Array Value) (meth : Method) (c : Code) (R : Room) : Prop :=
  p.tables.exec = Jvm.exec ∧ c.code = Z.2.1.2.1 ∧ c.maxLocals = Z.2.1.2.2 ∧ s.vm.findClass Z.2.1.1.cls = some m.cls ∧ (∀ w ∈ gW, w.before args s = true) ∧ (Z.2.1.1.name = "<init>" → meth.name = "<init>") ∧ Z.1 ≤ R.frames ∧ 40 * Z.1 ≤ R.locals ∧ Z.2.2.2.1.1 ≤ R.cells ∧ Z.2.2.2.1.2 ≤ R.slots
def ov_Wd (D : va_G) (cy : Nat → ClassId) (A : Nat → Prop) (ad : Nat → Nat) (S : ovSh) (σ : ovSt) (s : State) (H : Heap) (locs : List Loc) : Prop :=
  va_P D vwCl (ov_ws cy ad σ 0 S) H ∧ va_D A (ov_ws cy ad σ 0 S) ∧ va_S A s.heap H locs
def ov_E (Z : ovZ) (D : va_G) (cy : Nat → ClassId) (A : Nat → Prop) (ad0 ad : Nat → Nat) (s : State) : Prop :=
  va_K D vwCl (ov_ty cy) s ∧ (∀ q, s.heap.size ≤ q → A q) ∧ ov_Kst ad A s s.heap ∧ Z.2.2.1 ad A s ∧ ov_ag Z.2.2.2.2 ad0 ad
def ov_Rt (Z : ovZ) (k : ovK) (D : va_G) (cy : Nat → ClassId) (A : Nat → Prop) (ad0 : Nat → Nat) (p : Program) (l : Launch) (e : Env) (R : Room) (s : State) (m : MethodId) (args : Array Value) (below : List Frame) (meth : Method) (c : Code) (Q : State → Prop) : Prop :=
  ∀ (ad : Nat → Nat) (H : Heap) (locs : List Loc) (ls : Array Slot) (pc : Nat) (S : ovSh) (σ : ovSt) (r : Option Value), ov_ag Z.2.2.2.2 ad0 ad → ov_Wd D cy A ad S σ s H locs → k r S σ → decode Z.2.1.2.1 pc = .ok (ov_ri r, 1) →
    W p l e R s m args below meth c H locs Z.2.2.2.1.1 Z.2.2.2.1.2 Q (F0 m pc ls (r.toList.map (ov_cv ad)))
def ov_V (Z : ovZ) (k : ovK) (n : Nat × Nat) (S : ovSh) (pc : Nat) (L : List (Nat × Value)) (st : List Value) (σ : ovSt) : Prop :=
  ∀ (p : Program) (l : Launch) (e : Env) (R : Room) (s : State) (m : MethodId) (args : Array Value) (below : List Frame) (meth : Method) (c : Code) (Q : State → Prop) (D : va_G) (cy : Nat → ClassId) (A : Nat → Prop) (ad0 ad : Nat → Nat) (H : Heap) (locs : List Loc) (ls : Array Slot),
    ov_C Z p s m args meth c R → ov_Rt Z k D cy A ad0 p l e R s m args below meth c Q → ov_E Z D cy A ad0 ad s → ov_Wd D cy A ad S σ s H locs → lv_has ls Z.2.1.2.2 (L.map (ov_lc ad)) →
    W p l e R s m args below meth c H locs n.1 n.2 Q (F0 m pc ls (st.map (ov_cv ad)))
theorem ov_lget {ad : Nat → Nat} {ls : Array Slot} {nL : Nat} {L : List (Nat × Value)} (h : lv_has ls nL (L.map (ov_lc ad))) (j : Nat) {i : Nat} {v : Value} (hj : L[j]? = some (i, v)) : ls[i]? = some (.val (ov_cv ad v)) :=
  lv_at h j (by rw [List.getElem?_map, hj]; rfl)
def ov_ls (i : Nat) (v : Value) (L : List (Nat × Value)) : List (Nat × Value) := (i, v) :: L.filter (fun q => !(q.1 == i) && !(q.1 + 1 == i && q.2.category == 2))
def ov_ls2 (i : Nat) (v : Value) (L : List (Nat × Value)) : List (Nat × Value) := (i, v) :: L.filter (fun q => !(q.1 == i) && (!(q.1 == i + 1) && !(q.1 + 1 == i && q.2.category == 2)))
theorem ov_lmap (ad : Nat → Nat) (i : Nat) (v : Value) (L : List (Nat × Value)) : (i, ov_cv ad v) :: (L.map (ov_lc ad)).filter (fun q => !(q.1 == i) && !(q.1 + 1 == i && q.2.category == 2)) = (ov_ls i v L).map (ov_lc ad) := by
  unfold ov_ls
  rw [List.map_cons, List.filter_map]
  congr 3
  funext q
  simp [ov_lc, ov_cv_cat]
theorem ov_lmap2 (ad : Nat → Nat) (i : Nat) (v : Value) (L : List (Nat × Value)) : (i, ov_cv ad v) :: (L.map (ov_lc ad)).filter (fun q => !(q.1 == i) && (!(q.1 == i + 1) && !(q.1 + 1 == i && q.2.category == 2))) = (ov_ls2 i v L).map (ov_lc ad) := by
  unfold ov_ls2
  rw [List.map_cons, List.filter_map]
  congr 3
  funext q
  simp [ov_lc, ov_cv_cat]
section OVR
variable {Z : ovZ} {k : ovK} {n : Nat × Nat} {S : ovSh} {pc : Nat} {L : List (Nat × Value)} {st : List Value} {σ : ovSt}
theorem ov_iconst {q : Int} (v : Int32) (hv : Int32.ofInt q = v) (hd : decode Z.2.1.2.1 pc = .ok (.iconst q, 1)) (h : ov_V Z k n S (pc + 1) L (.int v :: st) σ) : ov_V Z k n S pc L (st) σ := by
  intro p l e R s m args below meth c Q D cy A ad0 ad H locs ls hC hT hE hW hl
  exact lv_iconst hC.1 hC.2.1 hd hv (h p l e R s m args below meth c Q D cy A ad0 ad H locs ls hC hT hE hW hl)
theorem ov_bipush {q : Int} (v : Int32) (hv : (Int8.ofInt q).toInt32 = v) (hd : decode Z.2.1.2.1 pc = .ok (.bipush q, 2)) (h : ov_V Z k n S (pc + 2) L (.int v :: st) σ) : ov_V Z k n S pc L (st) σ := by
  intro p l e R s m args below meth c Q D cy A ad0 ad H locs ls hC hT hE hW hl
  exact lv_bipush hC.1 hC.2.1 hd hv (h p l e R s m args below meth c Q D cy A ad0 ad H locs ls hC hT hE hW hl)
theorem ov_sipush {q : Int} (v : Int32) (hv : (Int16.ofInt q).toInt32 = v) (hd : decode Z.2.1.2.1 pc = .ok (.sipush q, 3)) (h : ov_V Z k n S (pc + 3) L (.int v :: st) σ) : ov_V Z k n S pc L (st) σ := by
  intro p l e R s m args below meth c Q D cy A ad0 ad H locs ls hC hT hE hW hl
  exact lv_sipush hC.1 hC.2.1 hd hv (h p l e R s m args below meth c Q D cy A ad0 ad H locs ls hC hT hE hW hl)
theorem ov_lconst {q : Fin 2} (v : Int64) (hv : Int64.ofNat (q : Nat) = v) (hd : decode Z.2.1.2.1 pc = .ok (.lconst q, 1)) (h : ov_V Z k n S (pc + 1) L (.long v :: st) σ) : ov_V Z k n S pc L (st) σ := by
  intro p l e R s m args below meth c Q D cy A ad0 ad H locs ls hC hT hE hW hl
  exact lv_lconst hC.1 hC.2.1 hd hv (h p l e R s m args below meth c Q D cy A ad0 ad H locs ls hC hT hE hW hl)
theorem ov_ldc {index : Nat} {v : Int32} (hd : decode Z.2.1.2.1 pc = .ok (.ldc index, 2)) (hw : Cond.constant Z.2.1.1.cls index v ∈ gW) (h : ov_V Z k n S (pc + 2) L (.int v :: st) σ) : ov_V Z k n S pc L st σ := by
  intro p l e R s m args below meth c Q D cy A ad0 ad H locs ls hC hT hE hW hl
  exact lv_ldc hC.1 hC.2.1 hC.2.2.2.1 (hC.2.2.2.2.1 _ hw) hd (h p l e R s m args below meth c Q D cy A ad0 ad H locs ls hC hT hE hW hl)
theorem ov_ldcw {index : Nat} {v : Int32} (hd : decode Z.2.1.2.1 pc = .ok (.ldc_w index, 3)) (hw : Cond.constant Z.2.1.1.cls index v ∈ gW) (h : ov_V Z k n S (pc + 3) L (.int v :: st) σ) : ov_V Z k n S pc L st σ := by
  intro p l e R s m args below meth c Q D cy A ad0 ad H locs ls hC hT hE hW hl
  exact lv_ldcw hC.1 hC.2.1 hC.2.2.2.1 (hC.2.2.2.2.1 _ hw) hd (h p l e R s m args below meth c Q D cy A ad0 ad H locs ls hC hT hE hW hl)
theorem ov_ldc2 {index : Nat} {v : Int64} (hd : decode Z.2.1.2.1 pc = .ok (.ldc2_w index, 3)) (hw : Cond.constantLong Z.2.1.1.cls index v ∈ gW) (h : ov_V Z k n S (pc + 3) L (.long v :: st) σ) : ov_V Z k n S pc L st σ := by
  intro p l e R s m args below meth c Q D cy A ad0 ad H locs ls hC hT hE hW hl
  exact lv_ldc2 hC.1 hC.2.1 hC.2.2.2.1 (hC.2.2.2.2.1 _ hw) hd (h p l e R s m args below meth c Q D cy A ad0 ad H locs ls hC hT hE hW hl)
theorem ov_iload_n {q : Fin 4} {x : Int32} (hd : decode Z.2.1.2.1 pc = .ok (.iload_n q, 1)) (j : Nat) (hj : L[j]? = some ((q : Nat), .int x)) (h : ov_V Z k n S (pc + 1) L (.int x :: st) σ) : ov_V Z k n S pc L st σ := by
  intro p l e R s m args below meth c Q D cy A ad0 ad H locs ls hC hT hE hW hl
  exact lv_iload_n hC.1 hC.2.1 hd rfl (ov_lget hl j hj) (h p l e R s m args below meth c Q D cy A ad0 ad H locs ls hC hT hE hW hl)
theorem ov_iload {q : Nat} {x : Int32} (hd : decode Z.2.1.2.1 pc = .ok (.iload q, 2)) (j : Nat) (hj : L[j]? = some (q, .int x)) (h : ov_V Z k n S (pc + 2) L (.int x :: st) σ) : ov_V Z k n S pc L st σ := by
  intro p l e R s m args below meth c Q D cy A ad0 ad H locs ls hC hT hE hW hl
  exact lv_iload hC.1 hC.2.1 hd (ov_lget hl j hj) (h p l e R s m args below meth c Q D cy A ad0 ad H locs ls hC hT hE hW hl)
theorem ov_istore_n {q : Fin 4} {x : Int32} (hd : decode Z.2.1.2.1 pc = .ok (.istore_n q, 1)) (hn : (q : Nat) < Z.2.1.2.2) (L' : List (Nat × Value)) (hL : ov_ls (q : Nat) (.int x) L = L') (h : ov_V Z k n S (pc + 1) L' st σ) : ov_V Z k n S pc L (.int x :: st) σ := by
  intro p l e R s m args below meth c Q D cy A ad0 ad H locs ls hC hT hE hW hl
  subst hL
  exact lv_istore_n hC.1 hC.2.1 hd rfl hl hn (ov_lmap ad (q : Nat) (.int x) L) (fun ls hl => (h p l e R s m args below meth c Q D cy A ad0 ad H locs ls hC hT hE hW hl))
theorem ov_istore {q : Nat} {x : Int32} (hd : decode Z.2.1.2.1 pc = .ok (.istore q, 2)) (hn : q < Z.2.1.2.2) (L' : List (Nat × Value)) (hL : ov_ls q (.int x) L = L') (h : ov_V Z k n S (pc + 2) L' st σ) : ov_V Z k n S pc L (.int x :: st) σ := by
  intro p l e R s m args below meth c Q D cy A ad0 ad H locs ls hC hT hE hW hl
  subst hL
  exact lv_istore hC.1 hC.2.1 hd hl hn (ov_lmap ad q (.int x) L) (fun ls hl => (h p l e R s m args below meth c Q D cy A ad0 ad H locs ls hC hT hE hW hl))
theorem ov_lload_n {q : Fin 4} {x : Int64} (hd : decode Z.2.1.2.1 pc = .ok (.lload_n q, 1)) (j : Nat) (hj : L[j]? = some ((q : Nat), .long x)) (h : ov_V Z k n S (pc + 1) L (.long x :: st) σ) : ov_V Z k n S pc L st σ := by
  intro p l e R s m args below meth c Q D cy A ad0 ad H locs ls hC hT hE hW hl
  exact lv_lload_n hC.1 hC.2.1 hd rfl (ov_lget hl j hj) (h p l e R s m args below meth c Q D cy A ad0 ad H locs ls hC hT hE hW hl)
theorem ov_lload {q : Nat} {x : Int64} (hd : decode Z.2.1.2.1 pc = .ok (.lload q, 2)) (j : Nat) (hj : L[j]? = some (q, .long x)) (h : ov_V Z k n S (pc + 2) L (.long x :: st) σ) : ov_V Z k n S pc L st σ := by
  intro p l e R s m args below meth c Q D cy A ad0 ad H locs ls hC hT hE hW hl
  exact lv_lload hC.1 hC.2.1 hd (ov_lget hl j hj) (h p l e R s m args below meth c Q D cy A ad0 ad H locs ls hC hT hE hW hl)
theorem ov_lstore_n {q : Fin 4} {x : Int64} (hd : decode Z.2.1.2.1 pc = .ok (.lstore_n q, 1)) (hn : (q : Nat) + 1 < Z.2.1.2.2) (L' : List (Nat × Value)) (hL : ov_ls2 (q : Nat) (.long x) L = L') (h : ov_V Z k n S (pc + 1) L' st σ) : ov_V Z k n S pc L (.long x :: st) σ := by
  intro p l e R s m args below meth c Q D cy A ad0 ad H locs ls hC hT hE hW hl
  subst hL
  exact lv_lstore_n hC.1 hC.2.1 hd rfl hl hn (ov_lmap2 ad (q : Nat) (.long x) L) (fun ls hl => (h p l e R s m args below meth c Q D cy A ad0 ad H locs ls hC hT hE hW hl))
theorem ov_lstore {q : Nat} {x : Int64} (hd : decode Z.2.1.2.1 pc = .ok (.lstore q, 2)) (hn : q + 1 < Z.2.1.2.2) (L' : List (Nat × Value)) (hL : ov_ls2 q (.long x) L = L') (h : ov_V Z k n S (pc + 2) L' st σ) : ov_V Z k n S pc L (.long x :: st) σ := by
  intro p l e R s m args below meth c Q D cy A ad0 ad H locs ls hC hT hE hW hl
  subst hL
  exact lv_lstore hC.1 hC.2.1 hd hl hn (ov_lmap2 ad q (.long x) L) (fun ls hl => (h p l e R s m args below meth c Q D cy A ad0 ad H locs ls hC hT hE hW hl))
theorem ov_aload_n {q : Fin 4} {x : Nat} (hd : decode Z.2.1.2.1 pc = .ok (.aload_n q, 1)) (j : Nat) (hj : L[j]? = some ((q : Nat), .ref x)) (h : ov_V Z k n S (pc + 1) L (.ref x :: st) σ) : ov_V Z k n S pc L st σ := by
  intro p l e R s m args below meth c Q D cy A ad0 ad H locs ls hC hT hE hW hl
  exact lv_aload_n hC.1 hC.2.1 hd rfl (ov_lget hl j hj) (h p l e R s m args below meth c Q D cy A ad0 ad H locs ls hC hT hE hW hl)
theorem ov_aload {q : Nat} {x : Nat} (hd : decode Z.2.1.2.1 pc = .ok (.aload q, 2)) (j : Nat) (hj : L[j]? = some (q, .ref x)) (h : ov_V Z k n S (pc + 2) L (.ref x :: st) σ) : ov_V Z k n S pc L st σ := by
  intro p l e R s m args below meth c Q D cy A ad0 ad H locs ls hC hT hE hW hl
  exact lv_aload hC.1 hC.2.1 hd (ov_lget hl j hj) (h p l e R s m args below meth c Q D cy A ad0 ad H locs ls hC hT hE hW hl)
theorem ov_astore_n {q : Fin 4} {x : Nat} (hd : decode Z.2.1.2.1 pc = .ok (.astore_n q, 1)) (hn : (q : Nat) < Z.2.1.2.2) (L' : List (Nat × Value)) (hL : ov_ls (q : Nat) (.ref x) L = L') (h : ov_V Z k n S (pc + 1) L' st σ) : ov_V Z k n S pc L (.ref x :: st) σ := by
  intro p l e R s m args below meth c Q D cy A ad0 ad H locs ls hC hT hE hW hl
  subst hL
  exact lv_astore_n hC.1 hC.2.1 hd rfl hl hn (ov_lmap ad (q : Nat) (.ref x) L) (fun ls hl => (h p l e R s m args below meth c Q D cy A ad0 ad H locs ls hC hT hE hW hl))
theorem ov_astore {q : Nat} {x : Nat} (hd : decode Z.2.1.2.1 pc = .ok (.astore q, 2)) (hn : q < Z.2.1.2.2) (L' : List (Nat × Value)) (hL : ov_ls q (.ref x) L = L') (h : ov_V Z k n S (pc + 2) L' st σ) : ov_V Z k n S pc L (.ref x :: st) σ := by
  intro p l e R s m args below meth c Q D cy A ad0 ad H locs ls hC hT hE hW hl
  subst hL
  exact lv_astore hC.1 hC.2.1 hd hl hn (ov_lmap ad q (.ref x) L) (fun ls hl => (h p l e R s m args below meth c Q D cy A ad0 ad H locs ls hC hT hE hW hl))
theorem ov_iinc {q : Nat} {b : Int} {x : Int32} (hd : decode Z.2.1.2.1 pc = .ok (.iinc q b, 3)) (j : Nat) (hj : L[j]? = some (q, .int x)) (v : Int32) (hv : x + Int32.ofInt b = v) (hn : q < Z.2.1.2.2) (L' : List (Nat × Value)) (hL : ov_ls q (.int v) L = L') (h : ov_V Z k n S (pc + 3) L' st σ) : ov_V Z k n S pc L st σ := by
  intro p l e R s m args below meth c Q D cy A ad0 ad H locs ls hC hT hE hW hl
  subst hL
  exact lv_iinc (k := j) hC.1 hC.2.1 hd hl (by rw [List.getElem?_map, hj]; rfl) hv hn (ov_lmap ad q (.int v) L) (fun ls hl => (h p l e R s m args below meth c Q D cy A ad0 ad H locs ls hC hT hE hW hl))
theorem ov_iadd {x y : Int32} (hd : decode Z.2.1.2.1 pc = .ok (.iadd, 1)) (h : ov_V Z k n S (pc + 1) L (.int (x + y) :: st) σ) : ov_V Z k n S pc L (.int y :: .int x :: st) σ := by
  intro p l e R s m args below meth c Q D cy A ad0 ad H locs ls hC hT hE hW hl
  exact lv_iadd hC.1 hC.2.1 hd  (h p l e R s m args below meth c Q D cy A ad0 ad H locs ls hC hT hE hW hl)
theorem ov_isub {x y : Int32} (hd : decode Z.2.1.2.1 pc = .ok (.isub, 1)) (h : ov_V Z k n S (pc + 1) L (.int (x - y) :: st) σ) : ov_V Z k n S pc L (.int y :: .int x :: st) σ := by
  intro p l e R s m args below meth c Q D cy A ad0 ad H locs ls hC hT hE hW hl
  exact lv_isub hC.1 hC.2.1 hd  (h p l e R s m args below meth c Q D cy A ad0 ad H locs ls hC hT hE hW hl)
theorem ov_imul {x y : Int32} (hd : decode Z.2.1.2.1 pc = .ok (.imul, 1)) (h : ov_V Z k n S (pc + 1) L (.int (x * y) :: st) σ) : ov_V Z k n S pc L (.int y :: .int x :: st) σ := by
  intro p l e R s m args below meth c Q D cy A ad0 ad H locs ls hC hT hE hW hl
  exact lv_imul hC.1 hC.2.1 hd  (h p l e R s m args below meth c Q D cy A ad0 ad H locs ls hC hT hE hW hl)
theorem ov_iand {x y : Int32} (hd : decode Z.2.1.2.1 pc = .ok (.iand, 1)) (h : ov_V Z k n S (pc + 1) L (.int (x &&& y) :: st) σ) : ov_V Z k n S pc L (.int y :: .int x :: st) σ := by
  intro p l e R s m args below meth c Q D cy A ad0 ad H locs ls hC hT hE hW hl
  exact lv_iand hC.1 hC.2.1 hd  (h p l e R s m args below meth c Q D cy A ad0 ad H locs ls hC hT hE hW hl)
def ov_rem (x y : Int32) : Int32 := x - x / y * y
theorem ov_idiv {x y : Int32} (hz : ¬ y = 0) (hd : decode Z.2.1.2.1 pc = .ok (.idiv, 1)) (h : ov_V Z k n S (pc + 1) L (.int (x / y) :: st) σ) : ov_V Z k n S pc L (.int y :: .int x :: st) σ := by
  intro p l e R s m args below meth c Q D cy A ad0 ad H locs ls hC hT hE hW hl
  exact lv_idiv hC.1 hC.2.1 hd hz (h p l e R s m args below meth c Q D cy A ad0 ad H locs ls hC hT hE hW hl)
theorem ov_irem {x y : Int32} (hz : ¬ y = 0) (hd : decode Z.2.1.2.1 pc = .ok (.irem, 1)) (h : ov_V Z k n S (pc + 1) L (.int (x - x / y * y) :: st) σ) : ov_V Z k n S pc L (.int y :: .int x :: st) σ := by
  intro p l e R s m args below meth c Q D cy A ad0 ad H locs ls hC hT hE hW hl
  exact lv_irem hC.1 hC.2.1 hd hz (h p l e R s m args below meth c Q D cy A ad0 ad H locs ls hC hT hE hW hl)
theorem ov_ineg {x : Int32} (hd : decode Z.2.1.2.1 pc = .ok (.ineg, 1)) (h : ov_V Z k n S (pc + 1) L (.int (-x) :: st) σ) : ov_V Z k n S pc L (.int x :: st) σ := by
  intro p l e R s m args below meth c Q D cy A ad0 ad H locs ls hC hT hE hW hl
  exact lv_ineg hC.1 hC.2.1 hd  (h p l e R s m args below meth c Q D cy A ad0 ad H locs ls hC hT hE hW hl)
theorem ov_ishr {x y : Int32} (hd : decode Z.2.1.2.1 pc = .ok (.ishr, 1)) (h : ov_V Z k n S (pc + 1) L (.int (x >>> (y &&& 31)) :: st) σ) : ov_V Z k n S pc L (.int y :: .int x :: st) σ := by
  intro p l e R s m args below meth c Q D cy A ad0 ad H locs ls hC hT hE hW hl
  exact lv_ishr hC.1 hC.2.1 hd  (h p l e R s m args below meth c Q D cy A ad0 ad H locs ls hC hT hE hW hl)
theorem ov_iushr {x y : Int32} (hd : decode Z.2.1.2.1 pc = .ok (.iushr, 1)) (h : ov_V Z k n S (pc + 1) L (.int ((x.toUInt32 >>> (y.toUInt32 &&& Int32.toUInt32 31)).toInt32) :: st) σ) : ov_V Z k n S pc L (.int y :: .int x :: st) σ := by
  intro p l e R s m args below meth c Q D cy A ad0 ad H locs ls hC hT hE hW hl
  exact lv_iushr hC.1 hC.2.1 hd rfl (h p l e R s m args below meth c Q D cy A ad0 ad H locs ls hC hT hE hW hl)
theorem ov_ladd {x y : Int64} (hd : decode Z.2.1.2.1 pc = .ok (.ladd, 1)) (h : ov_V Z k n S (pc + 1) L (.long (x + y) :: st) σ) : ov_V Z k n S pc L (.long y :: .long x :: st) σ := by
  intro p l e R s m args below meth c Q D cy A ad0 ad H locs ls hC hT hE hW hl
  exact lv_ladd hC.1 hC.2.1 hd  (h p l e R s m args below meth c Q D cy A ad0 ad H locs ls hC hT hE hW hl)
theorem ov_lsub {x y : Int64} (hd : decode Z.2.1.2.1 pc = .ok (.lsub, 1)) (h : ov_V Z k n S (pc + 1) L (.long (x - y) :: st) σ) : ov_V Z k n S pc L (.long y :: .long x :: st) σ := by
  intro p l e R s m args below meth c Q D cy A ad0 ad H locs ls hC hT hE hW hl
  exact lv_lsub hC.1 hC.2.1 hd  (h p l e R s m args below meth c Q D cy A ad0 ad H locs ls hC hT hE hW hl)
theorem ov_lmul {x y : Int64} (hd : decode Z.2.1.2.1 pc = .ok (.lmul, 1)) (h : ov_V Z k n S (pc + 1) L (.long (x * y) :: st) σ) : ov_V Z k n S pc L (.long y :: .long x :: st) σ := by
  intro p l e R s m args below meth c Q D cy A ad0 ad H locs ls hC hT hE hW hl
  exact lv_lmul hC.1 hC.2.1 hd  (h p l e R s m args below meth c Q D cy A ad0 ad H locs ls hC hT hE hW hl)
theorem ov_ldiv {x y : Int64} (hz : ¬ y = 0) (hd : decode Z.2.1.2.1 pc = .ok (.ldiv, 1)) (h : ov_V Z k n S (pc + 1) L (.long (x / y) :: st) σ) : ov_V Z k n S pc L (.long y :: .long x :: st) σ := by
  intro p l e R s m args below meth c Q D cy A ad0 ad H locs ls hC hT hE hW hl
  exact lv_ldiv hC.1 hC.2.1 hd hz (h p l e R s m args below meth c Q D cy A ad0 ad H locs ls hC hT hE hW hl)
theorem ov_lneg {x : Int64} (hd : decode Z.2.1.2.1 pc = .ok (.lneg, 1)) (h : ov_V Z k n S (pc + 1) L (.long (-x) :: st) σ) : ov_V Z k n S pc L (.long x :: st) σ := by
  intro p l e R s m args below meth c Q D cy A ad0 ad H locs ls hC hT hE hW hl
  exact lv_lneg hC.1 hC.2.1 hd  (h p l e R s m args below meth c Q D cy A ad0 ad H locs ls hC hT hE hW hl)
theorem ov_lcmp {x y : Int64} (hd : decode Z.2.1.2.1 pc = .ok (.lcmp, 1)) (h : ov_V Z k n S (pc + 1) L (.int (lg_cmp x y) :: st) σ) : ov_V Z k n S pc L (.long y :: .long x :: st) σ := by
  intro p l e R s m args below meth c Q D cy A ad0 ad H locs ls hC hT hE hW hl
  exact W.lcmp hC.1 hC.2.1 hd  (h p l e R s m args below meth c Q D cy A ad0 ad H locs ls hC hT hE hW hl)
theorem ov_i2l {x : Int32} (hd : decode Z.2.1.2.1 pc = .ok (.i2l, 1)) (h : ov_V Z k n S (pc + 1) L (.long x.toInt64 :: st) σ) : ov_V Z k n S pc L (.int x :: st) σ := by
  intro p l e R s m args below meth c Q D cy A ad0 ad H locs ls hC hT hE hW hl
  exact lv_i2l hC.1 hC.2.1 hd rfl (h p l e R s m args below meth c Q D cy A ad0 ad H locs ls hC hT hE hW hl)
theorem ov_l2i {x : Int64} (hd : decode Z.2.1.2.1 pc = .ok (.l2i, 1)) (h : ov_V Z k n S (pc + 1) L (.int x.toInt32 :: st) σ) : ov_V Z k n S pc L (.long x :: st) σ := by
  intro p l e R s m args below meth c Q D cy A ad0 ad H locs ls hC hT hE hW hl
  exact lv_l2i hC.1 hC.2.1 hd rfl (h p l e R s m args below meth c Q D cy A ad0 ad H locs ls hC hT hE hW hl)
theorem ov_i2b {x : Int32} (hd : decode Z.2.1.2.1 pc = .ok (.i2b, 1)) (h : ov_V Z k n S (pc + 1) L (.int x.toInt8.toInt32 :: st) σ) : ov_V Z k n S pc L (.int x :: st) σ := by
  intro p l e R s m args below meth c Q D cy A ad0 ad H locs ls hC hT hE hW hl
  exact lv_i2b hC.1 hC.2.1 hd rfl (h p l e R s m args below meth c Q D cy A ad0 ad H locs ls hC hT hE hW hl)
theorem ov_i2s {x : Int32} (hd : decode Z.2.1.2.1 pc = .ok (.i2s, 1)) (h : ov_V Z k n S (pc + 1) L (.int x.toInt16.toInt32 :: st) σ) : ov_V Z k n S pc L (.int x :: st) σ := by
  intro p l e R s m args below meth c Q D cy A ad0 ad H locs ls hC hT hE hW hl
  exact lv_i2s hC.1 hC.2.1 hd rfl (h p l e R s m args below meth c Q D cy A ad0 ad H locs ls hC hT hE hW hl)
theorem ov_i2c {x : Int32} (hd : decode Z.2.1.2.1 pc = .ok (.i2c, 1)) (h : ov_V Z k n S (pc + 1) L (.int (x.toUInt32 % 65536).toInt32 :: st) σ) : ov_V Z k n S pc L (.int x :: st) σ := by
  intro p l e R s m args below meth c Q D cy A ad0 ad H locs ls hC hT hE hW hl
  exact lv_i2c hC.1 hC.2.1 hd rfl (h p l e R s m args below meth c Q D cy A ad0 ad H locs ls hC hT hE hW hl)
theorem ov_dup {v : Value} (hv : v.category = 1) (hd : decode Z.2.1.2.1 pc = .ok (.dup, 1)) (h : ov_V Z k n S (pc + 1) L (v :: v :: st) σ) : ov_V Z k n S pc L (v :: st) σ := by
  intro p l e R s m args below meth c Q D cy A ad0 ad H locs ls hC hT hE hW hl
  exact lv_dup hC.1 hC.2.1 hd ((ov_cv_cat ad v).trans hv) (h p l e R s m args below meth c Q D cy A ad0 ad H locs ls hC hT hE hW hl)
theorem ov_pop {v : Value} (hv : v.category = 1) (hd : decode Z.2.1.2.1 pc = .ok (.pop, 1)) (h : ov_V Z k n S (pc + 1) L (st) σ) : ov_V Z k n S pc L (v :: st) σ := by
  intro p l e R s m args below meth c Q D cy A ad0 ad H locs ls hC hT hE hW hl
  exact lv_pop hC.1 hC.2.1 hd ((ov_cv_cat ad v).trans hv) (h p l e R s m args below meth c Q D cy A ad0 ad H locs ls hC hT hE hW hl)
theorem ov_dup2 {v w : Value} (hv : v.category = 1) (hw : w.category = 1) (hd : decode Z.2.1.2.1 pc = .ok (.dup2, 1)) (h : ov_V Z k n S (pc + 1) L (v :: w :: v :: w :: st) σ) : ov_V Z k n S pc L (v :: w :: st) σ := by
  intro p l e R s m args below meth c Q D cy A ad0 ad H locs ls hC hT hE hW hl
  exact lv_dup2_11 hC.1 hC.2.1 hd ((ov_cv_cat ad v).trans hv) ((ov_cv_cat ad w).trans hw) (h p l e R s m args below meth c Q D cy A ad0 ad H locs ls hC hT hE hW hl)
theorem ov_if_eq {x : Int32} {off : Int} (tgt : Nat) {A B : Prop} (hd : decode Z.2.1.2.1 pc = .ok (.ifCond .eq off, 3)) (ht : (pc : Int) + off = (tgt : Int)) (hF : if x = 0 then A else B) (h1 : A → ov_V Z k n S tgt L st σ) (h2 : B → ov_V Z k n S (pc + 3) L st σ) : ov_V Z k n S pc L (.int x :: st) σ := by
  intro p l e R s m args below meth c Q D cy A ad0 ad H locs ls hC hT hE hW hl
  exact lv_if_eq hC.1 hC.2.1 hd ht (fun z => h1 (by first | (rw [if_pos z] at hF; exact hF) | (rw [if_neg z] at hF; exact hF)) p l e R s m args below meth c Q D cy _ ad0 ad H locs ls hC hT hE hW hl) (fun z => h2 (by first | (rw [if_pos z] at hF; exact hF) | (rw [if_neg z] at hF; exact hF)) p l e R s m args below meth c Q D cy _ ad0 ad H locs ls hC hT hE hW hl)
theorem ov_icmp_eq {x y : Int32} {off : Int} (tgt : Nat) {A B : Prop} (hd : decode Z.2.1.2.1 pc = .ok (.if_icmp .eq off, 3)) (ht : (pc : Int) + off = (tgt : Int)) (hF : if x = y then A else B) (h1 : A → ov_V Z k n S tgt L st σ) (h2 : B → ov_V Z k n S (pc + 3) L st σ) : ov_V Z k n S pc L (.int y :: .int x :: st) σ := by
  intro p l e R s m args below meth c Q D cy A ad0 ad H locs ls hC hT hE hW hl
  exact lv_icmp_eq hC.1 hC.2.1 hd ht (fun z => h1 (by first | (rw [if_pos z] at hF; exact hF) | (rw [if_neg z] at hF; exact hF)) p l e R s m args below meth c Q D cy _ ad0 ad H locs ls hC hT hE hW hl) (fun z => h2 (by first | (rw [if_pos z] at hF; exact hF) | (rw [if_neg z] at hF; exact hF)) p l e R s m args below meth c Q D cy _ ad0 ad H locs ls hC hT hE hW hl)
theorem ov_if_ne {x : Int32} {off : Int} (tgt : Nat) {A B : Prop} (hd : decode Z.2.1.2.1 pc = .ok (.ifCond .ne off, 3)) (ht : (pc : Int) + off = (tgt : Int)) (hF : if x = 0 then A else B) (h1 : B → ov_V Z k n S tgt L st σ) (h2 : A → ov_V Z k n S (pc + 3) L st σ) : ov_V Z k n S pc L (.int x :: st) σ := by
  intro p l e R s m args below meth c Q D cy A ad0 ad H locs ls hC hT hE hW hl
  exact lv_if_ne hC.1 hC.2.1 hd ht (fun z => h1 (by first | (rw [if_pos z] at hF; exact hF) | (rw [if_neg z] at hF; exact hF)) p l e R s m args below meth c Q D cy _ ad0 ad H locs ls hC hT hE hW hl) (fun z => h2 (by first | (rw [if_pos z] at hF; exact hF) | (rw [if_neg z] at hF; exact hF)) p l e R s m args below meth c Q D cy _ ad0 ad H locs ls hC hT hE hW hl)
theorem ov_icmp_ne {x y : Int32} {off : Int} (tgt : Nat) {A B : Prop} (hd : decode Z.2.1.2.1 pc = .ok (.if_icmp .ne off, 3)) (ht : (pc : Int) + off = (tgt : Int)) (hF : if x = y then A else B) (h1 : B → ov_V Z k n S tgt L st σ) (h2 : A → ov_V Z k n S (pc + 3) L st σ) : ov_V Z k n S pc L (.int y :: .int x :: st) σ := by
  intro p l e R s m args below meth c Q D cy A ad0 ad H locs ls hC hT hE hW hl
  exact lv_icmp_ne hC.1 hC.2.1 hd ht (fun z => h1 (by first | (rw [if_pos z] at hF; exact hF) | (rw [if_neg z] at hF; exact hF)) p l e R s m args below meth c Q D cy _ ad0 ad H locs ls hC hT hE hW hl) (fun z => h2 (by first | (rw [if_pos z] at hF; exact hF) | (rw [if_neg z] at hF; exact hF)) p l e R s m args below meth c Q D cy _ ad0 ad H locs ls hC hT hE hW hl)
theorem ov_if_lt {x : Int32} {off : Int} (tgt : Nat) {A B : Prop} (hd : decode Z.2.1.2.1 pc = .ok (.ifCond .lt off, 3)) (ht : (pc : Int) + off = (tgt : Int)) (hF : if x < 0 then A else B) (h1 : A → ov_V Z k n S tgt L st σ) (h2 : B → ov_V Z k n S (pc + 3) L st σ) : ov_V Z k n S pc L (.int x :: st) σ := by
  intro p l e R s m args below meth c Q D cy A ad0 ad H locs ls hC hT hE hW hl
  exact lv_if_lt hC.1 hC.2.1 hd ht (fun z => h1 (by first | (rw [if_pos z] at hF; exact hF) | (rw [if_neg z] at hF; exact hF)) p l e R s m args below meth c Q D cy _ ad0 ad H locs ls hC hT hE hW hl) (fun z => h2 (by first | (rw [if_pos z] at hF; exact hF) | (rw [if_neg z] at hF; exact hF)) p l e R s m args below meth c Q D cy _ ad0 ad H locs ls hC hT hE hW hl)
theorem ov_icmp_lt {x y : Int32} {off : Int} (tgt : Nat) {A B : Prop} (hd : decode Z.2.1.2.1 pc = .ok (.if_icmp .lt off, 3)) (ht : (pc : Int) + off = (tgt : Int)) (hF : if x < y then A else B) (h1 : A → ov_V Z k n S tgt L st σ) (h2 : B → ov_V Z k n S (pc + 3) L st σ) : ov_V Z k n S pc L (.int y :: .int x :: st) σ := by
  intro p l e R s m args below meth c Q D cy A ad0 ad H locs ls hC hT hE hW hl
  exact lv_icmp_lt hC.1 hC.2.1 hd ht (fun z => h1 (by first | (rw [if_pos z] at hF; exact hF) | (rw [if_neg z] at hF; exact hF)) p l e R s m args below meth c Q D cy _ ad0 ad H locs ls hC hT hE hW hl) (fun z => h2 (by first | (rw [if_pos z] at hF; exact hF) | (rw [if_neg z] at hF; exact hF)) p l e R s m args below meth c Q D cy _ ad0 ad H locs ls hC hT hE hW hl)
theorem ov_if_ge {x : Int32} {off : Int} (tgt : Nat) {A B : Prop} (hd : decode Z.2.1.2.1 pc = .ok (.ifCond .ge off, 3)) (ht : (pc : Int) + off = (tgt : Int)) (hF : if 0 ≤ x then A else B) (h1 : A → ov_V Z k n S tgt L st σ) (h2 : B → ov_V Z k n S (pc + 3) L st σ) : ov_V Z k n S pc L (.int x :: st) σ := by
  intro p l e R s m args below meth c Q D cy A ad0 ad H locs ls hC hT hE hW hl
  exact lv_if_ge hC.1 hC.2.1 hd ht (fun z => h1 (by first | (rw [if_pos z] at hF; exact hF) | (rw [if_neg z] at hF; exact hF)) p l e R s m args below meth c Q D cy _ ad0 ad H locs ls hC hT hE hW hl) (fun z => h2 (by first | (rw [if_pos z] at hF; exact hF) | (rw [if_neg z] at hF; exact hF)) p l e R s m args below meth c Q D cy _ ad0 ad H locs ls hC hT hE hW hl)
theorem ov_icmp_ge {x y : Int32} {off : Int} (tgt : Nat) {A B : Prop} (hd : decode Z.2.1.2.1 pc = .ok (.if_icmp .ge off, 3)) (ht : (pc : Int) + off = (tgt : Int)) (hF : if y ≤ x then A else B) (h1 : A → ov_V Z k n S tgt L st σ) (h2 : B → ov_V Z k n S (pc + 3) L st σ) : ov_V Z k n S pc L (.int y :: .int x :: st) σ := by
  intro p l e R s m args below meth c Q D cy A ad0 ad H locs ls hC hT hE hW hl
  exact lv_icmp_ge hC.1 hC.2.1 hd ht (fun z => h1 (by first | (rw [if_pos z] at hF; exact hF) | (rw [if_neg z] at hF; exact hF)) p l e R s m args below meth c Q D cy _ ad0 ad H locs ls hC hT hE hW hl) (fun z => h2 (by first | (rw [if_pos z] at hF; exact hF) | (rw [if_neg z] at hF; exact hF)) p l e R s m args below meth c Q D cy _ ad0 ad H locs ls hC hT hE hW hl)
theorem ov_if_gt {x : Int32} {off : Int} (tgt : Nat) {A B : Prop} (hd : decode Z.2.1.2.1 pc = .ok (.ifCond .gt off, 3)) (ht : (pc : Int) + off = (tgt : Int)) (hF : if 0 < x then A else B) (h1 : A → ov_V Z k n S tgt L st σ) (h2 : B → ov_V Z k n S (pc + 3) L st σ) : ov_V Z k n S pc L (.int x :: st) σ := by
  intro p l e R s m args below meth c Q D cy A ad0 ad H locs ls hC hT hE hW hl
  exact lv_if_gt hC.1 hC.2.1 hd ht (fun z => h1 (by first | (rw [if_pos z] at hF; exact hF) | (rw [if_neg z] at hF; exact hF)) p l e R s m args below meth c Q D cy _ ad0 ad H locs ls hC hT hE hW hl) (fun z => h2 (by first | (rw [if_pos z] at hF; exact hF) | (rw [if_neg z] at hF; exact hF)) p l e R s m args below meth c Q D cy _ ad0 ad H locs ls hC hT hE hW hl)
theorem ov_icmp_gt {x y : Int32} {off : Int} (tgt : Nat) {A B : Prop} (hd : decode Z.2.1.2.1 pc = .ok (.if_icmp .gt off, 3)) (ht : (pc : Int) + off = (tgt : Int)) (hF : if y < x then A else B) (h1 : A → ov_V Z k n S tgt L st σ) (h2 : B → ov_V Z k n S (pc + 3) L st σ) : ov_V Z k n S pc L (.int y :: .int x :: st) σ := by
  intro p l e R s m args below meth c Q D cy A ad0 ad H locs ls hC hT hE hW hl
  exact lv_icmp_gt hC.1 hC.2.1 hd ht (fun z => h1 (by first | (rw [if_pos z] at hF; exact hF) | (rw [if_neg z] at hF; exact hF)) p l e R s m args below meth c Q D cy _ ad0 ad H locs ls hC hT hE hW hl) (fun z => h2 (by first | (rw [if_pos z] at hF; exact hF) | (rw [if_neg z] at hF; exact hF)) p l e R s m args below meth c Q D cy _ ad0 ad H locs ls hC hT hE hW hl)
theorem ov_if_le {x : Int32} {off : Int} (tgt : Nat) {A B : Prop} (hd : decode Z.2.1.2.1 pc = .ok (.ifCond .le off, 3)) (ht : (pc : Int) + off = (tgt : Int)) (hF : if x ≤ 0 then A else B) (h1 : A → ov_V Z k n S tgt L st σ) (h2 : B → ov_V Z k n S (pc + 3) L st σ) : ov_V Z k n S pc L (.int x :: st) σ := by
  intro p l e R s m args below meth c Q D cy A ad0 ad H locs ls hC hT hE hW hl
  exact lv_if_le hC.1 hC.2.1 hd ht (fun z => h1 (by first | (rw [if_pos z] at hF; exact hF) | (rw [if_neg z] at hF; exact hF)) p l e R s m args below meth c Q D cy _ ad0 ad H locs ls hC hT hE hW hl) (fun z => h2 (by first | (rw [if_pos z] at hF; exact hF) | (rw [if_neg z] at hF; exact hF)) p l e R s m args below meth c Q D cy _ ad0 ad H locs ls hC hT hE hW hl)
theorem ov_icmp_le {x y : Int32} {off : Int} (tgt : Nat) {A B : Prop} (hd : decode Z.2.1.2.1 pc = .ok (.if_icmp .le off, 3)) (ht : (pc : Int) + off = (tgt : Int)) (hF : if x ≤ y then A else B) (h1 : A → ov_V Z k n S tgt L st σ) (h2 : B → ov_V Z k n S (pc + 3) L st σ) : ov_V Z k n S pc L (.int y :: .int x :: st) σ := by
  intro p l e R s m args below meth c Q D cy A ad0 ad H locs ls hC hT hE hW hl
  exact lv_icmp_le hC.1 hC.2.1 hd ht (fun z => h1 (by first | (rw [if_pos z] at hF; exact hF) | (rw [if_neg z] at hF; exact hF)) p l e R s m args below meth c Q D cy _ ad0 ad H locs ls hC hT hE hW hl) (fun z => h2 (by first | (rw [if_pos z] at hF; exact hF) | (rw [if_neg z] at hF; exact hF)) p l e R s m args below meth c Q D cy _ ad0 ad H locs ls hC hT hE hW hl)
theorem ov_goto {off : Int} (tgt : Nat) (hd : decode Z.2.1.2.1 pc = .ok (.goto off, 3)) (ht : (pc : Int) + off = (tgt : Int)) (h : ov_V Z k n S tgt L st σ) : ov_V Z k n S pc L st σ := by
  intro p l e R s m args below meth c Q D cy A ad0 ad H locs ls hC hT hE hW hl
  exact lv_goto hC.1 hC.2.1 hd ht (h p l e R s m args below meth c Q D cy A ad0 ad H locs ls hC hT hE hW hl)
end OVR
