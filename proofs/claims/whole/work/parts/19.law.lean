/-! ===== the law: cases and loop, for any invariant ===== -/
def ovXL (Ln : Nat) (xs : Nat → Int32) : ovEx := fun ad A s => va_X (ad 7000) Ln xs s s.heap ∧ ad 7000 < s.heap.size ∧ ¬ A (ad 7000)
theorem ovXL_mv (Ln : Nat) (xs : Nat → Int32) : ∀ ad A s, ovXL Ln xs ad A s → ∀ ad', (∀ i, 5000 ≤ i → ad' i = ad i) → ovXL Ln xs ad' A s := by
  intro ad A s h ad' he
  unfold ovXL at h ⊢
  rw [he 7000 (by omega)]
  exact h
abbrev ovZL (Ln : Nat) (xs : Nat → Int32) : ovZ := (120, (yL_law, cL_law, 4), ovXL Ln xs, (600000, 7302250), some 0)
abbrev ovKL : ovK := fun r _ _ => r = some (.int 1)
abbrev vL (Ln : Nat) (xs : Nat → Int32) (pc : Nat) (L : List (Nat × Value)) (st : List Value) (σ : ovSt) : Prop := ov_V (ovZL Ln xs) ovKL (98, 7497) ov_S0 pc L st σ
theorem ov_scl {Ln : Nat} {xs : Nat → Int32} {k : ovK} {n : Nat × Nat} {S : ovSh} {pc : Nat} {L : List (Nat × Value)} {st : List Value} {σ : ovSt} {x : Int32} (hd : decode cL_law pc = .ok (.iaload, 1)) (hi : vp_in x Ln) (h : ov_V (ovZL Ln xs) k n S (pc + 1) L (.int (xs x.toNatClampNeg) :: st) σ) : ov_V (ovZL Ln xs) k n S pc L (.int x :: .ref 7000 :: st) σ := by
  intro p l e R s m args below meth c Q D cy A ad0 ad H locs ls hC hT hE hW hl
  have hx := hE.2.2.2.1
  exact va_sld hC.1 hC.2.1 hx.1 hx.2.1 hx.2.2 hW.2.2 hi hd (h p l e R s m args below meth c Q D cy A ad0 ad H locs ls hC hT hE hW hl)
theorem ov_scn {Ln : Nat} {xs : Nat → Int32} {k : ovK} {n : Nat × Nat} {S : ovSh} {pc : Nat} {L : List (Nat × Value)} {st : List Value} {σ : ovSt} (hd : decode cL_law pc = .ok (.arraylength, 1)) (h : ov_V (ovZL Ln xs) k n S (pc + 1) L (.int (nI Ln) :: st) σ) : ov_V (ovZL Ln xs) k n S pc L (.ref 7000 :: st) σ := by
  intro p l e R s m args below meth c Q D cy A ad0 ad H locs ls hC hT hE hW hl
  have hx := hE.2.2.2.1
  exact va_slen hC.1 hC.2.1 hx.1 hx.2.1 hx.2.2 hW.2.2 hd (h p l e R s m args below meth c Q D cy A ad0 ad H locs ls hC hT hE hW hl)
def law_b_thing (Inv : ovSt → Prop) : Prop := ∀ σ, Inv σ → ∀ (a b : Int32), F_X5_thing a b σ (fun r σ1 => F_X6_thing a b σ1 (fun r' σ2 => r = r' ∧ Inv σ2))
set_option maxRecDepth 100000 in
set_option maxHeartbeats 4000000 in
theorem law_c0 {Ln : Nat} {xs : Nat → Int32} {Inv : ovSt → Prop} (hB : law_b_thing Inv) {i : Int32} (h1 : vp_in (i + 1) Ln) (h2 : vp_in (i + 2) Ln) (hK : ∀ σ', Inv σ' → vL Ln xs 1368 [(3, .int i), (2, .ref 74), (1, .ref 0), (0, .ref 7000)] [] σ') {σ : ovSt} (hI : Inv σ) : vL Ln xs 208 [(3, .int i), (2, .ref 74), (1, .ref 0), (0, .ref 7000)] [] σ := by
  have hF := hB σ hI (xs (i + 1).toNatClampNeg) (xs (i + 2).toNatClampNeg)
  refine ov_aload_n dL_law_208 2 rfl ?_
  refine ov_aload_n dL_law_209 3 rfl ?_
  refine ov_iload_n dL_law_210 0 rfl ?_
  refine ov_iconst 1 (by decide) dL_law_211 ?_
  refine ov_iadd dL_law_212 ?_
  refine ov_scl dL_law_213 h1 ?_
  refine ov_aload_n dL_law_214 3 rfl ?_
  refine ov_iload_n dL_law_215 0 rfl ?_
  refine ov_iconst 2 (by decide) dL_law_216 ?_
  refine ov_iadd dL_law_217 ?_
  refine ov_scl dL_law_218 h2 ?_
  refine ov_callV [.int (xs (i + 1).toNatClampNeg), .int (xs (i + 2).toNatClampNeg)] dL_law_219 (c_X5_thing hF) (Nat.le_of_ble_eq_true rfl) (Nat.le_of_ble_eq_true rfl) lk_L_13 sh_0 rfl (Nat.le_of_ble_eq_true rfl) (Nat.le_of_ble_eq_true rfl) (Nat.le_of_ble_eq_true rfl) (fun rr σ1 hF => ?_)
  obtain ⟨v1, rfl, hF⟩ := hF
  show vL Ln xs 222 [(3, .int i), (2, .ref 74), (1, .ref 0), (0, .ref 7000)] [.int v1] σ1
  refine ov_aload_n dL_law_222 1 rfl ?_
  refine ov_aload_n dL_law_223 3 rfl ?_
  refine ov_iload_n dL_law_224 0 rfl ?_
  refine ov_iconst 1 (by decide) dL_law_225 ?_
  refine ov_iadd dL_law_226 ?_
  refine ov_scl dL_law_227 h1 ?_
  refine ov_aload_n dL_law_228 3 rfl ?_
  refine ov_iload_n dL_law_229 0 rfl ?_
  refine ov_iconst 2 (by decide) dL_law_230 ?_
  refine ov_iadd dL_law_231 ?_
  refine ov_scl dL_law_232 h2 ?_
  refine ov_callV [.int (xs (i + 1).toNatClampNeg), .int (xs (i + 2).toNatClampNeg)] dL_law_233 (c_X6_thing hF) (Nat.le_of_ble_eq_true rfl) (Nat.le_of_ble_eq_true rfl) lk_L_17 sh_74 rfl (Nat.le_of_ble_eq_true rfl) (Nat.le_of_ble_eq_true rfl) (Nat.le_of_ble_eq_true rfl) (fun rr σ2 hF => ?_)
  obtain ⟨v2, rfl, hF⟩ := hF
  show vL Ln xs 236 [(3, .int i), (2, .ref 74), (1, .ref 0), (0, .ref 7000)] [.int v2, .int v1] σ2
  exact ov_icmp_eq (A := True) (B := False) 1368 dL_law_236 (by decide) (by rw [if_pos hF.1]; trivial) (fun _ => hK σ2 hF.2) (fun h => h.elim)
def law_b_toss (Inv : ovSt → Prop) : Prop := ∀ σ, Inv σ → ∀ (a b : Int32), F_X5_toss a b σ (fun r σ1 => F_X6_toss a b σ1 (fun r' σ2 => r = r' ∧ Inv σ2))
set_option maxRecDepth 100000 in
set_option maxHeartbeats 4000000 in
theorem law_c1 {Ln : Nat} {xs : Nat → Int32} {Inv : ovSt → Prop} (hB : law_b_toss Inv) {i : Int32} (h1 : vp_in (i + 1) Ln) (h2 : vp_in (i + 2) Ln) (hK : ∀ σ', Inv σ' → vL Ln xs 1368 [(3, .int i), (2, .ref 74), (1, .ref 0), (0, .ref 7000)] [] σ') {σ : ovSt} (hI : Inv σ) : vL Ln xs 241 [(3, .int i), (2, .ref 74), (1, .ref 0), (0, .ref 7000)] [] σ := by
  have hF := hB σ hI (xs (i + 1).toNatClampNeg) (xs (i + 2).toNatClampNeg)
  refine ov_aload_n dL_law_241 2 rfl ?_
  refine ov_aload_n dL_law_242 3 rfl ?_
  refine ov_iload_n dL_law_243 0 rfl ?_
  refine ov_iconst 1 (by decide) dL_law_244 ?_
  refine ov_iadd dL_law_245 ?_
  refine ov_scl dL_law_246 h1 ?_
  refine ov_aload_n dL_law_247 3 rfl ?_
  refine ov_iload_n dL_law_248 0 rfl ?_
  refine ov_iconst 2 (by decide) dL_law_249 ?_
  refine ov_iadd dL_law_250 ?_
  refine ov_scl dL_law_251 h2 ?_
  refine ov_callV [.int (xs (i + 1).toNatClampNeg), .int (xs (i + 2).toNatClampNeg)] dL_law_252 (c_X5_toss hF) (Nat.le_of_ble_eq_true rfl) (Nat.le_of_ble_eq_true rfl) lk_L_18 sh_0 rfl (Nat.le_of_ble_eq_true rfl) (Nat.le_of_ble_eq_true rfl) (Nat.le_of_ble_eq_true rfl) (fun rr σ1 hF => ?_)
  obtain ⟨v1, rfl, hF⟩ := hF
  show vL Ln xs 255 [(3, .int i), (2, .ref 74), (1, .ref 0), (0, .ref 7000)] [.int v1] σ1
  refine ov_aload_n dL_law_255 1 rfl ?_
  refine ov_aload_n dL_law_256 3 rfl ?_
  refine ov_iload_n dL_law_257 0 rfl ?_
  refine ov_iconst 1 (by decide) dL_law_258 ?_
  refine ov_iadd dL_law_259 ?_
  refine ov_scl dL_law_260 h1 ?_
  refine ov_aload_n dL_law_261 3 rfl ?_
  refine ov_iload_n dL_law_262 0 rfl ?_
  refine ov_iconst 2 (by decide) dL_law_263 ?_
  refine ov_iadd dL_law_264 ?_
  refine ov_scl dL_law_265 h2 ?_
  refine ov_callV [.int (xs (i + 1).toNatClampNeg), .int (xs (i + 2).toNatClampNeg)] dL_law_266 (c_X6_toss hF) (Nat.le_of_ble_eq_true rfl) (Nat.le_of_ble_eq_true rfl) lk_L_21 sh_74 rfl (Nat.le_of_ble_eq_true rfl) (Nat.le_of_ble_eq_true rfl) (Nat.le_of_ble_eq_true rfl) (fun rr σ2 hF => ?_)
  obtain ⟨v2, rfl, hF⟩ := hF
  show vL Ln xs 269 [(3, .int i), (2, .ref 74), (1, .ref 0), (0, .ref 7000)] [.int v2, .int v1] σ2
  exact ov_icmp_eq (A := True) (B := False) 1368 dL_law_269 (by decide) (by rw [if_pos hF.1]; trivial) (fun _ => hK σ2 hF.2) (fun h => h.elim)
def law_b_told (Inv : ovSt → Prop) : Prop := ∀ σ, Inv σ → ∀ (a b : Int32), F_X5_told a b σ (fun r σ1 => F_X6_told a b σ1 (fun r' σ2 => r = r' ∧ Inv σ2))
set_option maxRecDepth 100000 in
set_option maxHeartbeats 4000000 in
theorem law_c2 {Ln : Nat} {xs : Nat → Int32} {Inv : ovSt → Prop} (hB : law_b_told Inv) {i : Int32} (h1 : vp_in (i + 1) Ln) (h2 : vp_in (i + 2) Ln) (hK : ∀ σ', Inv σ' → vL Ln xs 1368 [(3, .int i), (2, .ref 74), (1, .ref 0), (0, .ref 7000)] [] σ') {σ : ovSt} (hI : Inv σ) : vL Ln xs 274 [(3, .int i), (2, .ref 74), (1, .ref 0), (0, .ref 7000)] [] σ := by
  have hF := hB σ hI (xs (i + 1).toNatClampNeg) (xs (i + 2).toNatClampNeg)
  refine ov_aload_n dL_law_274 2 rfl ?_
  refine ov_aload_n dL_law_275 3 rfl ?_
  refine ov_iload_n dL_law_276 0 rfl ?_
  refine ov_iconst 1 (by decide) dL_law_277 ?_
  refine ov_iadd dL_law_278 ?_
  refine ov_scl dL_law_279 h1 ?_
  refine ov_aload_n dL_law_280 3 rfl ?_
  refine ov_iload_n dL_law_281 0 rfl ?_
  refine ov_iconst 2 (by decide) dL_law_282 ?_
  refine ov_iadd dL_law_283 ?_
  refine ov_scl dL_law_284 h2 ?_
  refine ov_callV [.int (xs (i + 1).toNatClampNeg), .int (xs (i + 2).toNatClampNeg)] dL_law_285 (c_X5_told hF) (Nat.le_of_ble_eq_true rfl) (Nat.le_of_ble_eq_true rfl) lk_L_22 sh_0 rfl (Nat.le_of_ble_eq_true rfl) (Nat.le_of_ble_eq_true rfl) (Nat.le_of_ble_eq_true rfl) (fun rr σ1 hF => ?_)
  obtain ⟨v1, rfl, hF⟩ := hF
  show vL Ln xs 288 [(3, .int i), (2, .ref 74), (1, .ref 0), (0, .ref 7000)] [.int v1] σ1
  refine ov_aload_n dL_law_288 1 rfl ?_
  refine ov_aload_n dL_law_289 3 rfl ?_
  refine ov_iload_n dL_law_290 0 rfl ?_
  refine ov_iconst 1 (by decide) dL_law_291 ?_
  refine ov_iadd dL_law_292 ?_
  refine ov_scl dL_law_293 h1 ?_
  refine ov_aload_n dL_law_294 3 rfl ?_
  refine ov_iload_n dL_law_295 0 rfl ?_
  refine ov_iconst 2 (by decide) dL_law_296 ?_
  refine ov_iadd dL_law_297 ?_
  refine ov_scl dL_law_298 h2 ?_
  refine ov_callV [.int (xs (i + 1).toNatClampNeg), .int (xs (i + 2).toNatClampNeg)] dL_law_299 (c_X6_told hF) (Nat.le_of_ble_eq_true rfl) (Nat.le_of_ble_eq_true rfl) lk_L_25 sh_74 rfl (Nat.le_of_ble_eq_true rfl) (Nat.le_of_ble_eq_true rfl) (Nat.le_of_ble_eq_true rfl) (fun rr σ2 hF => ?_)
  obtain ⟨v2, rfl, hF⟩ := hF
  show vL Ln xs 302 [(3, .int i), (2, .ref 74), (1, .ref 0), (0, .ref 7000)] [.int v2, .int v1] σ2
  exact ov_icmp_eq (A := True) (B := False) 1368 dL_law_302 (by decide) (by rw [if_pos hF.1]; trivial) (fun _ => hK σ2 hF.2) (fun h => h.elim)
def law_b_as (Inv : ovSt → Prop) : Prop := ∀ σ, Inv σ → ∀ (a b : Int32), F_X5_as a b σ (fun r σ1 => F_X6_as a b σ1 (fun r' σ2 => r = r' ∧ Inv σ2))
set_option maxRecDepth 100000 in
set_option maxHeartbeats 4000000 in
theorem law_c3 {Ln : Nat} {xs : Nat → Int32} {Inv : ovSt → Prop} (hB : law_b_as Inv) {i : Int32} (h1 : vp_in (i + 1) Ln) (h2 : vp_in (i + 2) Ln) (hK : ∀ σ', Inv σ' → vL Ln xs 1368 [(3, .int i), (2, .ref 74), (1, .ref 0), (0, .ref 7000)] [] σ') {σ : ovSt} (hI : Inv σ) : vL Ln xs 307 [(3, .int i), (2, .ref 74), (1, .ref 0), (0, .ref 7000)] [] σ := by
  have hF := hB σ hI (xs (i + 1).toNatClampNeg) (xs (i + 2).toNatClampNeg)
  refine ov_aload_n dL_law_307 2 rfl ?_
  refine ov_aload_n dL_law_308 3 rfl ?_
  refine ov_iload_n dL_law_309 0 rfl ?_
  refine ov_iconst 1 (by decide) dL_law_310 ?_
  refine ov_iadd dL_law_311 ?_
  refine ov_scl dL_law_312 h1 ?_
  refine ov_aload_n dL_law_313 3 rfl ?_
  refine ov_iload_n dL_law_314 0 rfl ?_
  refine ov_iconst 2 (by decide) dL_law_315 ?_
  refine ov_iadd dL_law_316 ?_
  refine ov_scl dL_law_317 h2 ?_
  refine ov_callV [.int (xs (i + 1).toNatClampNeg), .int (xs (i + 2).toNatClampNeg)] dL_law_318 (c_X5_as hF) (Nat.le_of_ble_eq_true rfl) (Nat.le_of_ble_eq_true rfl) lk_L_26 sh_0 rfl (Nat.le_of_ble_eq_true rfl) (Nat.le_of_ble_eq_true rfl) (Nat.le_of_ble_eq_true rfl) (fun rr σ1 hF => ?_)
  obtain ⟨v1, rfl, hF⟩ := hF
  show vL Ln xs 321 [(3, .int i), (2, .ref 74), (1, .ref 0), (0, .ref 7000)] [.int v1] σ1
  refine ov_aload_n dL_law_321 1 rfl ?_
  refine ov_aload_n dL_law_322 3 rfl ?_
  refine ov_iload_n dL_law_323 0 rfl ?_
  refine ov_iconst 1 (by decide) dL_law_324 ?_
  refine ov_iadd dL_law_325 ?_
  refine ov_scl dL_law_326 h1 ?_
  refine ov_aload_n dL_law_327 3 rfl ?_
  refine ov_iload_n dL_law_328 0 rfl ?_
  refine ov_iconst 2 (by decide) dL_law_329 ?_
  refine ov_iadd dL_law_330 ?_
  refine ov_scl dL_law_331 h2 ?_
  refine ov_callV [.int (xs (i + 1).toNatClampNeg), .int (xs (i + 2).toNatClampNeg)] dL_law_332 (c_X6_as hF) (Nat.le_of_ble_eq_true rfl) (Nat.le_of_ble_eq_true rfl) lk_L_29 sh_74 rfl (Nat.le_of_ble_eq_true rfl) (Nat.le_of_ble_eq_true rfl) (Nat.le_of_ble_eq_true rfl) (fun rr σ2 hF => ?_)
  obtain ⟨v2, rfl, hF⟩ := hF
  show vL Ln xs 335 [(3, .int i), (2, .ref 74), (1, .ref 0), (0, .ref 7000)] [.int v2, .int v1] σ2
  exact ov_icmp_eq (A := True) (B := False) 1368 dL_law_335 (by decide) (by rw [if_pos hF.1]; trivial) (fun _ => hK σ2 hF.2) (fun h => h.elim)
def law_b_turns (Inv : ovSt → Prop) : Prop := ∀ σ, Inv σ → ∀ (a b : Int32), F_X5_turns a b σ (fun r σ1 => F_X6_turns a b σ1 (fun r' σ2 => r = r' ∧ Inv σ2))
set_option maxRecDepth 100000 in
set_option maxHeartbeats 4000000 in
theorem law_c4 {Ln : Nat} {xs : Nat → Int32} {Inv : ovSt → Prop} (hB : law_b_turns Inv) {i : Int32} (h1 : vp_in (i + 1) Ln) (h2 : vp_in (i + 2) Ln) (hK : ∀ σ', Inv σ' → vL Ln xs 1368 [(3, .int i), (2, .ref 74), (1, .ref 0), (0, .ref 7000)] [] σ') {σ : ovSt} (hI : Inv σ) : vL Ln xs 340 [(3, .int i), (2, .ref 74), (1, .ref 0), (0, .ref 7000)] [] σ := by
  have hF := hB σ hI (xs (i + 1).toNatClampNeg) (xs (i + 2).toNatClampNeg)
  refine ov_aload_n dL_law_340 2 rfl ?_
  refine ov_aload_n dL_law_341 3 rfl ?_
  refine ov_iload_n dL_law_342 0 rfl ?_
  refine ov_iconst 1 (by decide) dL_law_343 ?_
  refine ov_iadd dL_law_344 ?_
  refine ov_scl dL_law_345 h1 ?_
  refine ov_aload_n dL_law_346 3 rfl ?_
  refine ov_iload_n dL_law_347 0 rfl ?_
  refine ov_iconst 2 (by decide) dL_law_348 ?_
  refine ov_iadd dL_law_349 ?_
  refine ov_scl dL_law_350 h2 ?_
  refine ov_callV [.int (xs (i + 1).toNatClampNeg), .int (xs (i + 2).toNatClampNeg)] dL_law_351 (c_X5_turns hF) (Nat.le_of_ble_eq_true rfl) (Nat.le_of_ble_eq_true rfl) lk_L_30 sh_0 rfl (Nat.le_of_ble_eq_true rfl) (Nat.le_of_ble_eq_true rfl) (Nat.le_of_ble_eq_true rfl) (fun rr σ1 hF => ?_)
  obtain ⟨v1, rfl, hF⟩ := hF
  show vL Ln xs 354 [(3, .int i), (2, .ref 74), (1, .ref 0), (0, .ref 7000)] [.int v1] σ1
  refine ov_aload_n dL_law_354 1 rfl ?_
  refine ov_aload_n dL_law_355 3 rfl ?_
  refine ov_iload_n dL_law_356 0 rfl ?_
  refine ov_iconst 1 (by decide) dL_law_357 ?_
  refine ov_iadd dL_law_358 ?_
  refine ov_scl dL_law_359 h1 ?_
  refine ov_aload_n dL_law_360 3 rfl ?_
  refine ov_iload_n dL_law_361 0 rfl ?_
  refine ov_iconst 2 (by decide) dL_law_362 ?_
  refine ov_iadd dL_law_363 ?_
  refine ov_scl dL_law_364 h2 ?_
  refine ov_callV [.int (xs (i + 1).toNatClampNeg), .int (xs (i + 2).toNatClampNeg)] dL_law_365 (c_X6_turns hF) (Nat.le_of_ble_eq_true rfl) (Nat.le_of_ble_eq_true rfl) lk_L_33 sh_74 rfl (Nat.le_of_ble_eq_true rfl) (Nat.le_of_ble_eq_true rfl) (Nat.le_of_ble_eq_true rfl) (fun rr σ2 hF => ?_)
  obtain ⟨v2, rfl, hF⟩ := hF
  show vL Ln xs 368 [(3, .int i), (2, .ref 74), (1, .ref 0), (0, .ref 7000)] [.int v2, .int v1] σ2
  exact ov_icmp_eq (A := True) (B := False) 1368 dL_law_368 (by decide) (by rw [if_pos hF.1]; trivial) (fun _ => hK σ2 hF.2) (fun h => h.elim)
def law_b_set (Inv : ovSt → Prop) : Prop := ∀ σ, Inv σ → ∀ (a b c : Int32), F_X5_set a b c σ (fun r σ1 => F_X6_set a b c σ1 (fun r' σ2 => r = r' ∧ Inv σ2))
set_option maxRecDepth 100000 in
set_option maxHeartbeats 4000000 in
theorem law_c5 {Ln : Nat} {xs : Nat → Int32} {Inv : ovSt → Prop} (hB : law_b_set Inv) {i : Int32} (h1 : vp_in (i + 1) Ln) (h2 : vp_in (i + 2) Ln) (h3 : vp_in (i + 3) Ln) (hK : ∀ σ', Inv σ' → vL Ln xs 1368 [(3, .int i), (2, .ref 74), (1, .ref 0), (0, .ref 7000)] [] σ') {σ : ovSt} (hI : Inv σ) : vL Ln xs 373 [(3, .int i), (2, .ref 74), (1, .ref 0), (0, .ref 7000)] [] σ := by
  have hF := hB σ hI (xs (i + 1).toNatClampNeg) (xs (i + 2).toNatClampNeg) (xs (i + 3).toNatClampNeg)
  refine ov_aload_n dL_law_373 2 rfl ?_
  refine ov_aload_n dL_law_374 3 rfl ?_
  refine ov_iload_n dL_law_375 0 rfl ?_
  refine ov_iconst 1 (by decide) dL_law_376 ?_
  refine ov_iadd dL_law_377 ?_
  refine ov_scl dL_law_378 h1 ?_
  refine ov_aload_n dL_law_379 3 rfl ?_
  refine ov_iload_n dL_law_380 0 rfl ?_
  refine ov_iconst 2 (by decide) dL_law_381 ?_
  refine ov_iadd dL_law_382 ?_
  refine ov_scl dL_law_383 h2 ?_
  refine ov_aload_n dL_law_384 3 rfl ?_
  refine ov_iload_n dL_law_385 0 rfl ?_
  refine ov_iconst 3 (by decide) dL_law_386 ?_
  refine ov_iadd dL_law_387 ?_
  refine ov_scl dL_law_388 h3 ?_
  refine ov_callV [.int (xs (i + 1).toNatClampNeg), .int (xs (i + 2).toNatClampNeg), .int (xs (i + 3).toNatClampNeg)] dL_law_389 (c_X5_set hF) (Nat.le_of_ble_eq_true rfl) (Nat.le_of_ble_eq_true rfl) lk_L_34 sh_0 rfl (Nat.le_of_ble_eq_true rfl) (Nat.le_of_ble_eq_true rfl) (Nat.le_of_ble_eq_true rfl) (fun rr σ1 hF => ?_)
  obtain ⟨v1, rfl, hF⟩ := hF
  show vL Ln xs 392 [(3, .int i), (2, .ref 74), (1, .ref 0), (0, .ref 7000)] [.int v1] σ1
  refine ov_aload_n dL_law_392 1 rfl ?_
  refine ov_aload_n dL_law_393 3 rfl ?_
  refine ov_iload_n dL_law_394 0 rfl ?_
  refine ov_iconst 1 (by decide) dL_law_395 ?_
  refine ov_iadd dL_law_396 ?_
  refine ov_scl dL_law_397 h1 ?_
  refine ov_aload_n dL_law_398 3 rfl ?_
  refine ov_iload_n dL_law_399 0 rfl ?_
  refine ov_iconst 2 (by decide) dL_law_400 ?_
  refine ov_iadd dL_law_401 ?_
  refine ov_scl dL_law_402 h2 ?_
  refine ov_aload_n dL_law_403 3 rfl ?_
  refine ov_iload_n dL_law_404 0 rfl ?_
  refine ov_iconst 3 (by decide) dL_law_405 ?_
  refine ov_iadd dL_law_406 ?_
  refine ov_scl dL_law_407 h3 ?_
  refine ov_callV [.int (xs (i + 1).toNatClampNeg), .int (xs (i + 2).toNatClampNeg), .int (xs (i + 3).toNatClampNeg)] dL_law_408 (c_X6_set hF) (Nat.le_of_ble_eq_true rfl) (Nat.le_of_ble_eq_true rfl) lk_L_38 sh_74 rfl (Nat.le_of_ble_eq_true rfl) (Nat.le_of_ble_eq_true rfl) (Nat.le_of_ble_eq_true rfl) (fun rr σ2 hF => ?_)
  obtain ⟨v2, rfl, hF⟩ := hF
  show vL Ln xs 411 [(3, .int i), (2, .ref 74), (1, .ref 0), (0, .ref 7000)] [.int v2, .int v1] σ2
  exact ov_icmp_eq (A := True) (B := False) 1368 dL_law_411 (by decide) (by rw [if_pos hF.1]; trivial) (fun _ => hK σ2 hF.2) (fun h => h.elim)
def law_b_deal (Inv : ovSt → Prop) : Prop := ∀ σ, Inv σ → ∀ (a : Int32), F_X5_deal a σ (fun r σ1 => F_X6_deal a σ1 (fun r' σ2 => r = r' ∧ Inv σ2))
set_option maxRecDepth 100000 in
set_option maxHeartbeats 4000000 in
theorem law_c6 {Ln : Nat} {xs : Nat → Int32} {Inv : ovSt → Prop} (hB : law_b_deal Inv) {i : Int32} (h1 : vp_in (i + 1) Ln) (hK : ∀ σ', Inv σ' → vL Ln xs 1368 [(3, .int i), (2, .ref 74), (1, .ref 0), (0, .ref 7000)] [] σ') {σ : ovSt} (hI : Inv σ) : vL Ln xs 416 [(3, .int i), (2, .ref 74), (1, .ref 0), (0, .ref 7000)] [] σ := by
  have hF := hB σ hI (xs (i + 1).toNatClampNeg)
  refine ov_aload_n dL_law_416 2 rfl ?_
  refine ov_aload_n dL_law_417 3 rfl ?_
  refine ov_iload_n dL_law_418 0 rfl ?_
  refine ov_iconst 1 (by decide) dL_law_419 ?_
  refine ov_iadd dL_law_420 ?_
  refine ov_scl dL_law_421 h1 ?_
  refine ov_callV [.int (xs (i + 1).toNatClampNeg)] dL_law_422 (c_X5_deal hF) (Nat.le_of_ble_eq_true rfl) (Nat.le_of_ble_eq_true rfl) lk_L_39 sh_0 rfl (Nat.le_of_ble_eq_true rfl) (Nat.le_of_ble_eq_true rfl) (Nat.le_of_ble_eq_true rfl) (fun rr σ1 hF => ?_)
  obtain ⟨v1, rfl, hF⟩ := hF
  show vL Ln xs 425 [(3, .int i), (2, .ref 74), (1, .ref 0), (0, .ref 7000)] [.int v1] σ1
  refine ov_aload_n dL_law_425 1 rfl ?_
  refine ov_aload_n dL_law_426 3 rfl ?_
  refine ov_iload_n dL_law_427 0 rfl ?_
  refine ov_iconst 1 (by decide) dL_law_428 ?_
  refine ov_iadd dL_law_429 ?_
  refine ov_scl dL_law_430 h1 ?_
  refine ov_callV [.int (xs (i + 1).toNatClampNeg)] dL_law_431 (c_X6_deal hF) (Nat.le_of_ble_eq_true rfl) (Nat.le_of_ble_eq_true rfl) lk_L_43 sh_74 rfl (Nat.le_of_ble_eq_true rfl) (Nat.le_of_ble_eq_true rfl) (Nat.le_of_ble_eq_true rfl) (fun rr σ2 hF => ?_)
  obtain ⟨v2, rfl, hF⟩ := hF
  show vL Ln xs 434 [(3, .int i), (2, .ref 74), (1, .ref 0), (0, .ref 7000)] [.int v2, .int v1] σ2
  exact ov_icmp_eq (A := True) (B := False) 1368 dL_law_434 (by decide) (by rw [if_pos hF.1]; trivial) (fun _ => hK σ2 hF.2) (fun h => h.elim)
def law_b_seed (Inv : ovSt → Prop) : Prop := ∀ σ, Inv σ → ∀ (a : Int32), F_X5_seed a σ (fun r σ1 => F_X6_seed a σ1 (fun r' σ2 => r = r' ∧ Inv σ2))
set_option maxRecDepth 100000 in
set_option maxHeartbeats 4000000 in
theorem law_c7 {Ln : Nat} {xs : Nat → Int32} {Inv : ovSt → Prop} (hB : law_b_seed Inv) {i : Int32} (h1 : vp_in (i + 1) Ln) (hK : ∀ σ', Inv σ' → vL Ln xs 1368 [(3, .int i), (2, .ref 74), (1, .ref 0), (0, .ref 7000)] [] σ') {σ : ovSt} (hI : Inv σ) : vL Ln xs 439 [(3, .int i), (2, .ref 74), (1, .ref 0), (0, .ref 7000)] [] σ := by
  have hF := hB σ hI (xs (i + 1).toNatClampNeg)
  refine ov_aload_n dL_law_439 2 rfl ?_
  refine ov_aload_n dL_law_440 3 rfl ?_
  refine ov_iload_n dL_law_441 0 rfl ?_
  refine ov_iconst 1 (by decide) dL_law_442 ?_
  refine ov_iadd dL_law_443 ?_
  refine ov_scl dL_law_444 h1 ?_
  refine ov_callV [.int (xs (i + 1).toNatClampNeg)] dL_law_445 (c_X5_seed hF) (Nat.le_of_ble_eq_true rfl) (Nat.le_of_ble_eq_true rfl) lk_L_44 sh_0 rfl (Nat.le_of_ble_eq_true rfl) (Nat.le_of_ble_eq_true rfl) (Nat.le_of_ble_eq_true rfl) (fun rr σ1 hF => ?_)
  obtain ⟨v1, rfl, hF⟩ := hF
  show vL Ln xs 448 [(3, .int i), (2, .ref 74), (1, .ref 0), (0, .ref 7000)] [.int v1] σ1
  refine ov_aload_n dL_law_448 1 rfl ?_
  refine ov_aload_n dL_law_449 3 rfl ?_
  refine ov_iload_n dL_law_450 0 rfl ?_
  refine ov_iconst 1 (by decide) dL_law_451 ?_
  refine ov_iadd dL_law_452 ?_
  refine ov_scl dL_law_453 h1 ?_
  refine ov_callV [.int (xs (i + 1).toNatClampNeg)] dL_law_454 (c_X6_seed hF) (Nat.le_of_ble_eq_true rfl) (Nat.le_of_ble_eq_true rfl) lk_L_47 sh_74 rfl (Nat.le_of_ble_eq_true rfl) (Nat.le_of_ble_eq_true rfl) (Nat.le_of_ble_eq_true rfl) (fun rr σ2 hF => ?_)
  obtain ⟨v2, rfl, hF⟩ := hF
  show vL Ln xs 457 [(3, .int i), (2, .ref 74), (1, .ref 0), (0, .ref 7000)] [.int v2, .int v1] σ2
  exact ov_icmp_eq (A := True) (B := False) 1368 dL_law_457 (by decide) (by rw [if_pos hF.1]; trivial) (fun _ => hK σ2 hF.2) (fun h => h.elim)
def law_b_pot (Inv : ovSt → Prop) : Prop := ∀ σ, Inv σ → ∀ (a b : Int32), F_X5_pot a b σ (fun r σ1 => F_X6_pot a b σ1 (fun r' σ2 => r = r' ∧ Inv σ2))
set_option maxRecDepth 100000 in
set_option maxHeartbeats 4000000 in
theorem law_c8 {Ln : Nat} {xs : Nat → Int32} {Inv : ovSt → Prop} (hB : law_b_pot Inv) {i : Int32} (h1 : vp_in (i + 1) Ln) (h2 : vp_in (i + 2) Ln) (hK : ∀ σ', Inv σ' → vL Ln xs 1368 [(3, .int i), (2, .ref 74), (1, .ref 0), (0, .ref 7000)] [] σ') {σ : ovSt} (hI : Inv σ) : vL Ln xs 462 [(3, .int i), (2, .ref 74), (1, .ref 0), (0, .ref 7000)] [] σ := by
  have hF := hB σ hI (xs (i + 1).toNatClampNeg) (xs (i + 2).toNatClampNeg)
  refine ov_aload_n dL_law_462 2 rfl ?_
  refine ov_aload_n dL_law_463 3 rfl ?_
  refine ov_iload_n dL_law_464 0 rfl ?_
  refine ov_iconst 1 (by decide) dL_law_465 ?_
  refine ov_iadd dL_law_466 ?_
  refine ov_scl dL_law_467 h1 ?_
  refine ov_aload_n dL_law_468 3 rfl ?_
  refine ov_iload_n dL_law_469 0 rfl ?_
  refine ov_iconst 2 (by decide) dL_law_470 ?_
  refine ov_iadd dL_law_471 ?_
  refine ov_scl dL_law_472 h2 ?_
  refine ov_callV [.int (xs (i + 1).toNatClampNeg), .int (xs (i + 2).toNatClampNeg)] dL_law_473 (c_X5_pot hF) (Nat.le_of_ble_eq_true rfl) (Nat.le_of_ble_eq_true rfl) lk_L_48 sh_0 rfl (Nat.le_of_ble_eq_true rfl) (Nat.le_of_ble_eq_true rfl) (Nat.le_of_ble_eq_true rfl) (fun rr σ1 hF => ?_)
  obtain ⟨v1, rfl, hF⟩ := hF
  show vL Ln xs 476 [(3, .int i), (2, .ref 74), (1, .ref 0), (0, .ref 7000)] [.int v1] σ1
  refine ov_aload_n dL_law_476 1 rfl ?_
  refine ov_aload_n dL_law_477 3 rfl ?_
  refine ov_iload_n dL_law_478 0 rfl ?_
  refine ov_iconst 1 (by decide) dL_law_479 ?_
  refine ov_iadd dL_law_480 ?_
  refine ov_scl dL_law_481 h1 ?_
  refine ov_aload_n dL_law_482 3 rfl ?_
  refine ov_iload_n dL_law_483 0 rfl ?_
  refine ov_iconst 2 (by decide) dL_law_484 ?_
  refine ov_iadd dL_law_485 ?_
  refine ov_scl dL_law_486 h2 ?_
  refine ov_callV [.int (xs (i + 1).toNatClampNeg), .int (xs (i + 2).toNatClampNeg)] dL_law_487 (c_X6_pot hF) (Nat.le_of_ble_eq_true rfl) (Nat.le_of_ble_eq_true rfl) lk_L_51 sh_74 rfl (Nat.le_of_ble_eq_true rfl) (Nat.le_of_ble_eq_true rfl) (Nat.le_of_ble_eq_true rfl) (fun rr σ2 hF => ?_)
  obtain ⟨v2, rfl, hF⟩ := hF
  show vL Ln xs 490 [(3, .int i), (2, .ref 74), (1, .ref 0), (0, .ref 7000)] [.int v2, .int v1] σ2
  exact ov_icmp_eq (A := True) (B := False) 1368 dL_law_490 (by decide) (by rw [if_pos hF.1]; trivial) (fun _ => hK σ2 hF.2) (fun h => h.elim)
def law_b_days (Inv : ovSt → Prop) : Prop := ∀ σ, Inv σ → ∀ (a : Int32), F_X5_days a σ (fun r σ1 => F_X6_days a σ1 (fun r' σ2 => r = r' ∧ Inv σ2))
set_option maxRecDepth 100000 in
set_option maxHeartbeats 4000000 in
theorem law_c9 {Ln : Nat} {xs : Nat → Int32} {Inv : ovSt → Prop} (hB : law_b_days Inv) {i : Int32} (h1 : vp_in (i + 1) Ln) (hK : ∀ σ', Inv σ' → vL Ln xs 1368 [(3, .int i), (2, .ref 74), (1, .ref 0), (0, .ref 7000)] [] σ') {σ : ovSt} (hI : Inv σ) : vL Ln xs 495 [(3, .int i), (2, .ref 74), (1, .ref 0), (0, .ref 7000)] [] σ := by
  have hF := hB σ hI (xs (i + 1).toNatClampNeg)
  refine ov_aload_n dL_law_495 2 rfl ?_
  refine ov_aload_n dL_law_496 3 rfl ?_
  refine ov_iload_n dL_law_497 0 rfl ?_
  refine ov_iconst 1 (by decide) dL_law_498 ?_
  refine ov_iadd dL_law_499 ?_
  refine ov_scl dL_law_500 h1 ?_
  refine ov_callV [.int (xs (i + 1).toNatClampNeg)] dL_law_501 (c_X5_days hF) (Nat.le_of_ble_eq_true rfl) (Nat.le_of_ble_eq_true rfl) lk_L_52 sh_0 rfl (Nat.le_of_ble_eq_true rfl) (Nat.le_of_ble_eq_true rfl) (Nat.le_of_ble_eq_true rfl) (fun rr σ1 hF => ?_)
  obtain ⟨v1, rfl, hF⟩ := hF
  show vL Ln xs 504 [(3, .int i), (2, .ref 74), (1, .ref 0), (0, .ref 7000)] [.int v1] σ1
  refine ov_aload_n dL_law_504 1 rfl ?_
  refine ov_aload_n dL_law_505 3 rfl ?_
  refine ov_iload_n dL_law_506 0 rfl ?_
  refine ov_iconst 1 (by decide) dL_law_507 ?_
  refine ov_iadd dL_law_508 ?_
  refine ov_scl dL_law_509 h1 ?_
  refine ov_callV [.int (xs (i + 1).toNatClampNeg)] dL_law_510 (c_X6_days hF) (Nat.le_of_ble_eq_true rfl) (Nat.le_of_ble_eq_true rfl) lk_L_55 sh_74 rfl (Nat.le_of_ble_eq_true rfl) (Nat.le_of_ble_eq_true rfl) (Nat.le_of_ble_eq_true rfl) (fun rr σ2 hF => ?_)
  obtain ⟨v2, rfl, hF⟩ := hF
  show vL Ln xs 513 [(3, .int i), (2, .ref 74), (1, .ref 0), (0, .ref 7000)] [.int v2, .int v1] σ2
  exact ov_icmp_eq (A := True) (B := False) 1368 dL_law_513 (by decide) (by rw [if_pos hF.1]; trivial) (fun _ => hK σ2 hF.2) (fun h => h.elim)
def law_b_taste (Inv : ovSt → Prop) : Prop := ∀ σ, Inv σ → F_X5_taste σ (fun r σ1 => F_X6_taste σ1 (fun r' σ2 => r = r' ∧ Inv σ2))
set_option maxRecDepth 100000 in
set_option maxHeartbeats 4000000 in
theorem law_c10 {Ln : Nat} {xs : Nat → Int32} {Inv : ovSt → Prop} (hB : law_b_taste Inv) {i : Int32} (hK : ∀ σ', Inv σ' → vL Ln xs 1368 [(3, .int i), (2, .ref 74), (1, .ref 0), (0, .ref 7000)] [] σ') {σ : ovSt} (hI : Inv σ) : vL Ln xs 518 [(3, .int i), (2, .ref 74), (1, .ref 0), (0, .ref 7000)] [] σ := by
  have hF := hB σ hI
  refine ov_aload_n dL_law_518 2 rfl ?_
  refine ov_callV [] dL_law_519 (c_X5_taste hF) (Nat.le_of_ble_eq_true rfl) (Nat.le_of_ble_eq_true rfl) lk_L_56 sh_0 rfl (Nat.le_of_ble_eq_true rfl) (Nat.le_of_ble_eq_true rfl) (Nat.le_of_ble_eq_true rfl) (fun rr σ1 hF => ?_)
  obtain ⟨v1, rfl, hF⟩ := hF
  show vL Ln xs 522 [(3, .int i), (2, .ref 74), (1, .ref 0), (0, .ref 7000)] [.int v1] σ1
  refine ov_aload_n dL_law_522 1 rfl ?_
  refine ov_callV [] dL_law_523 (c_X6_taste hF) (Nat.le_of_ble_eq_true rfl) (Nat.le_of_ble_eq_true rfl) lk_L_60 sh_74 rfl (Nat.le_of_ble_eq_true rfl) (Nat.le_of_ble_eq_true rfl) (Nat.le_of_ble_eq_true rfl) (fun rr σ2 hF => ?_)
  obtain ⟨v2, rfl, hF⟩ := hF
  show vL Ln xs 526 [(3, .int i), (2, .ref 74), (1, .ref 0), (0, .ref 7000)] [.int v2, .int v1] σ2
  exact ov_icmp_eq (A := True) (B := False) 1368 dL_law_526 (by decide) (by rw [if_pos hF.1]; trivial) (fun _ => hK σ2 hF.2) (fun h => h.elim)
def law_b_grams (Inv : ovSt → Prop) : Prop := ∀ σ, Inv σ → ∀ (a : Int32), F_X5_grams a σ (fun r σ1 => F_X6_grams a σ1 (fun r' σ2 => r = r' ∧ Inv σ2))
set_option maxRecDepth 100000 in
set_option maxHeartbeats 4000000 in
theorem law_c11 {Ln : Nat} {xs : Nat → Int32} {Inv : ovSt → Prop} (hB : law_b_grams Inv) {i : Int32} (h1 : vp_in (i + 1) Ln) (hK : ∀ σ', Inv σ' → vL Ln xs 1368 [(3, .int i), (2, .ref 74), (1, .ref 0), (0, .ref 7000)] [] σ') {σ : ovSt} (hI : Inv σ) : vL Ln xs 531 [(3, .int i), (2, .ref 74), (1, .ref 0), (0, .ref 7000)] [] σ := by
  have hF := hB σ hI (xs (i + 1).toNatClampNeg)
  refine ov_aload_n dL_law_531 2 rfl ?_
  refine ov_aload_n dL_law_532 3 rfl ?_
  refine ov_iload_n dL_law_533 0 rfl ?_
  refine ov_iconst 1 (by decide) dL_law_534 ?_
  refine ov_iadd dL_law_535 ?_
  refine ov_scl dL_law_536 h1 ?_
  refine ov_callV [.int (xs (i + 1).toNatClampNeg)] dL_law_537 (c_X5_grams hF) (Nat.le_of_ble_eq_true rfl) (Nat.le_of_ble_eq_true rfl) lk_L_61 sh_0 rfl (Nat.le_of_ble_eq_true rfl) (Nat.le_of_ble_eq_true rfl) (Nat.le_of_ble_eq_true rfl) (fun rr σ1 hF => ?_)
  obtain ⟨v1, rfl, hF⟩ := hF
  show vL Ln xs 540 [(3, .int i), (2, .ref 74), (1, .ref 0), (0, .ref 7000)] [.int v1] σ1
  refine ov_aload_n dL_law_540 1 rfl ?_
  refine ov_aload_n dL_law_541 3 rfl ?_
  refine ov_iload_n dL_law_542 0 rfl ?_
  refine ov_iconst 1 (by decide) dL_law_543 ?_
  refine ov_iadd dL_law_544 ?_
  refine ov_scl dL_law_545 h1 ?_
  refine ov_callV [.int (xs (i + 1).toNatClampNeg)] dL_law_546 (c_X6_grams hF) (Nat.le_of_ble_eq_true rfl) (Nat.le_of_ble_eq_true rfl) lk_L_64 sh_74 rfl (Nat.le_of_ble_eq_true rfl) (Nat.le_of_ble_eq_true rfl) (Nat.le_of_ble_eq_true rfl) (fun rr σ2 hF => ?_)
  obtain ⟨v2, rfl, hF⟩ := hF
  show vL Ln xs 549 [(3, .int i), (2, .ref 74), (1, .ref 0), (0, .ref 7000)] [.int v2, .int v1] σ2
  exact ov_icmp_eq (A := True) (B := False) 1368 dL_law_549 (by decide) (by rw [if_pos hF.1]; trivial) (fun _ => hK σ2 hF.2) (fun h => h.elim)
def law_b_lot (Inv : ovSt → Prop) : Prop := ∀ σ, Inv σ → F_X5_lot σ (fun r σ1 => F_X6_lot σ1 (fun r' σ2 => r = r' ∧ Inv σ2))
set_option maxRecDepth 100000 in
set_option maxHeartbeats 4000000 in
theorem law_c12 {Ln : Nat} {xs : Nat → Int32} {Inv : ovSt → Prop} (hB : law_b_lot Inv) {i : Int32} (hK : ∀ σ', Inv σ' → vL Ln xs 1368 [(3, .int i), (2, .ref 74), (1, .ref 0), (0, .ref 7000)] [] σ') {σ : ovSt} (hI : Inv σ) : vL Ln xs 554 [(3, .int i), (2, .ref 74), (1, .ref 0), (0, .ref 7000)] [] σ := by
  have hF := hB σ hI
  refine ov_aload_n dL_law_554 2 rfl ?_
  refine ov_callV [] dL_law_555 (c_X5_lot hF) (Nat.le_of_ble_eq_true rfl) (Nat.le_of_ble_eq_true rfl) lk_L_65 sh_0 rfl (Nat.le_of_ble_eq_true rfl) (Nat.le_of_ble_eq_true rfl) (Nat.le_of_ble_eq_true rfl) (fun rr σ1 hF => ?_)
  obtain ⟨v1, rfl, hF⟩ := hF
  show vL Ln xs 558 [(3, .int i), (2, .ref 74), (1, .ref 0), (0, .ref 7000)] [.int v1] σ1
  refine ov_aload_n dL_law_558 1 rfl ?_
  refine ov_callV [] dL_law_559 (c_X6_lot hF) (Nat.le_of_ble_eq_true rfl) (Nat.le_of_ble_eq_true rfl) lk_L_68 sh_74 rfl (Nat.le_of_ble_eq_true rfl) (Nat.le_of_ble_eq_true rfl) (Nat.le_of_ble_eq_true rfl) (fun rr σ2 hF => ?_)
  obtain ⟨v2, rfl, hF⟩ := hF
  show vL Ln xs 562 [(3, .int i), (2, .ref 74), (1, .ref 0), (0, .ref 7000)] [.int v2, .int v1] σ2
  exact ov_icmp_eq (A := True) (B := False) 1368 dL_law_562 (by decide) (by rw [if_pos hF.1]; trivial) (fun _ => hK σ2 hF.2) (fun h => h.elim)
def law_b_behind (Inv : ovSt → Prop) : Prop := ∀ σ, Inv σ → ∀ (a b c : Int32), F_X5_behind a b c σ (fun r σ1 => F_X6_behind a b c σ1 (fun r' σ2 => r = r' ∧ Inv σ2))
set_option maxRecDepth 100000 in
set_option maxHeartbeats 4000000 in
theorem law_c13 {Ln : Nat} {xs : Nat → Int32} {Inv : ovSt → Prop} (hB : law_b_behind Inv) {i : Int32} (h1 : vp_in (i + 1) Ln) (h2 : vp_in (i + 2) Ln) (h3 : vp_in (i + 3) Ln) (hK : ∀ σ', Inv σ' → vL Ln xs 1368 [(3, .int i), (2, .ref 74), (1, .ref 0), (0, .ref 7000)] [] σ') {σ : ovSt} (hI : Inv σ) : vL Ln xs 567 [(3, .int i), (2, .ref 74), (1, .ref 0), (0, .ref 7000)] [] σ := by
  have hF := hB σ hI (xs (i + 1).toNatClampNeg) (xs (i + 2).toNatClampNeg) (xs (i + 3).toNatClampNeg)
  refine ov_aload_n dL_law_567 2 rfl ?_
  refine ov_aload_n dL_law_568 3 rfl ?_
  refine ov_iload_n dL_law_569 0 rfl ?_
  refine ov_iconst 1 (by decide) dL_law_570 ?_
  refine ov_iadd dL_law_571 ?_
  refine ov_scl dL_law_572 h1 ?_
  refine ov_aload_n dL_law_573 3 rfl ?_
  refine ov_iload_n dL_law_574 0 rfl ?_
  refine ov_iconst 2 (by decide) dL_law_575 ?_
  refine ov_iadd dL_law_576 ?_
  refine ov_scl dL_law_577 h2 ?_
  refine ov_aload_n dL_law_578 3 rfl ?_
  refine ov_iload_n dL_law_579 0 rfl ?_
  refine ov_iconst 3 (by decide) dL_law_580 ?_
  refine ov_iadd dL_law_581 ?_
  refine ov_scl dL_law_582 h3 ?_
  refine ov_callV [.int (xs (i + 1).toNatClampNeg), .int (xs (i + 2).toNatClampNeg), .int (xs (i + 3).toNatClampNeg)] dL_law_583 (c_X5_behind hF) (Nat.le_of_ble_eq_true rfl) (Nat.le_of_ble_eq_true rfl) lk_L_69 sh_0 rfl (Nat.le_of_ble_eq_true rfl) (Nat.le_of_ble_eq_true rfl) (Nat.le_of_ble_eq_true rfl) (fun rr σ1 hF => ?_)
  obtain ⟨v1, rfl, hF⟩ := hF
  show vL Ln xs 586 [(3, .int i), (2, .ref 74), (1, .ref 0), (0, .ref 7000)] [.int v1] σ1
  refine ov_aload_n dL_law_586 1 rfl ?_
  refine ov_aload_n dL_law_587 3 rfl ?_
  refine ov_iload_n dL_law_588 0 rfl ?_
  refine ov_iconst 1 (by decide) dL_law_589 ?_
  refine ov_iadd dL_law_590 ?_
  refine ov_scl dL_law_591 h1 ?_
  refine ov_aload_n dL_law_592 3 rfl ?_
  refine ov_iload_n dL_law_593 0 rfl ?_
  refine ov_iconst 2 (by decide) dL_law_594 ?_
  refine ov_iadd dL_law_595 ?_
  refine ov_scl dL_law_596 h2 ?_
  refine ov_aload_n dL_law_597 3 rfl ?_
  refine ov_iload_n dL_law_598 0 rfl ?_
  refine ov_iconst 3 (by decide) dL_law_599 ?_
  refine ov_iadd dL_law_600 ?_
  refine ov_scl dL_law_601 h3 ?_
  refine ov_callV [.int (xs (i + 1).toNatClampNeg), .int (xs (i + 2).toNatClampNeg), .int (xs (i + 3).toNatClampNeg)] dL_law_602 (c_X6_behind hF) (Nat.le_of_ble_eq_true rfl) (Nat.le_of_ble_eq_true rfl) lk_L_72 sh_74 rfl (Nat.le_of_ble_eq_true rfl) (Nat.le_of_ble_eq_true rfl) (Nat.le_of_ble_eq_true rfl) (fun rr σ2 hF => ?_)
  obtain ⟨v2, rfl, hF⟩ := hF
  show vL Ln xs 605 [(3, .int i), (2, .ref 74), (1, .ref 0), (0, .ref 7000)] [.int v2, .int v1] σ2
  exact ov_icmp_eq (A := True) (B := False) 1368 dL_law_605 (by decide) (by rw [if_pos hF.1]; trivial) (fun _ => hK σ2 hF.2) (fun h => h.elim)
def law_b_tasted (Inv : ovSt → Prop) : Prop := ∀ σ, Inv σ → ∀ (a : Int32), F_X5_tasted a σ (fun r σ1 => F_X6_tasted a σ1 (fun r' σ2 => r = r' ∧ Inv σ2))
set_option maxRecDepth 100000 in
set_option maxHeartbeats 4000000 in
theorem law_c14 {Ln : Nat} {xs : Nat → Int32} {Inv : ovSt → Prop} (hB : law_b_tasted Inv) {i : Int32} (h1 : vp_in (i + 1) Ln) (hK : ∀ σ', Inv σ' → vL Ln xs 1368 [(3, .int i), (2, .ref 74), (1, .ref 0), (0, .ref 7000)] [] σ') {σ : ovSt} (hI : Inv σ) : vL Ln xs 610 [(3, .int i), (2, .ref 74), (1, .ref 0), (0, .ref 7000)] [] σ := by
  have hF := hB σ hI (xs (i + 1).toNatClampNeg)
  refine ov_aload_n dL_law_610 2 rfl ?_
  refine ov_aload_n dL_law_611 3 rfl ?_
  refine ov_iload_n dL_law_612 0 rfl ?_
  refine ov_iconst 1 (by decide) dL_law_613 ?_
  refine ov_iadd dL_law_614 ?_
  refine ov_scl dL_law_615 h1 ?_
  refine ov_callV [.int (xs (i + 1).toNatClampNeg)] dL_law_616 (c_X5_tasted hF) (Nat.le_of_ble_eq_true rfl) (Nat.le_of_ble_eq_true rfl) lk_L_73 sh_0 rfl (Nat.le_of_ble_eq_true rfl) (Nat.le_of_ble_eq_true rfl) (Nat.le_of_ble_eq_true rfl) (fun rr σ1 hF => ?_)
  obtain ⟨v1, rfl, hF⟩ := hF
  show vL Ln xs 619 [(3, .int i), (2, .ref 74), (1, .ref 0), (0, .ref 7000)] [.int v1] σ1
  refine ov_aload_n dL_law_619 1 rfl ?_
  refine ov_aload_n dL_law_620 3 rfl ?_
  refine ov_iload_n dL_law_621 0 rfl ?_
  refine ov_iconst 1 (by decide) dL_law_622 ?_
  refine ov_iadd dL_law_623 ?_
  refine ov_scl dL_law_624 h1 ?_
  refine ov_callV [.int (xs (i + 1).toNatClampNeg)] dL_law_625 (c_X6_tasted hF) (Nat.le_of_ble_eq_true rfl) (Nat.le_of_ble_eq_true rfl) lk_L_76 sh_74 rfl (Nat.le_of_ble_eq_true rfl) (Nat.le_of_ble_eq_true rfl) (Nat.le_of_ble_eq_true rfl) (fun rr σ2 hF => ?_)
  obtain ⟨v2, rfl, hF⟩ := hF
  show vL Ln xs 628 [(3, .int i), (2, .ref 74), (1, .ref 0), (0, .ref 7000)] [.int v2, .int v1] σ2
  exact ov_icmp_eq (A := True) (B := False) 1368 dL_law_628 (by decide) (by rw [if_pos hF.1]; trivial) (fun _ => hK σ2 hF.2) (fun h => h.elim)
def law_b_steer (Inv : ovSt → Prop) : Prop := ∀ σ, Inv σ → ∀ (a b c : Int32), F_X5_steer a b c σ (fun r σ1 => F_X6_steer a b c σ1 (fun r' σ2 => r = r' ∧ Inv σ2))
set_option maxRecDepth 100000 in
set_option maxHeartbeats 4000000 in
theorem law_c15 {Ln : Nat} {xs : Nat → Int32} {Inv : ovSt → Prop} (hB : law_b_steer Inv) {i : Int32} (h1 : vp_in (i + 1) Ln) (h2 : vp_in (i + 2) Ln) (h3 : vp_in (i + 3) Ln) (hK : ∀ σ', Inv σ' → vL Ln xs 1368 [(3, .int i), (2, .ref 74), (1, .ref 0), (0, .ref 7000)] [] σ') {σ : ovSt} (hI : Inv σ) : vL Ln xs 633 [(3, .int i), (2, .ref 74), (1, .ref 0), (0, .ref 7000)] [] σ := by
  have hF := hB σ hI (xs (i + 1).toNatClampNeg) (xs (i + 2).toNatClampNeg) (xs (i + 3).toNatClampNeg)
  refine ov_aload_n dL_law_633 2 rfl ?_
  refine ov_aload_n dL_law_634 3 rfl ?_
  refine ov_iload_n dL_law_635 0 rfl ?_
  refine ov_iconst 1 (by decide) dL_law_636 ?_
  refine ov_iadd dL_law_637 ?_
  refine ov_scl dL_law_638 h1 ?_
  refine ov_aload_n dL_law_639 3 rfl ?_
  refine ov_iload_n dL_law_640 0 rfl ?_
  refine ov_iconst 2 (by decide) dL_law_641 ?_
  refine ov_iadd dL_law_642 ?_
  refine ov_scl dL_law_643 h2 ?_
  refine ov_aload_n dL_law_644 3 rfl ?_
  refine ov_iload_n dL_law_645 0 rfl ?_
  refine ov_iconst 3 (by decide) dL_law_646 ?_
  refine ov_iadd dL_law_647 ?_
  refine ov_scl dL_law_648 h3 ?_
  refine ov_callV [.int (xs (i + 1).toNatClampNeg), .int (xs (i + 2).toNatClampNeg), .int (xs (i + 3).toNatClampNeg)] dL_law_649 (c_X5_steer hF) (Nat.le_of_ble_eq_true rfl) (Nat.le_of_ble_eq_true rfl) lk_L_77 sh_0 rfl (Nat.le_of_ble_eq_true rfl) (Nat.le_of_ble_eq_true rfl) (Nat.le_of_ble_eq_true rfl) (fun rr σ1 hF => ?_)
  obtain ⟨v1, rfl, hF⟩ := hF
  show vL Ln xs 652 [(3, .int i), (2, .ref 74), (1, .ref 0), (0, .ref 7000)] [.int v1] σ1
  refine ov_aload_n dL_law_652 1 rfl ?_
  refine ov_aload_n dL_law_653 3 rfl ?_
  refine ov_iload_n dL_law_654 0 rfl ?_
  refine ov_iconst 1 (by decide) dL_law_655 ?_
  refine ov_iadd dL_law_656 ?_
  refine ov_scl dL_law_657 h1 ?_
  refine ov_aload_n dL_law_658 3 rfl ?_
  refine ov_iload_n dL_law_659 0 rfl ?_
  refine ov_iconst 2 (by decide) dL_law_660 ?_
  refine ov_iadd dL_law_661 ?_
  refine ov_scl dL_law_662 h2 ?_
  refine ov_aload_n dL_law_663 3 rfl ?_
  refine ov_iload_n dL_law_664 0 rfl ?_
  refine ov_iconst 3 (by decide) dL_law_665 ?_
  refine ov_iadd dL_law_666 ?_
  refine ov_scl dL_law_667 h3 ?_
  refine ov_callV [.int (xs (i + 1).toNatClampNeg), .int (xs (i + 2).toNatClampNeg), .int (xs (i + 3).toNatClampNeg)] dL_law_668 (c_X6_steer hF) (Nat.le_of_ble_eq_true rfl) (Nat.le_of_ble_eq_true rfl) lk_L_80 sh_74 rfl (Nat.le_of_ble_eq_true rfl) (Nat.le_of_ble_eq_true rfl) (Nat.le_of_ble_eq_true rfl) (fun rr σ2 hF => ?_)
  obtain ⟨v2, rfl, hF⟩ := hF
  show vL Ln xs 671 [(3, .int i), (2, .ref 74), (1, .ref 0), (0, .ref 7000)] [.int v2, .int v1] σ2
  exact ov_icmp_eq (A := True) (B := False) 1368 dL_law_671 (by decide) (by rw [if_pos hF.1]; trivial) (fun _ => hK σ2 hF.2) (fun h => h.elim)
def law_b_leastPot (Inv : ovSt → Prop) : Prop := ∀ σ, Inv σ → ∀ (a b c : Int32), F_X5_leastPot a b c σ (fun r σ1 => F_X6_leastPot a b c σ1 (fun r' σ2 => r = r' ∧ Inv σ2))
set_option maxRecDepth 100000 in
set_option maxHeartbeats 4000000 in
theorem law_c16 {Ln : Nat} {xs : Nat → Int32} {Inv : ovSt → Prop} (hB : law_b_leastPot Inv) {i : Int32} (h1 : vp_in (i + 1) Ln) (h2 : vp_in (i + 2) Ln) (h3 : vp_in (i + 3) Ln) (hK : ∀ σ', Inv σ' → vL Ln xs 1368 [(3, .int i), (2, .ref 74), (1, .ref 0), (0, .ref 7000)] [] σ') {σ : ovSt} (hI : Inv σ) : vL Ln xs 676 [(3, .int i), (2, .ref 74), (1, .ref 0), (0, .ref 7000)] [] σ := by
  have hF := hB σ hI (xs (i + 1).toNatClampNeg) (xs (i + 2).toNatClampNeg) (xs (i + 3).toNatClampNeg)
  refine ov_aload_n dL_law_676 2 rfl ?_
  refine ov_aload_n dL_law_677 3 rfl ?_
  refine ov_iload_n dL_law_678 0 rfl ?_
  refine ov_iconst 1 (by decide) dL_law_679 ?_
  refine ov_iadd dL_law_680 ?_
  refine ov_scl dL_law_681 h1 ?_
  refine ov_aload_n dL_law_682 3 rfl ?_
  refine ov_iload_n dL_law_683 0 rfl ?_
  refine ov_iconst 2 (by decide) dL_law_684 ?_
  refine ov_iadd dL_law_685 ?_
  refine ov_scl dL_law_686 h2 ?_
  refine ov_aload_n dL_law_687 3 rfl ?_
  refine ov_iload_n dL_law_688 0 rfl ?_
  refine ov_iconst 3 (by decide) dL_law_689 ?_
  refine ov_iadd dL_law_690 ?_
  refine ov_scl dL_law_691 h3 ?_
  refine ov_callV [.int (xs (i + 1).toNatClampNeg), .int (xs (i + 2).toNatClampNeg), .int (xs (i + 3).toNatClampNeg)] dL_law_692 (c_X5_leastPot hF) (Nat.le_of_ble_eq_true rfl) (Nat.le_of_ble_eq_true rfl) lk_L_81 sh_0 rfl (Nat.le_of_ble_eq_true rfl) (Nat.le_of_ble_eq_true rfl) (Nat.le_of_ble_eq_true rfl) (fun rr σ1 hF => ?_)
  obtain ⟨v1, rfl, hF⟩ := hF
  show vL Ln xs 695 [(3, .int i), (2, .ref 74), (1, .ref 0), (0, .ref 7000)] [.int v1] σ1
  refine ov_aload_n dL_law_695 1 rfl ?_
  refine ov_aload_n dL_law_696 3 rfl ?_
  refine ov_iload_n dL_law_697 0 rfl ?_
  refine ov_iconst 1 (by decide) dL_law_698 ?_
  refine ov_iadd dL_law_699 ?_
  refine ov_scl dL_law_700 h1 ?_
  refine ov_aload_n dL_law_701 3 rfl ?_
  refine ov_iload_n dL_law_702 0 rfl ?_
  refine ov_iconst 2 (by decide) dL_law_703 ?_
  refine ov_iadd dL_law_704 ?_
  refine ov_scl dL_law_705 h2 ?_
  refine ov_aload_n dL_law_706 3 rfl ?_
  refine ov_iload_n dL_law_707 0 rfl ?_
  refine ov_iconst 3 (by decide) dL_law_708 ?_
  refine ov_iadd dL_law_709 ?_
  refine ov_scl dL_law_710 h3 ?_
  refine ov_callV [.int (xs (i + 1).toNatClampNeg), .int (xs (i + 2).toNatClampNeg), .int (xs (i + 3).toNatClampNeg)] dL_law_711 (c_X6_leastPot hF) (Nat.le_of_ble_eq_true rfl) (Nat.le_of_ble_eq_true rfl) lk_L_84 sh_74 rfl (Nat.le_of_ble_eq_true rfl) (Nat.le_of_ble_eq_true rfl) (Nat.le_of_ble_eq_true rfl) (fun rr σ2 hF => ?_)
  obtain ⟨v2, rfl, hF⟩ := hF
  show vL Ln xs 714 [(3, .int i), (2, .ref 74), (1, .ref 0), (0, .ref 7000)] [.int v2, .int v1] σ2
  exact ov_icmp_eq (A := True) (B := False) 1368 dL_law_714 (by decide) (by rw [if_pos hF.1]; trivial) (fun _ => hK σ2 hF.2) (fun h => h.elim)
def law_b_nearest (Inv : ovSt → Prop) : Prop := ∀ σ, Inv σ → ∀ (a : Int32), F_X5_nearest a σ (fun r σ1 => F_X6_nearest a σ1 (fun r' σ2 => r = r' ∧ Inv σ2))
set_option maxRecDepth 100000 in
set_option maxHeartbeats 4000000 in
theorem law_c17 {Ln : Nat} {xs : Nat → Int32} {Inv : ovSt → Prop} (hB : law_b_nearest Inv) {i : Int32} (h1 : vp_in (i + 1) Ln) (hK : ∀ σ', Inv σ' → vL Ln xs 1368 [(3, .int i), (2, .ref 74), (1, .ref 0), (0, .ref 7000)] [] σ') {σ : ovSt} (hI : Inv σ) : vL Ln xs 719 [(3, .int i), (2, .ref 74), (1, .ref 0), (0, .ref 7000)] [] σ := by
  have hF := hB σ hI (xs (i + 1).toNatClampNeg)
  refine ov_aload_n dL_law_719 2 rfl ?_
  refine ov_aload_n dL_law_720 3 rfl ?_
  refine ov_iload_n dL_law_721 0 rfl ?_
  refine ov_iconst 1 (by decide) dL_law_722 ?_
  refine ov_iadd dL_law_723 ?_
  refine ov_scl dL_law_724 h1 ?_
  refine ov_callV [.int (xs (i + 1).toNatClampNeg)] dL_law_725 (c_X5_nearest hF) (Nat.le_of_ble_eq_true rfl) (Nat.le_of_ble_eq_true rfl) lk_L_85 sh_0 rfl (Nat.le_of_ble_eq_true rfl) (Nat.le_of_ble_eq_true rfl) (Nat.le_of_ble_eq_true rfl) (fun rr σ1 hF => ?_)
  obtain ⟨v1, rfl, hF⟩ := hF
  show vL Ln xs 728 [(3, .int i), (2, .ref 74), (1, .ref 0), (0, .ref 7000)] [.int v1] σ1
  refine ov_aload_n dL_law_728 1 rfl ?_
  refine ov_aload_n dL_law_729 3 rfl ?_
  refine ov_iload_n dL_law_730 0 rfl ?_
  refine ov_iconst 1 (by decide) dL_law_731 ?_
  refine ov_iadd dL_law_732 ?_
  refine ov_scl dL_law_733 h1 ?_
  refine ov_callV [.int (xs (i + 1).toNatClampNeg)] dL_law_734 (c_X6_nearest hF) (Nat.le_of_ble_eq_true rfl) (Nat.le_of_ble_eq_true rfl) lk_L_88 sh_74 rfl (Nat.le_of_ble_eq_true rfl) (Nat.le_of_ble_eq_true rfl) (Nat.le_of_ble_eq_true rfl) (fun rr σ2 hF => ?_)
  obtain ⟨v2, rfl, hF⟩ := hF
  show vL Ln xs 737 [(3, .int i), (2, .ref 74), (1, .ref 0), (0, .ref 7000)] [.int v2, .int v1] σ2
  exact ov_icmp_eq (A := True) (B := False) 1368 dL_law_737 (by decide) (by rw [if_pos hF.1]; trivial) (fun _ => hK σ2 hF.2) (fun h => h.elim)
def law_b_thrown (Inv : ovSt → Prop) : Prop := ∀ σ, Inv σ → ∀ (a b : Int32), F_X5_thrown a b σ (fun r σ1 => F_X6_thrown a b σ1 (fun r' σ2 => r = r' ∧ Inv σ2))
set_option maxRecDepth 100000 in
set_option maxHeartbeats 4000000 in
theorem law_c18 {Ln : Nat} {xs : Nat → Int32} {Inv : ovSt → Prop} (hB : law_b_thrown Inv) {i : Int32} (h1 : vp_in (i + 1) Ln) (h2 : vp_in (i + 2) Ln) (hK : ∀ σ', Inv σ' → vL Ln xs 1368 [(3, .int i), (2, .ref 74), (1, .ref 0), (0, .ref 7000)] [] σ') {σ : ovSt} (hI : Inv σ) : vL Ln xs 742 [(3, .int i), (2, .ref 74), (1, .ref 0), (0, .ref 7000)] [] σ := by
  have hF := hB σ hI (xs (i + 1).toNatClampNeg) (xs (i + 2).toNatClampNeg)
  refine ov_aload_n dL_law_742 2 rfl ?_
  refine ov_aload_n dL_law_743 3 rfl ?_
  refine ov_iload_n dL_law_744 0 rfl ?_
  refine ov_iconst 1 (by decide) dL_law_745 ?_
  refine ov_iadd dL_law_746 ?_
  refine ov_scl dL_law_747 h1 ?_
  refine ov_aload_n dL_law_748 3 rfl ?_
  refine ov_iload_n dL_law_749 0 rfl ?_
  refine ov_iconst 2 (by decide) dL_law_750 ?_
  refine ov_iadd dL_law_751 ?_
  refine ov_scl dL_law_752 h2 ?_
  refine ov_callV [.int (xs (i + 1).toNatClampNeg), .int (xs (i + 2).toNatClampNeg)] dL_law_753 (c_X5_thrown hF) (Nat.le_of_ble_eq_true rfl) (Nat.le_of_ble_eq_true rfl) lk_L_89 sh_0 rfl (Nat.le_of_ble_eq_true rfl) (Nat.le_of_ble_eq_true rfl) (Nat.le_of_ble_eq_true rfl) (fun rr σ1 hF => ?_)
  obtain ⟨v1, rfl, hF⟩ := hF
  show vL Ln xs 756 [(3, .int i), (2, .ref 74), (1, .ref 0), (0, .ref 7000)] [.int v1] σ1
  refine ov_aload_n dL_law_756 1 rfl ?_
  refine ov_aload_n dL_law_757 3 rfl ?_
  refine ov_iload_n dL_law_758 0 rfl ?_
  refine ov_iconst 1 (by decide) dL_law_759 ?_
  refine ov_iadd dL_law_760 ?_
  refine ov_scl dL_law_761 h1 ?_
  refine ov_aload_n dL_law_762 3 rfl ?_
  refine ov_iload_n dL_law_763 0 rfl ?_
  refine ov_iconst 2 (by decide) dL_law_764 ?_
  refine ov_iadd dL_law_765 ?_
  refine ov_scl dL_law_766 h2 ?_
  refine ov_callV [.int (xs (i + 1).toNatClampNeg), .int (xs (i + 2).toNatClampNeg)] dL_law_767 (c_X6_thrown hF) (Nat.le_of_ble_eq_true rfl) (Nat.le_of_ble_eq_true rfl) lk_L_92 sh_74 rfl (Nat.le_of_ble_eq_true rfl) (Nat.le_of_ble_eq_true rfl) (Nat.le_of_ble_eq_true rfl) (fun rr σ2 hF => ?_)
  obtain ⟨v2, rfl, hF⟩ := hF
  show vL Ln xs 770 [(3, .int i), (2, .ref 74), (1, .ref 0), (0, .ref 7000)] [.int v2, .int v1] σ2
  exact ov_icmp_eq (A := True) (B := False) 1368 dL_law_770 (by decide) (by rw [if_pos hF.1]; trivial) (fun _ => hK σ2 hF.2) (fun h => h.elim)
def law_b_halved (Inv : ovSt → Prop) : Prop := ∀ σ, Inv σ → F_X5_halved σ (fun r σ1 => F_X6_halved σ1 (fun r' σ2 => r = r' ∧ Inv σ2))
set_option maxRecDepth 100000 in
set_option maxHeartbeats 4000000 in
theorem law_c19 {Ln : Nat} {xs : Nat → Int32} {Inv : ovSt → Prop} (hB : law_b_halved Inv) {i : Int32} (hK : ∀ σ', Inv σ' → vL Ln xs 1368 [(3, .int i), (2, .ref 74), (1, .ref 0), (0, .ref 7000)] [] σ') {σ : ovSt} (hI : Inv σ) : vL Ln xs 775 [(3, .int i), (2, .ref 74), (1, .ref 0), (0, .ref 7000)] [] σ := by
  have hF := hB σ hI
  refine ov_aload_n dL_law_775 2 rfl ?_
  refine ov_callV [] dL_law_776 (c_X5_halved hF) (Nat.le_of_ble_eq_true rfl) (Nat.le_of_ble_eq_true rfl) lk_L_93 sh_0 rfl (Nat.le_of_ble_eq_true rfl) (Nat.le_of_ble_eq_true rfl) (Nat.le_of_ble_eq_true rfl) (fun rr σ1 hF => ?_)
  obtain ⟨v1, rfl, hF⟩ := hF
  show vL Ln xs 779 [(3, .int i), (2, .ref 74), (1, .ref 0), (0, .ref 7000)] [.int v1] σ1
  refine ov_aload_n dL_law_779 1 rfl ?_
  refine ov_callV [] dL_law_780 (c_X6_halved hF) (Nat.le_of_ble_eq_true rfl) (Nat.le_of_ble_eq_true rfl) lk_L_96 sh_74 rfl (Nat.le_of_ble_eq_true rfl) (Nat.le_of_ble_eq_true rfl) (Nat.le_of_ble_eq_true rfl) (fun rr σ2 hF => ?_)
  obtain ⟨v2, rfl, hF⟩ := hF
  show vL Ln xs 783 [(3, .int i), (2, .ref 74), (1, .ref 0), (0, .ref 7000)] [.int v2, .int v1] σ2
  exact ov_icmp_eq (A := True) (B := False) 1368 dL_law_783 (by decide) (by rw [if_pos hF.1]; trivial) (fun _ => hK σ2 hF.2) (fun h => h.elim)
def law_b_differs (Inv : ovSt → Prop) : Prop := ∀ σ, Inv σ → F_X5_differs σ (fun r σ1 => F_X6_differs σ1 (fun r' σ2 => r = r' ∧ Inv σ2))
set_option maxRecDepth 100000 in
set_option maxHeartbeats 4000000 in
theorem law_c20 {Ln : Nat} {xs : Nat → Int32} {Inv : ovSt → Prop} (hB : law_b_differs Inv) {i : Int32} (hK : ∀ σ', Inv σ' → vL Ln xs 1368 [(3, .int i), (2, .ref 74), (1, .ref 0), (0, .ref 7000)] [] σ') {σ : ovSt} (hI : Inv σ) : vL Ln xs 788 [(3, .int i), (2, .ref 74), (1, .ref 0), (0, .ref 7000)] [] σ := by
  have hF := hB σ hI
  refine ov_aload_n dL_law_788 2 rfl ?_
  refine ov_callV [] dL_law_789 (c_X5_differs hF) (Nat.le_of_ble_eq_true rfl) (Nat.le_of_ble_eq_true rfl) lk_L_97 sh_0 rfl (Nat.le_of_ble_eq_true rfl) (Nat.le_of_ble_eq_true rfl) (Nat.le_of_ble_eq_true rfl) (fun rr σ1 hF => ?_)
  obtain ⟨v1, rfl, hF⟩ := hF
  show vL Ln xs 792 [(3, .int i), (2, .ref 74), (1, .ref 0), (0, .ref 7000)] [.int v1] σ1
  refine ov_aload_n dL_law_792 1 rfl ?_
  refine ov_callV [] dL_law_793 (c_X6_differs hF) (Nat.le_of_ble_eq_true rfl) (Nat.le_of_ble_eq_true rfl) lk_L_100 sh_74 rfl (Nat.le_of_ble_eq_true rfl) (Nat.le_of_ble_eq_true rfl) (Nat.le_of_ble_eq_true rfl) (fun rr σ2 hF => ?_)
  obtain ⟨v2, rfl, hF⟩ := hF
  show vL Ln xs 796 [(3, .int i), (2, .ref 74), (1, .ref 0), (0, .ref 7000)] [.int v2, .int v1] σ2
  exact ov_icmp_eq (A := True) (B := False) 1368 dL_law_796 (by decide) (by rw [if_pos hF.1]; trivial) (fun _ => hK σ2 hF.2) (fun h => h.elim)
def law_b_feed (Inv : ovSt → Prop) : Prop := ∀ σ, Inv σ → ∀ (a b c : Int32), F_X5_feed a b c σ (fun r σ1 => F_X6_feed a b c σ1 (fun r' σ2 => r = r' ∧ Inv σ2))
set_option maxRecDepth 100000 in
set_option maxHeartbeats 4000000 in
theorem law_c21 {Ln : Nat} {xs : Nat → Int32} {Inv : ovSt → Prop} (hB : law_b_feed Inv) {i : Int32} (h1 : vp_in (i + 1) Ln) (h2 : vp_in (i + 2) Ln) (h3 : vp_in (i + 3) Ln) (hK : ∀ σ', Inv σ' → vL Ln xs 1368 [(3, .int i), (2, .ref 74), (1, .ref 0), (0, .ref 7000)] [] σ') {σ : ovSt} (hI : Inv σ) : vL Ln xs 801 [(3, .int i), (2, .ref 74), (1, .ref 0), (0, .ref 7000)] [] σ := by
  have hF := hB σ hI (xs (i + 1).toNatClampNeg) (xs (i + 2).toNatClampNeg) (xs (i + 3).toNatClampNeg)
  refine ov_aload_n dL_law_801 2 rfl ?_
  refine ov_aload_n dL_law_802 3 rfl ?_
  refine ov_iload_n dL_law_803 0 rfl ?_
  refine ov_iconst 1 (by decide) dL_law_804 ?_
  refine ov_iadd dL_law_805 ?_
  refine ov_scl dL_law_806 h1 ?_
  refine ov_aload_n dL_law_807 3 rfl ?_
  refine ov_iload_n dL_law_808 0 rfl ?_
  refine ov_iconst 2 (by decide) dL_law_809 ?_
  refine ov_iadd dL_law_810 ?_
  refine ov_scl dL_law_811 h2 ?_
  refine ov_aload_n dL_law_812 3 rfl ?_
  refine ov_iload_n dL_law_813 0 rfl ?_
  refine ov_iconst 3 (by decide) dL_law_814 ?_
  refine ov_iadd dL_law_815 ?_
  refine ov_scl dL_law_816 h3 ?_
  refine ov_callV [.int (xs (i + 1).toNatClampNeg), .int (xs (i + 2).toNatClampNeg), .int (xs (i + 3).toNatClampNeg)] dL_law_817 (c_X5_feed hF) (Nat.le_of_ble_eq_true rfl) (Nat.le_of_ble_eq_true rfl) lk_L_101 sh_0 rfl (Nat.le_of_ble_eq_true rfl) (Nat.le_of_ble_eq_true rfl) (Nat.le_of_ble_eq_true rfl) (fun rr σ1 hF => ?_)
  obtain ⟨v1, rfl, hF⟩ := hF
  show vL Ln xs 820 [(3, .int i), (2, .ref 74), (1, .ref 0), (0, .ref 7000)] [.int v1] σ1
  refine ov_aload_n dL_law_820 1 rfl ?_
  refine ov_aload_n dL_law_821 3 rfl ?_
  refine ov_iload_n dL_law_822 0 rfl ?_
  refine ov_iconst 1 (by decide) dL_law_823 ?_
  refine ov_iadd dL_law_824 ?_
  refine ov_scl dL_law_825 h1 ?_
  refine ov_aload_n dL_law_826 3 rfl ?_
  refine ov_iload_n dL_law_827 0 rfl ?_
  refine ov_iconst 2 (by decide) dL_law_828 ?_
  refine ov_iadd dL_law_829 ?_
  refine ov_scl dL_law_830 h2 ?_
  refine ov_aload_n dL_law_831 3 rfl ?_
  refine ov_iload_n dL_law_832 0 rfl ?_
  refine ov_iconst 3 (by decide) dL_law_833 ?_
  refine ov_iadd dL_law_834 ?_
  refine ov_scl dL_law_835 h3 ?_
  refine ov_callV [.int (xs (i + 1).toNatClampNeg), .int (xs (i + 2).toNatClampNeg), .int (xs (i + 3).toNatClampNeg)] dL_law_836 (c_X6_feed hF) (Nat.le_of_ble_eq_true rfl) (Nat.le_of_ble_eq_true rfl) lk_L_104 sh_74 rfl (Nat.le_of_ble_eq_true rfl) (Nat.le_of_ble_eq_true rfl) (Nat.le_of_ble_eq_true rfl) (fun rr σ2 hF => ?_)
  obtain ⟨v2, rfl, hF⟩ := hF
  show vL Ln xs 839 [(3, .int i), (2, .ref 74), (1, .ref 0), (0, .ref 7000)] [.int v2, .int v1] σ2
  exact ov_icmp_eq (A := True) (B := False) 1368 dL_law_839 (by decide) (by rw [if_pos hF.1]; trivial) (fun _ => hK σ2 hF.2) (fun h => h.elim)
def law_b_trim (Inv : ovSt → Prop) : Prop := ∀ σ, Inv σ → ∀ (a : Int32), F_X5_trim a σ (fun r σ1 => F_X6_trim a σ1 (fun r' σ2 => r = r' ∧ Inv σ2))
set_option maxRecDepth 100000 in
set_option maxHeartbeats 4000000 in
theorem law_c22 {Ln : Nat} {xs : Nat → Int32} {Inv : ovSt → Prop} (hB : law_b_trim Inv) {i : Int32} (h1 : vp_in (i + 1) Ln) (hK : ∀ σ', Inv σ' → vL Ln xs 1368 [(3, .int i), (2, .ref 74), (1, .ref 0), (0, .ref 7000)] [] σ') {σ : ovSt} (hI : Inv σ) : vL Ln xs 844 [(3, .int i), (2, .ref 74), (1, .ref 0), (0, .ref 7000)] [] σ := by
  have hF := hB σ hI (xs (i + 1).toNatClampNeg)
  refine ov_aload_n dL_law_844 2 rfl ?_
  refine ov_aload_n dL_law_845 3 rfl ?_
  refine ov_iload_n dL_law_846 0 rfl ?_
  refine ov_iconst 1 (by decide) dL_law_847 ?_
  refine ov_iadd dL_law_848 ?_
  refine ov_scl dL_law_849 h1 ?_
  refine ov_callV [.int (xs (i + 1).toNatClampNeg)] dL_law_850 (c_X5_trim hF) (Nat.le_of_ble_eq_true rfl) (Nat.le_of_ble_eq_true rfl) lk_L_105 sh_0 rfl (Nat.le_of_ble_eq_true rfl) (Nat.le_of_ble_eq_true rfl) (Nat.le_of_ble_eq_true rfl) (fun rr σ1 hF => ?_)
  obtain ⟨v1, rfl, hF⟩ := hF
  show vL Ln xs 853 [(3, .int i), (2, .ref 74), (1, .ref 0), (0, .ref 7000)] [.int v1] σ1
  refine ov_aload_n dL_law_853 1 rfl ?_
  refine ov_aload_n dL_law_854 3 rfl ?_
  refine ov_iload_n dL_law_855 0 rfl ?_
  refine ov_iconst 1 (by decide) dL_law_856 ?_
  refine ov_iadd dL_law_857 ?_
  refine ov_scl dL_law_858 h1 ?_
  refine ov_callV [.int (xs (i + 1).toNatClampNeg)] dL_law_859 (c_X6_trim hF) (Nat.le_of_ble_eq_true rfl) (Nat.le_of_ble_eq_true rfl) lk_L_108 sh_74 rfl (Nat.le_of_ble_eq_true rfl) (Nat.le_of_ble_eq_true rfl) (Nat.le_of_ble_eq_true rfl) (fun rr σ2 hF => ?_)
  obtain ⟨v2, rfl, hF⟩ := hF
  show vL Ln xs 862 [(3, .int i), (2, .ref 74), (1, .ref 0), (0, .ref 7000)] [.int v2, .int v1] σ2
  exact ov_icmp_eq (A := True) (B := False) 1368 dL_law_862 (by decide) (by rw [if_pos hF.1]; trivial) (fun _ => hK σ2 hF.2) (fun h => h.elim)
def law_b_text (Inv : ovSt → Prop) : Prop := ∀ σ, Inv σ → F_X5_text σ (fun r σ1 => F_X6_text σ1 (fun r' σ2 => r = r' ∧ Inv σ2))
set_option maxRecDepth 100000 in
set_option maxHeartbeats 4000000 in
theorem law_c23 {Ln : Nat} {xs : Nat → Int32} {Inv : ovSt → Prop} (hB : law_b_text Inv) {i : Int32} (hK : ∀ σ', Inv σ' → vL Ln xs 1368 [(3, .int i), (2, .ref 74), (1, .ref 0), (0, .ref 7000)] [] σ') {σ : ovSt} (hI : Inv σ) : vL Ln xs 867 [(3, .int i), (2, .ref 74), (1, .ref 0), (0, .ref 7000)] [] σ := by
  have hF := hB σ hI
  refine ov_aload_n dL_law_867 2 rfl ?_
  refine ov_callV [] dL_law_868 (c_X5_text hF) (Nat.le_of_ble_eq_true rfl) (Nat.le_of_ble_eq_true rfl) lk_L_109 sh_0 rfl (Nat.le_of_ble_eq_true rfl) (Nat.le_of_ble_eq_true rfl) (Nat.le_of_ble_eq_true rfl) (fun rr σ1 hF => ?_)
  obtain ⟨v1, rfl, hF⟩ := hF
  show vL Ln xs 871 [(3, .int i), (2, .ref 74), (1, .ref 0), (0, .ref 7000)] [.int v1] σ1
  refine ov_aload_n dL_law_871 1 rfl ?_
  refine ov_callV [] dL_law_872 (c_X6_text hF) (Nat.le_of_ble_eq_true rfl) (Nat.le_of_ble_eq_true rfl) lk_L_112 sh_74 rfl (Nat.le_of_ble_eq_true rfl) (Nat.le_of_ble_eq_true rfl) (Nat.le_of_ble_eq_true rfl) (fun rr σ2 hF => ?_)
  obtain ⟨v2, rfl, hF⟩ := hF
  show vL Ln xs 875 [(3, .int i), (2, .ref 74), (1, .ref 0), (0, .ref 7000)] [.int v2, .int v1] σ2
  exact ov_icmp_eq (A := True) (B := False) 1368 dL_law_875 (by decide) (by rw [if_pos hF.1]; trivial) (fun _ => hK σ2 hF.2) (fun h => h.elim)
def law_b_textTold (Inv : ovSt → Prop) : Prop := ∀ σ, Inv σ → ∀ (a b : Int32), F_X5_textTold a b σ (fun r σ1 => F_X6_textTold a b σ1 (fun r' σ2 => r = r' ∧ Inv σ2))
set_option maxRecDepth 100000 in
set_option maxHeartbeats 4000000 in
theorem law_c24 {Ln : Nat} {xs : Nat → Int32} {Inv : ovSt → Prop} (hB : law_b_textTold Inv) {i : Int32} (h1 : vp_in (i + 1) Ln) (h2 : vp_in (i + 2) Ln) (hK : ∀ σ', Inv σ' → vL Ln xs 1368 [(3, .int i), (2, .ref 74), (1, .ref 0), (0, .ref 7000)] [] σ') {σ : ovSt} (hI : Inv σ) : vL Ln xs 880 [(3, .int i), (2, .ref 74), (1, .ref 0), (0, .ref 7000)] [] σ := by
  have hF := hB σ hI (xs (i + 1).toNatClampNeg) (xs (i + 2).toNatClampNeg)
  refine ov_aload_n dL_law_880 2 rfl ?_
  refine ov_aload_n dL_law_881 3 rfl ?_
  refine ov_iload_n dL_law_882 0 rfl ?_
  refine ov_iconst 1 (by decide) dL_law_883 ?_
  refine ov_iadd dL_law_884 ?_
  refine ov_scl dL_law_885 h1 ?_
  refine ov_aload_n dL_law_886 3 rfl ?_
  refine ov_iload_n dL_law_887 0 rfl ?_
  refine ov_iconst 2 (by decide) dL_law_888 ?_
  refine ov_iadd dL_law_889 ?_
  refine ov_scl dL_law_890 h2 ?_
  refine ov_callV [.int (xs (i + 1).toNatClampNeg), .int (xs (i + 2).toNatClampNeg)] dL_law_891 (c_X5_textTold hF) (Nat.le_of_ble_eq_true rfl) (Nat.le_of_ble_eq_true rfl) lk_L_113 sh_0 rfl (Nat.le_of_ble_eq_true rfl) (Nat.le_of_ble_eq_true rfl) (Nat.le_of_ble_eq_true rfl) (fun rr σ1 hF => ?_)
  obtain ⟨v1, rfl, hF⟩ := hF
  show vL Ln xs 894 [(3, .int i), (2, .ref 74), (1, .ref 0), (0, .ref 7000)] [.int v1] σ1
  refine ov_aload_n dL_law_894 1 rfl ?_
  refine ov_aload_n dL_law_895 3 rfl ?_
  refine ov_iload_n dL_law_896 0 rfl ?_
  refine ov_iconst 1 (by decide) dL_law_897 ?_
  refine ov_iadd dL_law_898 ?_
  refine ov_scl dL_law_899 h1 ?_
  refine ov_aload_n dL_law_900 3 rfl ?_
  refine ov_iload_n dL_law_901 0 rfl ?_
  refine ov_iconst 2 (by decide) dL_law_902 ?_
  refine ov_iadd dL_law_903 ?_
  refine ov_scl dL_law_904 h2 ?_
  refine ov_callV [.int (xs (i + 1).toNatClampNeg), .int (xs (i + 2).toNatClampNeg)] dL_law_905 (c_X6_textTold hF) (Nat.le_of_ble_eq_true rfl) (Nat.le_of_ble_eq_true rfl) lk_L_116 sh_74 rfl (Nat.le_of_ble_eq_true rfl) (Nat.le_of_ble_eq_true rfl) (Nat.le_of_ble_eq_true rfl) (fun rr σ2 hF => ?_)
  obtain ⟨v2, rfl, hF⟩ := hF
  show vL Ln xs 908 [(3, .int i), (2, .ref 74), (1, .ref 0), (0, .ref 7000)] [.int v2, .int v1] σ2
  exact ov_icmp_eq (A := True) (B := False) 1368 dL_law_908 (by decide) (by rw [if_pos hF.1]; trivial) (fun _ => hK σ2 hF.2) (fun h => h.elim)
def law_b_why (Inv : ovSt → Prop) : Prop := ∀ σ, Inv σ → ∀ (a : Int32), F_X5_why a σ (fun r σ1 => F_X6_why a σ1 (fun r' σ2 => r = r' ∧ Inv σ2))
set_option maxRecDepth 100000 in
set_option maxHeartbeats 4000000 in
theorem law_c25 {Ln : Nat} {xs : Nat → Int32} {Inv : ovSt → Prop} (hB : law_b_why Inv) {i : Int32} (h1 : vp_in (i + 1) Ln) (hK : ∀ σ', Inv σ' → vL Ln xs 1368 [(3, .int i), (2, .ref 74), (1, .ref 0), (0, .ref 7000)] [] σ') {σ : ovSt} (hI : Inv σ) : vL Ln xs 913 [(3, .int i), (2, .ref 74), (1, .ref 0), (0, .ref 7000)] [] σ := by
  have hF := hB σ hI (xs (i + 1).toNatClampNeg)
  refine ov_aload_n dL_law_913 2 rfl ?_
  refine ov_aload_n dL_law_914 3 rfl ?_
  refine ov_iload_n dL_law_915 0 rfl ?_
  refine ov_iconst 1 (by decide) dL_law_916 ?_
  refine ov_iadd dL_law_917 ?_
  refine ov_scl dL_law_918 h1 ?_
  refine ov_callV [.int (xs (i + 1).toNatClampNeg)] dL_law_919 (c_X5_why hF) (Nat.le_of_ble_eq_true rfl) (Nat.le_of_ble_eq_true rfl) lk_L_117 sh_0 rfl (Nat.le_of_ble_eq_true rfl) (Nat.le_of_ble_eq_true rfl) (Nat.le_of_ble_eq_true rfl) (fun rr σ1 hF => ?_)
  obtain ⟨v1, rfl, hF⟩ := hF
  show vL Ln xs 922 [(3, .int i), (2, .ref 74), (1, .ref 0), (0, .ref 7000)] [.int v1] σ1
  refine ov_aload_n dL_law_922 1 rfl ?_
  refine ov_aload_n dL_law_923 3 rfl ?_
  refine ov_iload_n dL_law_924 0 rfl ?_
  refine ov_iconst 1 (by decide) dL_law_925 ?_
  refine ov_iadd dL_law_926 ?_
  refine ov_scl dL_law_927 h1 ?_
  refine ov_callV [.int (xs (i + 1).toNatClampNeg)] dL_law_928 (c_X6_why hF) (Nat.le_of_ble_eq_true rfl) (Nat.le_of_ble_eq_true rfl) lk_L_120 sh_74 rfl (Nat.le_of_ble_eq_true rfl) (Nat.le_of_ble_eq_true rfl) (Nat.le_of_ble_eq_true rfl) (fun rr σ2 hF => ?_)
  obtain ⟨v2, rfl, hF⟩ := hF
  show vL Ln xs 931 [(3, .int i), (2, .ref 74), (1, .ref 0), (0, .ref 7000)] [.int v2, .int v1] σ2
  exact ov_icmp_eq (A := True) (B := False) 1368 dL_law_931 (by decide) (by rw [if_pos hF.1]; trivial) (fun _ => hK σ2 hF.2) (fun h => h.elim)
def law_b_sheet (Inv : ovSt → Prop) : Prop := ∀ σ, Inv σ → ∀ (a b c : Int32), F_X5_sheet a b c σ (fun r σ1 => F_X6_sheet a b c σ1 (fun r' σ2 => r = r' ∧ Inv σ2))
set_option maxRecDepth 100000 in
set_option maxHeartbeats 4000000 in
theorem law_c26 {Ln : Nat} {xs : Nat → Int32} {Inv : ovSt → Prop} (hB : law_b_sheet Inv) {i : Int32} (h1 : vp_in (i + 1) Ln) (h2 : vp_in (i + 2) Ln) (h3 : vp_in (i + 3) Ln) (hK : ∀ σ', Inv σ' → vL Ln xs 1368 [(3, .int i), (2, .ref 74), (1, .ref 0), (0, .ref 7000)] [] σ') {σ : ovSt} (hI : Inv σ) : vL Ln xs 936 [(3, .int i), (2, .ref 74), (1, .ref 0), (0, .ref 7000)] [] σ := by
  have hF := hB σ hI (xs (i + 1).toNatClampNeg) (xs (i + 2).toNatClampNeg) (xs (i + 3).toNatClampNeg)
  refine ov_aload_n dL_law_936 2 rfl ?_
  refine ov_aload_n dL_law_937 3 rfl ?_
  refine ov_iload_n dL_law_938 0 rfl ?_
  refine ov_iconst 1 (by decide) dL_law_939 ?_
  refine ov_iadd dL_law_940 ?_
  refine ov_scl dL_law_941 h1 ?_
  refine ov_aload_n dL_law_942 3 rfl ?_
  refine ov_iload_n dL_law_943 0 rfl ?_
  refine ov_iconst 2 (by decide) dL_law_944 ?_
  refine ov_iadd dL_law_945 ?_
  refine ov_scl dL_law_946 h2 ?_
  refine ov_aload_n dL_law_947 3 rfl ?_
  refine ov_iload_n dL_law_948 0 rfl ?_
  refine ov_iconst 3 (by decide) dL_law_949 ?_
  refine ov_iadd dL_law_950 ?_
  refine ov_scl dL_law_951 h3 ?_
  refine ov_callV [.int (xs (i + 1).toNatClampNeg), .int (xs (i + 2).toNatClampNeg), .int (xs (i + 3).toNatClampNeg)] dL_law_952 (c_X5_sheet hF) (Nat.le_of_ble_eq_true rfl) (Nat.le_of_ble_eq_true rfl) lk_L_121 sh_0 rfl (Nat.le_of_ble_eq_true rfl) (Nat.le_of_ble_eq_true rfl) (Nat.le_of_ble_eq_true rfl) (fun rr σ1 hF => ?_)
  obtain ⟨v1, rfl, hF⟩ := hF
  show vL Ln xs 955 [(3, .int i), (2, .ref 74), (1, .ref 0), (0, .ref 7000)] [.int v1] σ1
  refine ov_aload_n dL_law_955 1 rfl ?_
  refine ov_aload_n dL_law_956 3 rfl ?_
  refine ov_iload_n dL_law_957 0 rfl ?_
  refine ov_iconst 1 (by decide) dL_law_958 ?_
  refine ov_iadd dL_law_959 ?_
  refine ov_scl dL_law_960 h1 ?_
  refine ov_aload_n dL_law_961 3 rfl ?_
  refine ov_iload_n dL_law_962 0 rfl ?_
  refine ov_iconst 2 (by decide) dL_law_963 ?_
  refine ov_iadd dL_law_964 ?_
  refine ov_scl dL_law_965 h2 ?_
  refine ov_aload_n dL_law_966 3 rfl ?_
  refine ov_iload_n dL_law_967 0 rfl ?_
  refine ov_iconst 3 (by decide) dL_law_968 ?_
  refine ov_iadd dL_law_969 ?_
  refine ov_scl dL_law_970 h3 ?_
  refine ov_callV [.int (xs (i + 1).toNatClampNeg), .int (xs (i + 2).toNatClampNeg), .int (xs (i + 3).toNatClampNeg)] dL_law_971 (c_X6_sheet hF) (Nat.le_of_ble_eq_true rfl) (Nat.le_of_ble_eq_true rfl) lk_L_124 sh_74 rfl (Nat.le_of_ble_eq_true rfl) (Nat.le_of_ble_eq_true rfl) (Nat.le_of_ble_eq_true rfl) (fun rr σ2 hF => ?_)
  obtain ⟨v2, rfl, hF⟩ := hF
  show vL Ln xs 974 [(3, .int i), (2, .ref 74), (1, .ref 0), (0, .ref 7000)] [.int v2, .int v1] σ2
  exact ov_icmp_eq (A := True) (B := False) 1368 dL_law_974 (by decide) (by rw [if_pos hF.1]; trivial) (fun _ => hK σ2 hF.2) (fun h => h.elim)
def law_b_mark (Inv : ovSt → Prop) : Prop := ∀ σ, Inv σ → ∀ (a b c : Int32), F_X5_mark a b c σ (fun r σ1 => F_X6_mark a b c σ1 (fun r' σ2 => r = r' ∧ Inv σ2))
set_option maxRecDepth 100000 in
set_option maxHeartbeats 4000000 in
theorem law_c27 {Ln : Nat} {xs : Nat → Int32} {Inv : ovSt → Prop} (hB : law_b_mark Inv) {i : Int32} (h1 : vp_in (i + 1) Ln) (h2 : vp_in (i + 2) Ln) (h3 : vp_in (i + 3) Ln) (hK : ∀ σ', Inv σ' → vL Ln xs 1368 [(3, .int i), (2, .ref 74), (1, .ref 0), (0, .ref 7000)] [] σ') {σ : ovSt} (hI : Inv σ) : vL Ln xs 979 [(3, .int i), (2, .ref 74), (1, .ref 0), (0, .ref 7000)] [] σ := by
  have hF := hB σ hI (xs (i + 1).toNatClampNeg) (xs (i + 2).toNatClampNeg) (xs (i + 3).toNatClampNeg)
  refine ov_aload_n dL_law_979 2 rfl ?_
  refine ov_aload_n dL_law_980 3 rfl ?_
  refine ov_iload_n dL_law_981 0 rfl ?_
  refine ov_iconst 1 (by decide) dL_law_982 ?_
  refine ov_iadd dL_law_983 ?_
  refine ov_scl dL_law_984 h1 ?_
  refine ov_aload_n dL_law_985 3 rfl ?_
  refine ov_iload_n dL_law_986 0 rfl ?_
  refine ov_iconst 2 (by decide) dL_law_987 ?_
  refine ov_iadd dL_law_988 ?_
  refine ov_scl dL_law_989 h2 ?_
  refine ov_aload_n dL_law_990 3 rfl ?_
  refine ov_iload_n dL_law_991 0 rfl ?_
  refine ov_iconst 3 (by decide) dL_law_992 ?_
  refine ov_iadd dL_law_993 ?_
  refine ov_scl dL_law_994 h3 ?_
  refine ov_callV [.int (xs (i + 1).toNatClampNeg), .int (xs (i + 2).toNatClampNeg), .int (xs (i + 3).toNatClampNeg)] dL_law_995 (c_X5_mark hF) (Nat.le_of_ble_eq_true rfl) (Nat.le_of_ble_eq_true rfl) lk_L_125 sh_0 rfl (Nat.le_of_ble_eq_true rfl) (Nat.le_of_ble_eq_true rfl) (Nat.le_of_ble_eq_true rfl) (fun rr σ1 hF => ?_)
  obtain ⟨v1, rfl, hF⟩ := hF
  show vL Ln xs 998 [(3, .int i), (2, .ref 74), (1, .ref 0), (0, .ref 7000)] [.int v1] σ1
  refine ov_aload_n dL_law_998 1 rfl ?_
  refine ov_aload_n dL_law_999 3 rfl ?_
  refine ov_iload_n dL_law_1000 0 rfl ?_
  refine ov_iconst 1 (by decide) dL_law_1001 ?_
  refine ov_iadd dL_law_1002 ?_
  refine ov_scl dL_law_1003 h1 ?_
  refine ov_aload_n dL_law_1004 3 rfl ?_
  refine ov_iload_n dL_law_1005 0 rfl ?_
  refine ov_iconst 2 (by decide) dL_law_1006 ?_
  refine ov_iadd dL_law_1007 ?_
  refine ov_scl dL_law_1008 h2 ?_
  refine ov_aload_n dL_law_1009 3 rfl ?_
  refine ov_iload_n dL_law_1010 0 rfl ?_
  refine ov_iconst 3 (by decide) dL_law_1011 ?_
  refine ov_iadd dL_law_1012 ?_
  refine ov_scl dL_law_1013 h3 ?_
  refine ov_callV [.int (xs (i + 1).toNatClampNeg), .int (xs (i + 2).toNatClampNeg), .int (xs (i + 3).toNatClampNeg)] dL_law_1014 (c_X6_mark hF) (Nat.le_of_ble_eq_true rfl) (Nat.le_of_ble_eq_true rfl) lk_L_128 sh_74 rfl (Nat.le_of_ble_eq_true rfl) (Nat.le_of_ble_eq_true rfl) (Nat.le_of_ble_eq_true rfl) (fun rr σ2 hF => ?_)
  obtain ⟨v2, rfl, hF⟩ := hF
  show vL Ln xs 1017 [(3, .int i), (2, .ref 74), (1, .ref 0), (0, .ref 7000)] [.int v2, .int v1] σ2
  exact ov_icmp_eq (A := True) (B := False) 1368 dL_law_1017 (by decide) (by rw [if_pos hF.1]; trivial) (fun _ => hK σ2 hF.2) (fun h => h.elim)
def law_b_pour (Inv : ovSt → Prop) : Prop := ∀ σ, Inv σ → ∀ (a : Int32), F_X5_pour a σ (fun r σ1 => F_X6_pour a σ1 (fun r' σ2 => r = r' ∧ Inv σ2))
set_option maxRecDepth 100000 in
set_option maxHeartbeats 4000000 in
theorem law_c28 {Ln : Nat} {xs : Nat → Int32} {Inv : ovSt → Prop} (hB : law_b_pour Inv) {i : Int32} (h1 : vp_in (i + 1) Ln) (hK : ∀ σ', Inv σ' → vL Ln xs 1368 [(3, .int i), (2, .ref 74), (1, .ref 0), (0, .ref 7000)] [] σ') {σ : ovSt} (hI : Inv σ) : vL Ln xs 1022 [(3, .int i), (2, .ref 74), (1, .ref 0), (0, .ref 7000)] [] σ := by
  have hF := hB σ hI (xs (i + 1).toNatClampNeg)
  refine ov_aload_n dL_law_1022 2 rfl ?_
  refine ov_aload_n dL_law_1023 3 rfl ?_
  refine ov_iload_n dL_law_1024 0 rfl ?_
  refine ov_iconst 1 (by decide) dL_law_1025 ?_
  refine ov_iadd dL_law_1026 ?_
  refine ov_scl dL_law_1027 h1 ?_
  refine ov_callV [.int (xs (i + 1).toNatClampNeg)] dL_law_1028 (c_X5_pour hF) (Nat.le_of_ble_eq_true rfl) (Nat.le_of_ble_eq_true rfl) lk_L_129 sh_0 rfl (Nat.le_of_ble_eq_true rfl) (Nat.le_of_ble_eq_true rfl) (Nat.le_of_ble_eq_true rfl) (fun rr σ1 hF => ?_)
  obtain ⟨v1, rfl, hF⟩ := hF
  show vL Ln xs 1031 [(3, .int i), (2, .ref 74), (1, .ref 0), (0, .ref 7000)] [.int v1] σ1
  refine ov_aload_n dL_law_1031 1 rfl ?_
  refine ov_aload_n dL_law_1032 3 rfl ?_
  refine ov_iload_n dL_law_1033 0 rfl ?_
  refine ov_iconst 1 (by decide) dL_law_1034 ?_
  refine ov_iadd dL_law_1035 ?_
  refine ov_scl dL_law_1036 h1 ?_
  refine ov_callV [.int (xs (i + 1).toNatClampNeg)] dL_law_1037 (c_X6_pour hF) (Nat.le_of_ble_eq_true rfl) (Nat.le_of_ble_eq_true rfl) lk_L_132 sh_74 rfl (Nat.le_of_ble_eq_true rfl) (Nat.le_of_ble_eq_true rfl) (Nat.le_of_ble_eq_true rfl) (fun rr σ2 hF => ?_)
  obtain ⟨v2, rfl, hF⟩ := hF
  show vL Ln xs 1040 [(3, .int i), (2, .ref 74), (1, .ref 0), (0, .ref 7000)] [.int v2, .int v1] σ2
  exact ov_icmp_eq (A := True) (B := False) 1368 dL_law_1040 (by decide) (by rw [if_pos hF.1]; trivial) (fun _ => hK σ2 hF.2) (fun h => h.elim)
def law_b_reads (Inv : ovSt → Prop) : Prop := ∀ σ, Inv σ → ∀ (a : Int32), F_X5_reads a σ (fun r σ1 => F_X6_reads a σ1 (fun r' σ2 => r = r' ∧ Inv σ2))
set_option maxRecDepth 100000 in
set_option maxHeartbeats 4000000 in
theorem law_c29 {Ln : Nat} {xs : Nat → Int32} {Inv : ovSt → Prop} (hB : law_b_reads Inv) {i : Int32} (h1 : vp_in (i + 1) Ln) (hK : ∀ σ', Inv σ' → vL Ln xs 1368 [(3, .int i), (2, .ref 74), (1, .ref 0), (0, .ref 7000)] [] σ') {σ : ovSt} (hI : Inv σ) : vL Ln xs 1045 [(3, .int i), (2, .ref 74), (1, .ref 0), (0, .ref 7000)] [] σ := by
  have hF := hB σ hI (xs (i + 1).toNatClampNeg)
  refine ov_aload_n dL_law_1045 2 rfl ?_
  refine ov_aload_n dL_law_1046 3 rfl ?_
  refine ov_iload_n dL_law_1047 0 rfl ?_
  refine ov_iconst 1 (by decide) dL_law_1048 ?_
  refine ov_iadd dL_law_1049 ?_
  refine ov_scl dL_law_1050 h1 ?_
  refine ov_callV [.int (xs (i + 1).toNatClampNeg)] dL_law_1051 (c_X5_reads hF) (Nat.le_of_ble_eq_true rfl) (Nat.le_of_ble_eq_true rfl) lk_L_133 sh_0 rfl (Nat.le_of_ble_eq_true rfl) (Nat.le_of_ble_eq_true rfl) (Nat.le_of_ble_eq_true rfl) (fun rr σ1 hF => ?_)
  obtain ⟨v1, rfl, hF⟩ := hF
  show vL Ln xs 1054 [(3, .int i), (2, .ref 74), (1, .ref 0), (0, .ref 7000)] [.int v1] σ1
  refine ov_aload_n dL_law_1054 1 rfl ?_
  refine ov_aload_n dL_law_1055 3 rfl ?_
  refine ov_iload_n dL_law_1056 0 rfl ?_
  refine ov_iconst 1 (by decide) dL_law_1057 ?_
  refine ov_iadd dL_law_1058 ?_
  refine ov_scl dL_law_1059 h1 ?_
  refine ov_callV [.int (xs (i + 1).toNatClampNeg)] dL_law_1060 (c_X6_reads hF) (Nat.le_of_ble_eq_true rfl) (Nat.le_of_ble_eq_true rfl) lk_L_136 sh_74 rfl (Nat.le_of_ble_eq_true rfl) (Nat.le_of_ble_eq_true rfl) (Nat.le_of_ble_eq_true rfl) (fun rr σ2 hF => ?_)
  obtain ⟨v2, rfl, hF⟩ := hF
  show vL Ln xs 1063 [(3, .int i), (2, .ref 74), (1, .ref 0), (0, .ref 7000)] [.int v2, .int v1] σ2
  exact ov_icmp_eq (A := True) (B := False) 1368 dL_law_1063 (by decide) (by rw [if_pos hF.1]; trivial) (fun _ => hK σ2 hF.2) (fun h => h.elim)
def law_b_copy (Inv : ovSt → Prop) : Prop := ∀ σ, Inv σ → ∀ (a b c d e : Int32), F_X5_copy a b c d e σ (fun r σ1 => F_X6_copy a b c d e σ1 (fun r' σ2 => r = r' ∧ Inv σ2))
set_option maxRecDepth 100000 in
set_option maxHeartbeats 4000000 in
theorem law_c30 {Ln : Nat} {xs : Nat → Int32} {Inv : ovSt → Prop} (hB : law_b_copy Inv) {i : Int32} (h1 : vp_in (i + 1) Ln) (h2 : vp_in (i + 2) Ln) (h3 : vp_in (i + 3) Ln) (h4 : vp_in (i + 4) Ln) (h5 : vp_in (i + 5) Ln) (hK : ∀ σ', Inv σ' → vL Ln xs 1368 [(3, .int i), (2, .ref 74), (1, .ref 0), (0, .ref 7000)] [] σ') {σ : ovSt} (hI : Inv σ) : vL Ln xs 1068 [(3, .int i), (2, .ref 74), (1, .ref 0), (0, .ref 7000)] [] σ := by
  have hF := hB σ hI (xs (i + 1).toNatClampNeg) (xs (i + 2).toNatClampNeg) (xs (i + 3).toNatClampNeg) (xs (i + 4).toNatClampNeg) (xs (i + 5).toNatClampNeg)
  refine ov_aload_n dL_law_1068 2 rfl ?_
  refine ov_aload_n dL_law_1069 3 rfl ?_
  refine ov_iload_n dL_law_1070 0 rfl ?_
  refine ov_iconst 1 (by decide) dL_law_1071 ?_
  refine ov_iadd dL_law_1072 ?_
  refine ov_scl dL_law_1073 h1 ?_
  refine ov_aload_n dL_law_1074 3 rfl ?_
  refine ov_iload_n dL_law_1075 0 rfl ?_
  refine ov_iconst 2 (by decide) dL_law_1076 ?_
  refine ov_iadd dL_law_1077 ?_
  refine ov_scl dL_law_1078 h2 ?_
  refine ov_aload_n dL_law_1079 3 rfl ?_
  refine ov_iload_n dL_law_1080 0 rfl ?_
  refine ov_iconst 3 (by decide) dL_law_1081 ?_
  refine ov_iadd dL_law_1082 ?_
  refine ov_scl dL_law_1083 h3 ?_
  refine ov_aload_n dL_law_1084 3 rfl ?_
  refine ov_iload_n dL_law_1085 0 rfl ?_
  refine ov_iconst 4 (by decide) dL_law_1086 ?_
  refine ov_iadd dL_law_1087 ?_
  refine ov_scl dL_law_1088 h4 ?_
  refine ov_aload_n dL_law_1089 3 rfl ?_
  refine ov_iload_n dL_law_1090 0 rfl ?_
  refine ov_iconst 5 (by decide) dL_law_1091 ?_
  refine ov_iadd dL_law_1092 ?_
  refine ov_scl dL_law_1093 h5 ?_
  refine ov_callV [.int (xs (i + 1).toNatClampNeg), .int (xs (i + 2).toNatClampNeg), .int (xs (i + 3).toNatClampNeg), .int (xs (i + 4).toNatClampNeg), .int (xs (i + 5).toNatClampNeg)] dL_law_1094 (c_X5_copy hF) (Nat.le_of_ble_eq_true rfl) (Nat.le_of_ble_eq_true rfl) lk_L_137 sh_0 rfl (Nat.le_of_ble_eq_true rfl) (Nat.le_of_ble_eq_true rfl) (Nat.le_of_ble_eq_true rfl) (fun rr σ1 hF => ?_)
  obtain ⟨v1, rfl, hF⟩ := hF
  show vL Ln xs 1097 [(3, .int i), (2, .ref 74), (1, .ref 0), (0, .ref 7000)] [.int v1] σ1
  refine ov_aload_n dL_law_1097 1 rfl ?_
  refine ov_aload_n dL_law_1098 3 rfl ?_
  refine ov_iload_n dL_law_1099 0 rfl ?_
  refine ov_iconst 1 (by decide) dL_law_1100 ?_
  refine ov_iadd dL_law_1101 ?_
  refine ov_scl dL_law_1102 h1 ?_
  refine ov_aload_n dL_law_1103 3 rfl ?_
  refine ov_iload_n dL_law_1104 0 rfl ?_
  refine ov_iconst 2 (by decide) dL_law_1105 ?_
  refine ov_iadd dL_law_1106 ?_
  refine ov_scl dL_law_1107 h2 ?_
  refine ov_aload_n dL_law_1108 3 rfl ?_
  refine ov_iload_n dL_law_1109 0 rfl ?_
  refine ov_iconst 3 (by decide) dL_law_1110 ?_
  refine ov_iadd dL_law_1111 ?_
  refine ov_scl dL_law_1112 h3 ?_
  refine ov_aload_n dL_law_1113 3 rfl ?_
  refine ov_iload_n dL_law_1114 0 rfl ?_
  refine ov_iconst 4 (by decide) dL_law_1115 ?_
  refine ov_iadd dL_law_1116 ?_
  refine ov_scl dL_law_1117 h4 ?_
  refine ov_aload_n dL_law_1118 3 rfl ?_
  refine ov_iload_n dL_law_1119 0 rfl ?_
  refine ov_iconst 5 (by decide) dL_law_1120 ?_
  refine ov_iadd dL_law_1121 ?_
  refine ov_scl dL_law_1122 h5 ?_
  refine ov_callV [.int (xs (i + 1).toNatClampNeg), .int (xs (i + 2).toNatClampNeg), .int (xs (i + 3).toNatClampNeg), .int (xs (i + 4).toNatClampNeg), .int (xs (i + 5).toNatClampNeg)] dL_law_1123 (c_X6_copy hF) (Nat.le_of_ble_eq_true rfl) (Nat.le_of_ble_eq_true rfl) lk_L_141 sh_74 rfl (Nat.le_of_ble_eq_true rfl) (Nat.le_of_ble_eq_true rfl) (Nat.le_of_ble_eq_true rfl) (fun rr σ2 hF => ?_)
  obtain ⟨v2, rfl, hF⟩ := hF
  show vL Ln xs 1126 [(3, .int i), (2, .ref 74), (1, .ref 0), (0, .ref 7000)] [.int v2, .int v1] σ2
  exact ov_icmp_eq (A := True) (B := False) 1368 dL_law_1126 (by decide) (by rw [if_pos hF.1]; trivial) (fun _ => hK σ2 hF.2) (fun h => h.elim)
def law_b_lay (Inv : ovSt → Prop) : Prop := ∀ σ, Inv σ → ∀ (a b c : Int32), F_X5_lay a b c σ (fun r σ1 => F_X6_lay a b c σ1 (fun r' σ2 => r = r' ∧ Inv σ2))
set_option maxRecDepth 100000 in
set_option maxHeartbeats 4000000 in
theorem law_c31 {Ln : Nat} {xs : Nat → Int32} {Inv : ovSt → Prop} (hB : law_b_lay Inv) {i : Int32} (h1 : vp_in (i + 1) Ln) (h2 : vp_in (i + 2) Ln) (h3 : vp_in (i + 3) Ln) (hK : ∀ σ', Inv σ' → vL Ln xs 1368 [(3, .int i), (2, .ref 74), (1, .ref 0), (0, .ref 7000)] [] σ') {σ : ovSt} (hI : Inv σ) : vL Ln xs 1131 [(3, .int i), (2, .ref 74), (1, .ref 0), (0, .ref 7000)] [] σ := by
  have hF := hB σ hI (xs (i + 1).toNatClampNeg) (xs (i + 2).toNatClampNeg) (xs (i + 3).toNatClampNeg)
  refine ov_aload_n dL_law_1131 2 rfl ?_
  refine ov_aload_n dL_law_1132 3 rfl ?_
  refine ov_iload_n dL_law_1133 0 rfl ?_
  refine ov_iconst 1 (by decide) dL_law_1134 ?_
  refine ov_iadd dL_law_1135 ?_
  refine ov_scl dL_law_1136 h1 ?_
  refine ov_aload_n dL_law_1137 3 rfl ?_
  refine ov_iload_n dL_law_1138 0 rfl ?_
  refine ov_iconst 2 (by decide) dL_law_1139 ?_
  refine ov_iadd dL_law_1140 ?_
  refine ov_scl dL_law_1141 h2 ?_
  refine ov_aload_n dL_law_1142 3 rfl ?_
  refine ov_iload_n dL_law_1143 0 rfl ?_
  refine ov_iconst 3 (by decide) dL_law_1144 ?_
  refine ov_iadd dL_law_1145 ?_
  refine ov_scl dL_law_1146 h3 ?_
  refine ov_callV [.int (xs (i + 1).toNatClampNeg), .int (xs (i + 2).toNatClampNeg), .int (xs (i + 3).toNatClampNeg)] dL_law_1147 (c_X5_lay hF) (Nat.le_of_ble_eq_true rfl) (Nat.le_of_ble_eq_true rfl) lk_L_142 sh_0 rfl (Nat.le_of_ble_eq_true rfl) (Nat.le_of_ble_eq_true rfl) (Nat.le_of_ble_eq_true rfl) (fun rr σ1 hF => ?_)
  obtain ⟨v1, rfl, hF⟩ := hF
  show vL Ln xs 1150 [(3, .int i), (2, .ref 74), (1, .ref 0), (0, .ref 7000)] [.int v1] σ1
  refine ov_aload_n dL_law_1150 1 rfl ?_
  refine ov_aload_n dL_law_1151 3 rfl ?_
  refine ov_iload_n dL_law_1152 0 rfl ?_
  refine ov_iconst 1 (by decide) dL_law_1153 ?_
  refine ov_iadd dL_law_1154 ?_
  refine ov_scl dL_law_1155 h1 ?_
  refine ov_aload_n dL_law_1156 3 rfl ?_
  refine ov_iload_n dL_law_1157 0 rfl ?_
  refine ov_iconst 2 (by decide) dL_law_1158 ?_
  refine ov_iadd dL_law_1159 ?_
  refine ov_scl dL_law_1160 h2 ?_
  refine ov_aload_n dL_law_1161 3 rfl ?_
  refine ov_iload_n dL_law_1162 0 rfl ?_
  refine ov_iconst 3 (by decide) dL_law_1163 ?_
  refine ov_iadd dL_law_1164 ?_
  refine ov_scl dL_law_1165 h3 ?_
  refine ov_callV [.int (xs (i + 1).toNatClampNeg), .int (xs (i + 2).toNatClampNeg), .int (xs (i + 3).toNatClampNeg)] dL_law_1166 (c_X6_lay hF) (Nat.le_of_ble_eq_true rfl) (Nat.le_of_ble_eq_true rfl) lk_L_145 sh_74 rfl (Nat.le_of_ble_eq_true rfl) (Nat.le_of_ble_eq_true rfl) (Nat.le_of_ble_eq_true rfl) (fun rr σ2 hF => ?_)
  obtain ⟨v2, rfl, hF⟩ := hF
  show vL Ln xs 1169 [(3, .int i), (2, .ref 74), (1, .ref 0), (0, .ref 7000)] [.int v2, .int v1] σ2
  exact ov_icmp_eq (A := True) (B := False) 1368 dL_law_1169 (by decide) (by rw [if_pos hF.1]; trivial) (fun _ => hK σ2 hF.2) (fun h => h.elim)
def law_b_ask (Inv : ovSt → Prop) : Prop := ∀ σ, Inv σ → ∀ (a b : Int32), F_X5_ask a b σ (fun r σ1 => F_X6_ask a b σ1 (fun r' σ2 => r = r' ∧ Inv σ2))
set_option maxRecDepth 100000 in
set_option maxHeartbeats 4000000 in
theorem law_c32 {Ln : Nat} {xs : Nat → Int32} {Inv : ovSt → Prop} (hB : law_b_ask Inv) {i : Int32} (h1 : vp_in (i + 1) Ln) (h2 : vp_in (i + 2) Ln) (hK : ∀ σ', Inv σ' → vL Ln xs 1368 [(3, .int i), (2, .ref 74), (1, .ref 0), (0, .ref 7000)] [] σ') {σ : ovSt} (hI : Inv σ) : vL Ln xs 1174 [(3, .int i), (2, .ref 74), (1, .ref 0), (0, .ref 7000)] [] σ := by
  have hF := hB σ hI (xs (i + 1).toNatClampNeg) (xs (i + 2).toNatClampNeg)
  refine ov_aload_n dL_law_1174 2 rfl ?_
  refine ov_aload_n dL_law_1175 3 rfl ?_
  refine ov_iload_n dL_law_1176 0 rfl ?_
  refine ov_iconst 1 (by decide) dL_law_1177 ?_
  refine ov_iadd dL_law_1178 ?_
  refine ov_scl dL_law_1179 h1 ?_
  refine ov_aload_n dL_law_1180 3 rfl ?_
  refine ov_iload_n dL_law_1181 0 rfl ?_
  refine ov_iconst 2 (by decide) dL_law_1182 ?_
  refine ov_iadd dL_law_1183 ?_
  refine ov_scl dL_law_1184 h2 ?_
  refine ov_callV [.int (xs (i + 1).toNatClampNeg), .int (xs (i + 2).toNatClampNeg)] dL_law_1185 (c_X5_ask hF) (Nat.le_of_ble_eq_true rfl) (Nat.le_of_ble_eq_true rfl) lk_L_146 sh_0 rfl (Nat.le_of_ble_eq_true rfl) (Nat.le_of_ble_eq_true rfl) (Nat.le_of_ble_eq_true rfl) (fun rr σ1 hF => ?_)
  obtain ⟨v1, rfl, hF⟩ := hF
  show vL Ln xs 1188 [(3, .int i), (2, .ref 74), (1, .ref 0), (0, .ref 7000)] [.int v1] σ1
  refine ov_aload_n dL_law_1188 1 rfl ?_
  refine ov_aload_n dL_law_1189 3 rfl ?_
  refine ov_iload_n dL_law_1190 0 rfl ?_
  refine ov_iconst 1 (by decide) dL_law_1191 ?_
  refine ov_iadd dL_law_1192 ?_
  refine ov_scl dL_law_1193 h1 ?_
  refine ov_aload_n dL_law_1194 3 rfl ?_
  refine ov_iload_n dL_law_1195 0 rfl ?_
  refine ov_iconst 2 (by decide) dL_law_1196 ?_
  refine ov_iadd dL_law_1197 ?_
  refine ov_scl dL_law_1198 h2 ?_
  refine ov_callV [.int (xs (i + 1).toNatClampNeg), .int (xs (i + 2).toNatClampNeg)] dL_law_1199 (c_X6_ask hF) (Nat.le_of_ble_eq_true rfl) (Nat.le_of_ble_eq_true rfl) lk_L_149 sh_74 rfl (Nat.le_of_ble_eq_true rfl) (Nat.le_of_ble_eq_true rfl) (Nat.le_of_ble_eq_true rfl) (fun rr σ2 hF => ?_)
  obtain ⟨v2, rfl, hF⟩ := hF
  show vL Ln xs 1202 [(3, .int i), (2, .ref 74), (1, .ref 0), (0, .ref 7000)] [.int v2, .int v1] σ2
  exact ov_icmp_eq (A := True) (B := False) 1368 dL_law_1202 (by decide) (by rw [if_pos hF.1]; trivial) (fun _ => hK σ2 hF.2) (fun h => h.elim)
def law_b_item (Inv : ovSt → Prop) : Prop := ∀ σ, Inv σ → ∀ (a b : Int32), F_X5_item a b σ (fun r σ1 => F_X6_item a b σ1 (fun r' σ2 => r = r' ∧ Inv σ2))
set_option maxRecDepth 100000 in
set_option maxHeartbeats 4000000 in
theorem law_c33 {Ln : Nat} {xs : Nat → Int32} {Inv : ovSt → Prop} (hB : law_b_item Inv) {i : Int32} (h1 : vp_in (i + 1) Ln) (h2 : vp_in (i + 2) Ln) (hK : ∀ σ', Inv σ' → vL Ln xs 1368 [(3, .int i), (2, .ref 74), (1, .ref 0), (0, .ref 7000)] [] σ') {σ : ovSt} (hI : Inv σ) : vL Ln xs 1207 [(3, .int i), (2, .ref 74), (1, .ref 0), (0, .ref 7000)] [] σ := by
  have hF := hB σ hI (xs (i + 1).toNatClampNeg) (xs (i + 2).toNatClampNeg)
  refine ov_aload_n dL_law_1207 2 rfl ?_
  refine ov_aload_n dL_law_1208 3 rfl ?_
  refine ov_iload_n dL_law_1209 0 rfl ?_
  refine ov_iconst 1 (by decide) dL_law_1210 ?_
  refine ov_iadd dL_law_1211 ?_
  refine ov_scl dL_law_1212 h1 ?_
  refine ov_aload_n dL_law_1213 3 rfl ?_
  refine ov_iload_n dL_law_1214 0 rfl ?_
  refine ov_iconst 2 (by decide) dL_law_1215 ?_
  refine ov_iadd dL_law_1216 ?_
  refine ov_scl dL_law_1217 h2 ?_
  refine ov_callV [.int (xs (i + 1).toNatClampNeg), .int (xs (i + 2).toNatClampNeg)] dL_law_1218 (c_X5_item hF) (Nat.le_of_ble_eq_true rfl) (Nat.le_of_ble_eq_true rfl) lk_L_150 sh_0 rfl (Nat.le_of_ble_eq_true rfl) (Nat.le_of_ble_eq_true rfl) (Nat.le_of_ble_eq_true rfl) (fun rr σ1 hF => ?_)
  obtain ⟨v1, rfl, hF⟩ := hF
  show vL Ln xs 1221 [(3, .int i), (2, .ref 74), (1, .ref 0), (0, .ref 7000)] [.int v1] σ1
  refine ov_aload_n dL_law_1221 1 rfl ?_
  refine ov_aload_n dL_law_1222 3 rfl ?_
  refine ov_iload_n dL_law_1223 0 rfl ?_
  refine ov_iconst 1 (by decide) dL_law_1224 ?_
  refine ov_iadd dL_law_1225 ?_
  refine ov_scl dL_law_1226 h1 ?_
  refine ov_aload_n dL_law_1227 3 rfl ?_
  refine ov_iload_n dL_law_1228 0 rfl ?_
  refine ov_iconst 2 (by decide) dL_law_1229 ?_
  refine ov_iadd dL_law_1230 ?_
  refine ov_scl dL_law_1231 h2 ?_
  refine ov_callV [.int (xs (i + 1).toNatClampNeg), .int (xs (i + 2).toNatClampNeg)] dL_law_1232 (c_X6_item hF) (Nat.le_of_ble_eq_true rfl) (Nat.le_of_ble_eq_true rfl) lk_L_153 sh_74 rfl (Nat.le_of_ble_eq_true rfl) (Nat.le_of_ble_eq_true rfl) (Nat.le_of_ble_eq_true rfl) (fun rr σ2 hF => ?_)
  obtain ⟨v2, rfl, hF⟩ := hF
  show vL Ln xs 1235 [(3, .int i), (2, .ref 74), (1, .ref 0), (0, .ref 7000)] [.int v2, .int v1] σ2
  exact ov_icmp_eq (A := True) (B := False) 1368 dL_law_1235 (by decide) (by rw [if_pos hF.1]; trivial) (fun _ => hK σ2 hF.2) (fun h => h.elim)
def law_b_rest (Inv : ovSt → Prop) : Prop := ∀ σ, Inv σ → ∀ (a b : Int32), F_X5_rest a b σ (fun r σ1 => F_X6_rest a b σ1 (fun r' σ2 => r = r' ∧ Inv σ2))
set_option maxRecDepth 100000 in
set_option maxHeartbeats 4000000 in
theorem law_c34 {Ln : Nat} {xs : Nat → Int32} {Inv : ovSt → Prop} (hB : law_b_rest Inv) {i : Int32} (h1 : vp_in (i + 1) Ln) (h2 : vp_in (i + 2) Ln) (hK : ∀ σ', Inv σ' → vL Ln xs 1368 [(3, .int i), (2, .ref 74), (1, .ref 0), (0, .ref 7000)] [] σ') {σ : ovSt} (hI : Inv σ) : vL Ln xs 1240 [(3, .int i), (2, .ref 74), (1, .ref 0), (0, .ref 7000)] [] σ := by
  have hF := hB σ hI (xs (i + 1).toNatClampNeg) (xs (i + 2).toNatClampNeg)
  refine ov_aload_n dL_law_1240 2 rfl ?_
  refine ov_aload_n dL_law_1241 3 rfl ?_
  refine ov_iload_n dL_law_1242 0 rfl ?_
  refine ov_iconst 1 (by decide) dL_law_1243 ?_
  refine ov_iadd dL_law_1244 ?_
  refine ov_scl dL_law_1245 h1 ?_
  refine ov_aload_n dL_law_1246 3 rfl ?_
  refine ov_iload_n dL_law_1247 0 rfl ?_
  refine ov_iconst 2 (by decide) dL_law_1248 ?_
  refine ov_iadd dL_law_1249 ?_
  refine ov_scl dL_law_1250 h2 ?_
  refine ov_callV [.int (xs (i + 1).toNatClampNeg), .int (xs (i + 2).toNatClampNeg)] dL_law_1251 (c_X5_rest hF) (Nat.le_of_ble_eq_true rfl) (Nat.le_of_ble_eq_true rfl) lk_L_154 sh_0 rfl (Nat.le_of_ble_eq_true rfl) (Nat.le_of_ble_eq_true rfl) (Nat.le_of_ble_eq_true rfl) (fun rr σ1 hF => ?_)
  obtain ⟨v1, rfl, hF⟩ := hF
  show vL Ln xs 1254 [(3, .int i), (2, .ref 74), (1, .ref 0), (0, .ref 7000)] [.int v1] σ1
  refine ov_aload_n dL_law_1254 1 rfl ?_
  refine ov_aload_n dL_law_1255 3 rfl ?_
  refine ov_iload_n dL_law_1256 0 rfl ?_
  refine ov_iconst 1 (by decide) dL_law_1257 ?_
  refine ov_iadd dL_law_1258 ?_
  refine ov_scl dL_law_1259 h1 ?_
  refine ov_aload_n dL_law_1260 3 rfl ?_
  refine ov_iload_n dL_law_1261 0 rfl ?_
  refine ov_iconst 2 (by decide) dL_law_1262 ?_
  refine ov_iadd dL_law_1263 ?_
  refine ov_scl dL_law_1264 h2 ?_
  refine ov_callV [.int (xs (i + 1).toNatClampNeg), .int (xs (i + 2).toNatClampNeg)] dL_law_1265 (c_X6_rest hF) (Nat.le_of_ble_eq_true rfl) (Nat.le_of_ble_eq_true rfl) lk_L_157 sh_74 rfl (Nat.le_of_ble_eq_true rfl) (Nat.le_of_ble_eq_true rfl) (Nat.le_of_ble_eq_true rfl) (fun rr σ2 hF => ?_)
  obtain ⟨v2, rfl, hF⟩ := hF
  show vL Ln xs 1268 [(3, .int i), (2, .ref 74), (1, .ref 0), (0, .ref 7000)] [.int v2, .int v1] σ2
  exact ov_icmp_eq (A := True) (B := False) 1368 dL_law_1268 (by decide) (by rw [if_pos hF.1]; trivial) (fun _ => hK σ2 hF.2) (fun h => h.elim)
def law_b_tell (Inv : ovSt → Prop) : Prop := ∀ σ, Inv σ → ∀ (a : Int32), F_X5_tell a σ (fun r σ1 => F_X6_tell a σ1 (fun r' σ2 => r = r' ∧ Inv σ2))
set_option maxRecDepth 100000 in
set_option maxHeartbeats 4000000 in
theorem law_c35 {Ln : Nat} {xs : Nat → Int32} {Inv : ovSt → Prop} (hB : law_b_tell Inv) {i : Int32} (h1 : vp_in (i + 1) Ln) (hK : ∀ σ', Inv σ' → vL Ln xs 1368 [(3, .int i), (2, .ref 74), (1, .ref 0), (0, .ref 7000)] [] σ') {σ : ovSt} (hI : Inv σ) : vL Ln xs 1273 [(3, .int i), (2, .ref 74), (1, .ref 0), (0, .ref 7000)] [] σ := by
  have hF := hB σ hI (xs (i + 1).toNatClampNeg)
  refine ov_aload_n dL_law_1273 2 rfl ?_
  refine ov_aload_n dL_law_1274 3 rfl ?_
  refine ov_iload_n dL_law_1275 0 rfl ?_
  refine ov_iconst 1 (by decide) dL_law_1276 ?_
  refine ov_iadd dL_law_1277 ?_
  refine ov_scl dL_law_1278 h1 ?_
  refine ov_callV [.int (xs (i + 1).toNatClampNeg)] dL_law_1279 (c_X5_tell hF) (Nat.le_of_ble_eq_true rfl) (Nat.le_of_ble_eq_true rfl) lk_L_158 sh_0 rfl (Nat.le_of_ble_eq_true rfl) (Nat.le_of_ble_eq_true rfl) (Nat.le_of_ble_eq_true rfl) (fun rr σ1 hF => ?_)
  obtain ⟨v1, rfl, hF⟩ := hF
  show vL Ln xs 1282 [(3, .int i), (2, .ref 74), (1, .ref 0), (0, .ref 7000)] [.int v1] σ1
  refine ov_aload_n dL_law_1282 1 rfl ?_
  refine ov_aload_n dL_law_1283 3 rfl ?_
  refine ov_iload_n dL_law_1284 0 rfl ?_
  refine ov_iconst 1 (by decide) dL_law_1285 ?_
  refine ov_iadd dL_law_1286 ?_
  refine ov_scl dL_law_1287 h1 ?_
  refine ov_callV [.int (xs (i + 1).toNatClampNeg)] dL_law_1288 (c_X6_tell hF) (Nat.le_of_ble_eq_true rfl) (Nat.le_of_ble_eq_true rfl) lk_L_161 sh_74 rfl (Nat.le_of_ble_eq_true rfl) (Nat.le_of_ble_eq_true rfl) (Nat.le_of_ble_eq_true rfl) (fun rr σ2 hF => ?_)
  obtain ⟨v2, rfl, hF⟩ := hF
  show vL Ln xs 1291 [(3, .int i), (2, .ref 74), (1, .ref 0), (0, .ref 7000)] [.int v2, .int v1] σ2
  exact ov_icmp_eq (A := True) (B := False) 1368 dL_law_1291 (by decide) (by rw [if_pos hF.1]; trivial) (fun _ => hK σ2 hF.2) (fun h => h.elim)
def law_b_check (Inv : ovSt → Prop) : Prop := ∀ σ, Inv σ → ∀ (a : Int32), F_X5_check a σ (fun r σ1 => F_X6_check a σ1 (fun r' σ2 => r = r' ∧ Inv σ2))
set_option maxRecDepth 100000 in
set_option maxHeartbeats 4000000 in
theorem law_c36 {Ln : Nat} {xs : Nat → Int32} {Inv : ovSt → Prop} (hB : law_b_check Inv) {i : Int32} (h1 : vp_in (i + 1) Ln) (hK : ∀ σ', Inv σ' → vL Ln xs 1368 [(3, .int i), (2, .ref 74), (1, .ref 0), (0, .ref 7000)] [] σ') {σ : ovSt} (hI : Inv σ) : vL Ln xs 1296 [(3, .int i), (2, .ref 74), (1, .ref 0), (0, .ref 7000)] [] σ := by
  have hF := hB σ hI (xs (i + 1).toNatClampNeg)
  refine ov_aload_n dL_law_1296 2 rfl ?_
  refine ov_aload_n dL_law_1297 3 rfl ?_
  refine ov_iload_n dL_law_1298 0 rfl ?_
  refine ov_iconst 1 (by decide) dL_law_1299 ?_
  refine ov_iadd dL_law_1300 ?_
  refine ov_scl dL_law_1301 h1 ?_
  refine ov_callV [.int (xs (i + 1).toNatClampNeg)] dL_law_1302 (c_X5_check hF) (Nat.le_of_ble_eq_true rfl) (Nat.le_of_ble_eq_true rfl) lk_L_162 sh_0 rfl (Nat.le_of_ble_eq_true rfl) (Nat.le_of_ble_eq_true rfl) (Nat.le_of_ble_eq_true rfl) (fun rr σ1 hF => ?_)
  obtain ⟨v1, rfl, hF⟩ := hF
  show vL Ln xs 1305 [(3, .int i), (2, .ref 74), (1, .ref 0), (0, .ref 7000)] [.int v1] σ1
  refine ov_aload_n dL_law_1305 1 rfl ?_
  refine ov_aload_n dL_law_1306 3 rfl ?_
  refine ov_iload_n dL_law_1307 0 rfl ?_
  refine ov_iconst 1 (by decide) dL_law_1308 ?_
  refine ov_iadd dL_law_1309 ?_
  refine ov_scl dL_law_1310 h1 ?_
  refine ov_callV [.int (xs (i + 1).toNatClampNeg)] dL_law_1311 (c_X6_check hF) (Nat.le_of_ble_eq_true rfl) (Nat.le_of_ble_eq_true rfl) lk_L_165 sh_74 rfl (Nat.le_of_ble_eq_true rfl) (Nat.le_of_ble_eq_true rfl) (Nat.le_of_ble_eq_true rfl) (fun rr σ2 hF => ?_)
  obtain ⟨v2, rfl, hF⟩ := hF
  show vL Ln xs 1314 [(3, .int i), (2, .ref 74), (1, .ref 0), (0, .ref 7000)] [.int v2, .int v1] σ2
  exact ov_icmp_eq (A := True) (B := False) 1368 dL_law_1314 (by decide) (by rw [if_pos hF.1]; trivial) (fun _ => hK σ2 hF.2) (fun h => h.elim)
def law_b_keep (Inv : ovSt → Prop) : Prop := ∀ σ, Inv σ → F_X5_keep σ (fun r σ1 => F_X6_keep σ1 (fun r' σ2 => r = r' ∧ Inv σ2))
set_option maxRecDepth 100000 in
set_option maxHeartbeats 4000000 in
theorem law_c37 {Ln : Nat} {xs : Nat → Int32} {Inv : ovSt → Prop} (hB : law_b_keep Inv) {i : Int32} (hK : ∀ σ', Inv σ' → vL Ln xs 1368 [(3, .int i), (2, .ref 74), (1, .ref 0), (0, .ref 7000)] [] σ') {σ : ovSt} (hI : Inv σ) : vL Ln xs 1319 [(3, .int i), (2, .ref 74), (1, .ref 0), (0, .ref 7000)] [] σ := by
  have hF := hB σ hI
  refine ov_aload_n dL_law_1319 2 rfl ?_
  refine ov_callV [] dL_law_1320 (c_X5_keep hF) (Nat.le_of_ble_eq_true rfl) (Nat.le_of_ble_eq_true rfl) lk_L_166 sh_0 rfl (Nat.le_of_ble_eq_true rfl) (Nat.le_of_ble_eq_true rfl) (Nat.le_of_ble_eq_true rfl) (fun rr σ1 hF => ?_)
  obtain ⟨v1, rfl, hF⟩ := hF
  show vL Ln xs 1323 [(3, .int i), (2, .ref 74), (1, .ref 0), (0, .ref 7000)] [.int v1] σ1
  refine ov_aload_n dL_law_1323 1 rfl ?_
  refine ov_callV [] dL_law_1324 (c_X6_keep hF) (Nat.le_of_ble_eq_true rfl) (Nat.le_of_ble_eq_true rfl) lk_L_169 sh_74 rfl (Nat.le_of_ble_eq_true rfl) (Nat.le_of_ble_eq_true rfl) (Nat.le_of_ble_eq_true rfl) (fun rr σ2 hF => ?_)
  obtain ⟨v2, rfl, hF⟩ := hF
  show vL Ln xs 1327 [(3, .int i), (2, .ref 74), (1, .ref 0), (0, .ref 7000)] [.int v2, .int v1] σ2
  exact ov_icmp_eq (A := True) (B := False) 1368 dL_law_1327 (by decide) (by rw [if_pos hF.1]; trivial) (fun _ => hK σ2 hF.2) (fun h => h.elim)
def law_b_back (Inv : ovSt → Prop) : Prop := ∀ σ, Inv σ → F_X5_back σ (fun r σ1 => F_X6_back σ1 (fun r' σ2 => r = r' ∧ Inv σ2))
set_option maxRecDepth 100000 in
set_option maxHeartbeats 4000000 in
theorem law_c38 {Ln : Nat} {xs : Nat → Int32} {Inv : ovSt → Prop} (hB : law_b_back Inv) {i : Int32} (hK : ∀ σ', Inv σ' → vL Ln xs 1368 [(3, .int i), (2, .ref 74), (1, .ref 0), (0, .ref 7000)] [] σ') {σ : ovSt} (hI : Inv σ) : vL Ln xs 1332 [(3, .int i), (2, .ref 74), (1, .ref 0), (0, .ref 7000)] [] σ := by
  have hF := hB σ hI
  refine ov_aload_n dL_law_1332 2 rfl ?_
  refine ov_callV [] dL_law_1333 (c_X5_back hF) (Nat.le_of_ble_eq_true rfl) (Nat.le_of_ble_eq_true rfl) lk_L_170 sh_0 rfl (Nat.le_of_ble_eq_true rfl) (Nat.le_of_ble_eq_true rfl) (Nat.le_of_ble_eq_true rfl) (fun rr σ1 hF => ?_)
  obtain ⟨v1, rfl, hF⟩ := hF
  show vL Ln xs 1336 [(3, .int i), (2, .ref 74), (1, .ref 0), (0, .ref 7000)] [.int v1] σ1
  refine ov_aload_n dL_law_1336 1 rfl ?_
  refine ov_callV [] dL_law_1337 (c_X6_back hF) (Nat.le_of_ble_eq_true rfl) (Nat.le_of_ble_eq_true rfl) lk_L_173 sh_74 rfl (Nat.le_of_ble_eq_true rfl) (Nat.le_of_ble_eq_true rfl) (Nat.le_of_ble_eq_true rfl) (fun rr σ2 hF => ?_)
  obtain ⟨v2, rfl, hF⟩ := hF
  show vL Ln xs 1340 [(3, .int i), (2, .ref 74), (1, .ref 0), (0, .ref 7000)] [.int v2, .int v1] σ2
  exact ov_icmp_eq (A := True) (B := False) 1368 dL_law_1340 (by decide) (by rw [if_pos hF.1]; trivial) (fun _ => hK σ2 hF.2) (fun h => h.elim)
def law_b_count (Inv : ovSt → Prop) : Prop := ∀ σ, Inv σ → ∀ (a : Int32), F_X5_count a σ (fun r σ1 => F_X6_count a σ1 (fun r' σ2 => r = r' ∧ Inv σ2))
set_option maxRecDepth 100000 in
set_option maxHeartbeats 4000000 in
theorem law_c39 {Ln : Nat} {xs : Nat → Int32} {Inv : ovSt → Prop} (hB : law_b_count Inv) {i : Int32} (h1 : vp_in (i + 1) Ln) (hK : ∀ σ', Inv σ' → vL Ln xs 1368 [(3, .int i), (2, .ref 74), (1, .ref 0), (0, .ref 7000)] [] σ') {σ : ovSt} (hI : Inv σ) : vL Ln xs 1345 [(3, .int i), (2, .ref 74), (1, .ref 0), (0, .ref 7000)] [] σ := by
  have hF := hB σ hI (xs (i + 1).toNatClampNeg)
  refine ov_aload_n dL_law_1345 2 rfl ?_
  refine ov_aload_n dL_law_1346 3 rfl ?_
  refine ov_iload_n dL_law_1347 0 rfl ?_
  refine ov_iconst 1 (by decide) dL_law_1348 ?_
  refine ov_iadd dL_law_1349 ?_
  refine ov_scl dL_law_1350 h1 ?_
  refine ov_callV [.int (xs (i + 1).toNatClampNeg)] dL_law_1351 (c_X5_count hF) (Nat.le_of_ble_eq_true rfl) (Nat.le_of_ble_eq_true rfl) lk_L_174 sh_0 rfl (Nat.le_of_ble_eq_true rfl) (Nat.le_of_ble_eq_true rfl) (Nat.le_of_ble_eq_true rfl) (fun rr σ1 hF => ?_)
  obtain ⟨v1, rfl, hF⟩ := hF
  show vL Ln xs 1354 [(3, .int i), (2, .ref 74), (1, .ref 0), (0, .ref 7000)] [.int v1] σ1
  refine ov_aload_n dL_law_1354 1 rfl ?_
  refine ov_aload_n dL_law_1355 3 rfl ?_
  refine ov_iload_n dL_law_1356 0 rfl ?_
  refine ov_iconst 1 (by decide) dL_law_1357 ?_
  refine ov_iadd dL_law_1358 ?_
  refine ov_scl dL_law_1359 h1 ?_
  refine ov_callV [.int (xs (i + 1).toNatClampNeg)] dL_law_1360 (c_X6_count hF) (Nat.le_of_ble_eq_true rfl) (Nat.le_of_ble_eq_true rfl) lk_L_177 sh_74 rfl (Nat.le_of_ble_eq_true rfl) (Nat.le_of_ble_eq_true rfl) (Nat.le_of_ble_eq_true rfl) (fun rr σ2 hF => ?_)
  obtain ⟨v2, rfl, hF⟩ := hF
  show vL Ln xs 1363 [(3, .int i), (2, .ref 74), (1, .ref 0), (0, .ref 7000)] [.int v2, .int v1] σ2
  exact ov_icmp_eq (A := True) (B := False) 1368 dL_law_1363 (by decide) (by rw [if_pos hF.1]; trivial) (fun _ => hK σ2 hF.2) (fun h => h.elim)
def law_B (Inv : ovSt → Prop) : Prop := law_b_thing Inv ∧ law_b_toss Inv ∧ law_b_told Inv ∧ law_b_as Inv ∧ law_b_turns Inv ∧ law_b_set Inv ∧ law_b_deal Inv ∧ law_b_seed Inv ∧ law_b_pot Inv ∧ law_b_days Inv ∧ law_b_taste Inv ∧ law_b_grams Inv ∧ law_b_lot Inv ∧ law_b_behind Inv ∧ law_b_tasted Inv ∧ law_b_steer Inv ∧ law_b_leastPot Inv ∧ law_b_nearest Inv ∧ law_b_thrown Inv ∧ law_b_halved Inv ∧ law_b_differs Inv ∧ law_b_feed Inv ∧ law_b_trim Inv ∧ law_b_text Inv ∧ law_b_textTold Inv ∧ law_b_why Inv ∧ law_b_sheet Inv ∧ law_b_mark Inv ∧ law_b_pour Inv ∧ law_b_reads Inv ∧ law_b_copy Inv ∧ law_b_lay Inv ∧ law_b_ask Inv ∧ law_b_item Inv ∧ law_b_rest Inv ∧ law_b_tell Inv ∧ law_b_check Inv ∧ law_b_keep Inv ∧ law_b_back Inv ∧ law_b_count Inv
theorem law_exit {Ln j : Nat} (hL : Ln ≤ 384) (hj : 6 * j ≤ 384) (h : ¬ nI Ln - 6 < nI (6 * j)) : 6 * j + 6 ≤ Ln := by
  have h1 : (nI Ln - 6).toInt = (Ln : Int) - 6 := pk_sub_toInt (a := Ln) (b := 6) (by omega) (by decide)
  have h2 : (nI (6 * j)).toInt = ((6 * j : Nat) : Int) := nI_toInt (by omega)
  have h3 : ¬ (nI Ln - 6).toInt < (nI (6 * j)).toInt := fun q => h (Int32.lt_iff_toInt_lt.mpr q)
  rw [h1, h2] at h3
  omega
-- if_icmp gt: condition y < x, jump taken on True
set_option maxRecDepth 100000 in
set_option maxHeartbeats 4000000 in
theorem law_loop {Ln : Nat} {xs : Nat → Int32} {Inv : ovSt → Prop} (hL : Ln ≤ 384) (hB : law_B Inv) : ∀ (f j : Nat) (σ : ovSt), Inv σ → 6 * j ≤ 384 → 385 ≤ 6 * j + 6 * f → vL Ln xs 18 [(3, .int (nI (6 * j))), (2, .ref 74), (1, .ref 0), (0, .ref 7000)] [] σ := by
  intro f
  induction f with
  | zero => intro j σ _ h1 h2; exact absurd h2 (by omega)
  | succ f ih =>
    intro j σ hI hj hf
    obtain ⟨b0, b1, b2, b3, b4, b5, b6, b7, b8, b9, b10, b11, b12, b13, b14, b15, b16, b17, b18, b19, b20, b21, b22, b23, b24, b25, b26, b27, b28, b29, b30, b31, b32, b33, b34, b35, b36, b37, b38, b39⟩ := hB
    refine ov_iload_n dL_law_18 0 rfl ?_
    refine ov_aload_n dL_law_19 3 rfl ?_
    refine ov_scn dL_law_20 ?_
    refine ov_bipush 6 (by decide) dL_law_21 ?_
    refine ov_isub dL_law_23 ?_
    by_cases hx : nI Ln - 6 < nI (6 * j)
    · refine ov_icmp_gt (A := True) (B := False) 1374 dL_law_24 (by decide) (by rw [if_pos hx]; trivial) (fun _ => ?_) (fun h => h.elim)
      refine ov_iconst 1 (by decide) dL_law_1374 ?_
      exact ov_ireturn dL_law_1375 (Nat.le_of_ble_eq_true rfl) (Nat.le_of_ble_eq_true rfl) rfl
    · refine ov_icmp_gt (A := False) (B := True) 1374 dL_law_24 (by decide) (by rw [if_neg hx]; trivial) (fun h => h.elim) (fun _ => ?_)
      have hle := law_exit hL hj hx
      have hK : ∀ σ', Inv σ' → vL Ln xs 1368 [(3, .int (nI (6 * j))), (2, .ref 74), (1, .ref 0), (0, .ref 7000)] [] σ' := by
        intro σ' hI'
        refine ov_iinc dL_law_1368 0 rfl (nI (6 * (j + 1))) (by rw [show 6 * (j + 1) = 6 * j + 6 by omega, ← nI_add]; rfl) (Nat.le_of_ble_eq_true rfl) [(3, .int (nI (6 * (j + 1)))), (2, .ref 74), (1, .ref 0), (0, .ref 7000)] rfl ?_
        refine ov_goto 18 dL_law_1371 (by decide) ?_
        exact ih (j + 1) σ' hI' (by omega) (by omega)
      have hv : ∀ k : Nat, k < 6 → vp_in (nI (6 * j) + nI k) Ln := fun k hk => by rw [nI_add]; exact vp_in_nI (by omega) (by omega)
      have h0 : vp_in (nI (6 * j)) Ln := vp_in_nI (by omega) (by omega)
      have h1 : vp_in (nI (6 * j) + 1) Ln := hv 1 (by decide)
      have h2 : vp_in (nI (6 * j) + 2) Ln := hv 2 (by decide)
      have h3 : vp_in (nI (6 * j) + 3) Ln := hv 3 (by decide)
      have h4 : vp_in (nI (6 * j) + 4) Ln := hv 4 (by decide)
      have h5 : vp_in (nI (6 * j) + 5) Ln := hv 5 (by decide)
      refine ov_aload_n dL_law_27 3 rfl ?_
      refine ov_iload_n dL_law_28 0 rfl ?_
      refine ov_scl dL_law_29 h0 ?_
      refine ov_bipush 63 (by decide) dL_law_30 ?_
      refine ov_iand dL_law_32 ?_
      refine ov_nmI (fun v ev => ?_)
      by_cases z0 : v = 0
      · exact ov_tin 0 175 208 dL_law_33 z0 (by decide) (by decide) rfl (by decide) (law_c0 b0 h1 h2 hK hI)
      by_cases z1 : v = 1
      · exact ov_tin 1 208 241 dL_law_33 z1 (by decide) (by decide) rfl (by decide) (law_c1 b1 h1 h2 hK hI)
      by_cases z2 : v = 2
      · exact ov_tin 2 241 274 dL_law_33 z2 (by decide) (by decide) rfl (by decide) (law_c2 b2 h1 h2 hK hI)
      by_cases z3 : v = 3
      · exact ov_tin 3 274 307 dL_law_33 z3 (by decide) (by decide) rfl (by decide) (law_c3 b3 h1 h2 hK hI)
      by_cases z4 : v = 4
      · exact ov_tin 4 307 340 dL_law_33 z4 (by decide) (by decide) rfl (by decide) (law_c4 b4 h1 h2 hK hI)
      by_cases z5 : v = 5
      · exact ov_tin 5 340 373 dL_law_33 z5 (by decide) (by decide) rfl (by decide) (law_c5 b5 h1 h2 h3 hK hI)
      by_cases z6 : v = 6
      · exact ov_tin 6 383 416 dL_law_33 z6 (by decide) (by decide) rfl (by decide) (law_c6 b6 h1 hK hI)
      by_cases z7 : v = 7
      · exact ov_tin 7 406 439 dL_law_33 z7 (by decide) (by decide) rfl (by decide) (law_c7 b7 h1 hK hI)
      by_cases z8 : v = 8
      · exact ov_tin 8 429 462 dL_law_33 z8 (by decide) (by decide) rfl (by decide) (law_c8 b8 h1 h2 hK hI)
      by_cases z9 : v = 9
      · exact ov_tin 9 462 495 dL_law_33 z9 (by decide) (by decide) rfl (by decide) (law_c9 b9 h1 hK hI)
      by_cases z10 : v = 10
      · exact ov_tin 10 485 518 dL_law_33 z10 (by decide) (by decide) rfl (by decide) (law_c10 b10 hK hI)
      by_cases z11 : v = 11
      · exact ov_tin 11 498 531 dL_law_33 z11 (by decide) (by decide) rfl (by decide) (law_c11 b11 h1 hK hI)
      by_cases z12 : v = 12
      · exact ov_tin 12 521 554 dL_law_33 z12 (by decide) (by decide) rfl (by decide) (law_c12 b12 hK hI)
      by_cases z13 : v = 13
      · exact ov_tin 13 534 567 dL_law_33 z13 (by decide) (by decide) rfl (by decide) (law_c13 b13 h1 h2 h3 hK hI)
      by_cases z14 : v = 14
      · exact ov_tin 14 577 610 dL_law_33 z14 (by decide) (by decide) rfl (by decide) (law_c14 b14 h1 hK hI)
      by_cases z15 : v = 15
      · exact ov_tin 15 600 633 dL_law_33 z15 (by decide) (by decide) rfl (by decide) (law_c15 b15 h1 h2 h3 hK hI)
      by_cases z16 : v = 16
      · exact ov_tin 16 643 676 dL_law_33 z16 (by decide) (by decide) rfl (by decide) (law_c16 b16 h1 h2 h3 hK hI)
      by_cases z17 : v = 17
      · exact ov_tin 17 686 719 dL_law_33 z17 (by decide) (by decide) rfl (by decide) (law_c17 b17 h1 hK hI)
      by_cases z18 : v = 18
      · exact ov_tin 18 709 742 dL_law_33 z18 (by decide) (by decide) rfl (by decide) (law_c18 b18 h1 h2 hK hI)
      by_cases z19 : v = 19
      · exact ov_tin 19 742 775 dL_law_33 z19 (by decide) (by decide) rfl (by decide) (law_c19 b19 hK hI)
      by_cases z20 : v = 20
      · exact ov_tin 20 755 788 dL_law_33 z20 (by decide) (by decide) rfl (by decide) (law_c20 b20 hK hI)
      by_cases z21 : v = 21
      · exact ov_tin 21 768 801 dL_law_33 z21 (by decide) (by decide) rfl (by decide) (law_c21 b21 h1 h2 h3 hK hI)
      by_cases z22 : v = 22
      · exact ov_tin 22 811 844 dL_law_33 z22 (by decide) (by decide) rfl (by decide) (law_c22 b22 h1 hK hI)
      by_cases z23 : v = 23
      · exact ov_tin 23 834 867 dL_law_33 z23 (by decide) (by decide) rfl (by decide) (law_c23 b23 hK hI)
      by_cases z24 : v = 24
      · exact ov_tin 24 847 880 dL_law_33 z24 (by decide) (by decide) rfl (by decide) (law_c24 b24 h1 h2 hK hI)
      by_cases z25 : v = 25
      · exact ov_tin 25 880 913 dL_law_33 z25 (by decide) (by decide) rfl (by decide) (law_c25 b25 h1 hK hI)
      by_cases z26 : v = 26
      · exact ov_tin 26 903 936 dL_law_33 z26 (by decide) (by decide) rfl (by decide) (law_c26 b26 h1 h2 h3 hK hI)
      by_cases z27 : v = 27
      · exact ov_tin 27 946 979 dL_law_33 z27 (by decide) (by decide) rfl (by decide) (law_c27 b27 h1 h2 h3 hK hI)
      by_cases z28 : v = 28
      · exact ov_tin 28 989 1022 dL_law_33 z28 (by decide) (by decide) rfl (by decide) (law_c28 b28 h1 hK hI)
      by_cases z29 : v = 29
      · exact ov_tin 29 1012 1045 dL_law_33 z29 (by decide) (by decide) rfl (by decide) (law_c29 b29 h1 hK hI)
      by_cases z30 : v = 30
      · exact ov_tin 30 1035 1068 dL_law_33 z30 (by decide) (by decide) rfl (by decide) (law_c30 b30 h1 h2 h3 h4 h5 hK hI)
      by_cases z31 : v = 31
      · exact ov_tin 31 1098 1131 dL_law_33 z31 (by decide) (by decide) rfl (by decide) (law_c31 b31 h1 h2 h3 hK hI)
      by_cases z32 : v = 32
      · exact ov_tin 32 1141 1174 dL_law_33 z32 (by decide) (by decide) rfl (by decide) (law_c32 b32 h1 h2 hK hI)
      by_cases z33 : v = 33
      · exact ov_tin 33 1174 1207 dL_law_33 z33 (by decide) (by decide) rfl (by decide) (law_c33 b33 h1 h2 hK hI)
      by_cases z34 : v = 34
      · exact ov_tin 34 1207 1240 dL_law_33 z34 (by decide) (by decide) rfl (by decide) (law_c34 b34 h1 h2 hK hI)
      by_cases z35 : v = 35
      · exact ov_tin 35 1240 1273 dL_law_33 z35 (by decide) (by decide) rfl (by decide) (law_c35 b35 h1 hK hI)
      by_cases z36 : v = 36
      · exact ov_tin 36 1263 1296 dL_law_33 z36 (by decide) (by decide) rfl (by decide) (law_c36 b36 h1 hK hI)
      by_cases z37 : v = 37
      · exact ov_tin 37 1286 1319 dL_law_33 z37 (by decide) (by decide) rfl (by decide) (law_c37 b37 hK hI)
      by_cases z38 : v = 38
      · exact ov_tin 38 1299 1332 dL_law_33 z38 (by decide) (by decide) rfl (by decide) (law_c38 b38 hK hI)
      by_cases z39 : v = 39
      · exact ov_tin 39 1312 1345 dL_law_33 z39 (by decide) (by decide) rfl (by decide) (law_c39 b39 h1 hK hI)
      refine ov_tout 1368 dL_law_33 ?_ (by decide) (hK σ hI)
      have q0 := lv_neT (k := 0) (a := 0) z0 rfl; have q1 := lv_neT (k := 1) (a := 1) z1 rfl; have q2 := lv_neT (k := 2) (a := 2) z2 rfl; have q3 := lv_neT (k := 3) (a := 3) z3 rfl; have q4 := lv_neT (k := 4) (a := 4) z4 rfl; have q5 := lv_neT (k := 5) (a := 5) z5 rfl; have q6 := lv_neT (k := 6) (a := 6) z6 rfl; have q7 := lv_neT (k := 7) (a := 7) z7 rfl; have q8 := lv_neT (k := 8) (a := 8) z8 rfl; have q9 := lv_neT (k := 9) (a := 9) z9 rfl; have q10 := lv_neT (k := 10) (a := 10) z10 rfl; have q11 := lv_neT (k := 11) (a := 11) z11 rfl; have q12 := lv_neT (k := 12) (a := 12) z12 rfl; have q13 := lv_neT (k := 13) (a := 13) z13 rfl; have q14 := lv_neT (k := 14) (a := 14) z14 rfl; have q15 := lv_neT (k := 15) (a := 15) z15 rfl; have q16 := lv_neT (k := 16) (a := 16) z16 rfl; have q17 := lv_neT (k := 17) (a := 17) z17 rfl; have q18 := lv_neT (k := 18) (a := 18) z18 rfl; have q19 := lv_neT (k := 19) (a := 19) z19 rfl; have q20 := lv_neT (k := 20) (a := 20) z20 rfl; have q21 := lv_neT (k := 21) (a := 21) z21 rfl; have q22 := lv_neT (k := 22) (a := 22) z22 rfl; have q23 := lv_neT (k := 23) (a := 23) z23 rfl; have q24 := lv_neT (k := 24) (a := 24) z24 rfl; have q25 := lv_neT (k := 25) (a := 25) z25 rfl; have q26 := lv_neT (k := 26) (a := 26) z26 rfl; have q27 := lv_neT (k := 27) (a := 27) z27 rfl; have q28 := lv_neT (k := 28) (a := 28) z28 rfl; have q29 := lv_neT (k := 29) (a := 29) z29 rfl; have q30 := lv_neT (k := 30) (a := 30) z30 rfl; have q31 := lv_neT (k := 31) (a := 31) z31 rfl; have q32 := lv_neT (k := 32) (a := 32) z32 rfl; have q33 := lv_neT (k := 33) (a := 33) z33 rfl; have q34 := lv_neT (k := 34) (a := 34) z34 rfl; have q35 := lv_neT (k := 35) (a := 35) z35 rfl; have q36 := lv_neT (k := 36) (a := 36) z36 rfl; have q37 := lv_neT (k := 37) (a := 37) z37 rfl; have q38 := lv_neT (k := 38) (a := 38) z38 rfl; have q39 := lv_neT (k := 39) (a := 39) z39 rfl; omega
