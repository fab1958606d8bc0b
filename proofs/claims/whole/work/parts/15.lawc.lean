/-! ===== what the law asks of the pair, call by call ===== -/
def Fr (σ : Sto) (sz : Nat) : Prop := ∀ a, sz ≤ a → σ a = none
theorem HS.fr {g : PP} {s : State} {σ : Sto} {sz : Nat} {H : Heap} {locs : List Loc} (hs : HS g s σ sz H locs) : Fr σ sz := by
  intro a h
  cases hσ : σ a with
  | none => rfl
  | some x =>
    have h1 := (hs.1 a x hσ).2.lt
    have h2 := hs.2.1
    omega
/-- a call that the law answers by number: the same number, and the same answer where the number is 0 -/
def Ag {τ : Type} (I : Nat → Sto → Prop) (mb ob : Nat) (cv : τ → Int64) (Lw : Sto → Nat → Option (Int32 × Sto × Nat)) (Md : Sto → Option (τ × Sto)) : Prop :=
  ∀ n σ sz, n < 512 → I n σ → Fr σ sz → ∃ k σ1 sz1 b σ2, Lw σ sz = some (k, σ1, sz1) ∧ isO σ1 mb 11 = some () ∧ Md σ1 = some (b, σ2) ∧ isO σ2 mb 11 = some () ∧ f_X12_thrown σ2 mb = some k ∧ (k = 0 → aL σ2 ob 2 0 = some (cv b)) ∧ I (n + 1) σ2
/-- a call that never throws -/
def AgW (I : Nat → Sto → Prop) (xb mb : Nat) (Cl Md : Sto → Option (Int32 × Sto)) : Prop :=
  ∀ n σ sz, n < 512 → I n σ → Fr σ sz → ∃ r σ1 σ2, isO σ xb 10 = some () ∧ Cl σ = some (r, σ1) ∧ isO σ1 mb 11 = some () ∧ Md σ1 = some (r, σ2) ∧ I (n + 1) σ2
def AgR (I : Nat → Sto → Prop) (xb mb : Nat) (Cl : Sto → Option Int32) (Md : Sto → Option (Int32 × Sto)) : Prop :=
  ∀ n σ sz, n < 512 → I n σ → Fr σ sz → ∃ r σ2, isO σ xb 10 = some () ∧ Cl σ = some r ∧ isO σ mb 11 = some () ∧ Md σ = some (r, σ2) ∧ I (n + 1) σ2
def A_put (I : Nat → Sto → Prop) (N xb mb ob : Nat) : Prop := ∀ (v1 : Int32) (v2 : Int64) (v4 : Int32), Ag I mb ob (fun x : Int32 => x.toInt64) (fun σ sz => f_L_put N σ sz xb v1 v2 v4 ob) (fun σ => f_X12_put N σ mb v1 v2 v4)
set_option maxHeartbeats 4000000 in
set_option maxRecDepth 100000 in
theorem lc_put {l : Launch} (hfl : l.stackTraces = false) {g : PP} {p : Program} {e : Env} {s : State} {m : MethodId} {args : Array Value} {below : List Frame} {meth : Method} {c : Code} {N : Nat} {I : Nat → Sto → Prop} {n : Nat} (hn : n < 512) {xs : Nat → Int32} {b L xb mb ob : Nat} {i : Int32} (C : Cx g p s m meth c cL_law 8 "TillhouseLaw") (hX : va_X b L xs s s.heap) (hbl : b < s.heap.size) (hbA : ¬ Aw g b) (hi0 : vp_in i L) (hi1 : vp_in (i + 1) L) (hi2 : vp_in (i + 2) L) (hi3 : vp_in (i + 3) L) (hi4 : vp_in (i + 4) L) (hi5 : vp_in (i + 5) L) (hi6 : vp_in (i + 6) L)
    (A : A_put I N xb mb ob) {σ : Sto} {sz : Nat} {H : Heap} {locs : List Loc} {ls : Array Slot} {cells slots : Nat} (hs : HS g s σ sz H locs) (hI : I n σ) (hl : lv_has ls 8 [(4, .int i), (3, .ref ob), (2, .ref mb), (1, .ref xb), (0, .ref b)]) (hc : cells + 5 ≤ room_1.cells) (hS : slots + 2048 ≤ room_1.slots) {Q : State → Prop}
    (kk : ∀ (σ : Sto) (sz : Nat) (H : Heap) (locs : List Loc) (ls : Array Slot), HS g s σ sz H locs → I (n + 1) σ → lv_has ls 8 [(4, .int i), (3, .ref ob), (2, .ref mb), (1, .ref xb), (0, .ref b)] → W p l e room_1 s m args below meth c H locs (cells + 5) (slots + 2048) Q (F0 m 3547 ls [])) : W p l e room_1 s m args below meth c H locs cells slots Q (F0 m 232 ls []) := by
  refine lv_aload_n C.1 C.2.1 dL_law_232 rfl (lv_at hl 3 rfl) ?_
  refine lv_aload_n C.1 C.2.1 dL_law_233 rfl (lv_at hl 4 rfl) ?_
  refine lv_iload C.1 C.2.1 dL_law_234 (lv_at hl 0 rfl) ?_
  refine lv_iconst (v := 1) C.1 C.2.1 dL_law_236 (by decide) ?_
  refine lv_iadd C.1 C.2.1 dL_law_237 ?_
  refine va_sld C.1 C.2.1 hX hbl hbA hs.2.2 hi1 dL_law_238 ?_
  refine lv_aload_n C.1 C.2.1 dL_law_239 rfl (lv_at hl 4 rfl) ?_
  refine lv_iload C.1 C.2.1 dL_law_240 (lv_at hl 0 rfl) ?_
  refine lv_iconst (v := 2) C.1 C.2.1 dL_law_242 (by decide) ?_
  refine lv_iadd C.1 C.2.1 dL_law_243 ?_
  refine va_sld C.1 C.2.1 hX hbl hbA hs.2.2 hi2 dL_law_244 ?_
  refine lv_i2l (v := Int32.toInt64 (xs (i + 2).toNatClampNeg)) C.1 C.2.1 dL_law_245 rfl ?_
  refine lv_bipush (v := 32) C.1 C.2.1 dL_law_246 (by decide) ?_
  refine lv_lshl (v := (Int32.toInt64 (xs (i + 2).toNatClampNeg)) <<< (Int32.toInt64 32 &&& 63)) C.1 C.2.1 dL_law_248 rfl ?_
  refine lv_aload_n C.1 C.2.1 dL_law_249 rfl (lv_at hl 4 rfl) ?_
  refine lv_iload C.1 C.2.1 dL_law_250 (lv_at hl 0 rfl) ?_
  refine lv_iconst (v := 3) C.1 C.2.1 dL_law_252 (by decide) ?_
  refine lv_iadd C.1 C.2.1 dL_law_253 ?_
  refine va_sld C.1 C.2.1 hX hbl hbA hs.2.2 hi3 dL_law_254 ?_
  refine lv_i2l (v := Int32.toInt64 (xs (i + 3).toNatClampNeg)) C.1 C.2.1 dL_law_255 rfl ?_
  refine lv_ldc2 (v := 4294967295) C.1 C.2.1 C.2.2.2.1 (C.2.2.2.2.1.1 _ q1898 _) dL_law_256 ?_
  refine lv_land C.1 C.2.1 dL_law_259 ?_
  refine lv_lor C.1 C.2.1 dL_law_260 ?_
  refine lv_aload_n C.1 C.2.1 dL_law_261 rfl (lv_at hl 4 rfl) ?_
  refine lv_iload C.1 C.2.1 dL_law_262 (lv_at hl 0 rfl) ?_
  refine lv_iconst (v := 4) C.1 C.2.1 dL_law_264 (by decide) ?_
  refine lv_iadd C.1 C.2.1 dL_law_265 ?_
  refine va_sld C.1 C.2.1 hX hbl hbA hs.2.2 hi4 dL_law_266 ?_
  refine lv_aload_n C.1 C.2.1 dL_law_267 rfl (lv_at hl 1 rfl) ?_
  obtain ⟨k1, σ2, z3, r4, σ5, g1, g2, g3, g4, g5, g6, hI⟩ := A (xs (i + 1).toNatClampNeg) (((Int32.toInt64 (xs (i + 2).toNatClampNeg)) <<< (Int32.toInt64 32 &&& 63)) ||| ((Int32.toInt64 (xs (i + 3).toNatClampNeg)) &&& 4294967295)) (xs (i + 4).toNatClampNeg) _ _ _ hn hI (HS.fr hs)
  have g1 : f_L_put N σ sz xb (xs (i + 1).toNatClampNeg) (((Int32.toInt64 (xs (i + 2).toNatClampNeg)) <<< (Int32.toInt64 32 &&& 63)) ||| ((Int32.toInt64 (xs (i + 3).toNatClampNeg)) &&& 4294967295)) (xs (i + 4).toNatClampNeg) ob = some (k1, σ2, z3) := g1
  refine sx_callSW (As := [.ref xb, .int (xs (i + 1).toNatClampNeg), .long (((Int32.toInt64 (xs (i + 2).toNatClampNeg)) <<< (Int32.toInt64 32 &&& 63)) ||| ((Int32.toInt64 (xs (i + 3).toNatClampNeg)) &&& 4294967295)), .int (xs (i + 4).toNatClampNeg), .ref ob]) (rest := []) C hs (c_L_put hfl g1) mo_L_put q336 rfl hl.1 ⟨⟨(Nat.le_of_ble_eq_true rfl), (Nat.le_of_ble_eq_true rfl)⟩, by omega, by omega⟩ rfl (Nat.le_of_ble_eq_true rfl) dL_law_268 (fun z6 _ H locs hs => ?_)
  refine W.eq (g2 := F0 m 271 ls [.int k1]) rfl ?_
  refine lv_istore (lv' := [(5, .int k1), (4, .int i), (3, .ref ob), (2, .ref mb), (1, .ref xb), (0, .ref b)]) C.1 C.2.1 dL_law_271 hl (by decide) rfl (fun ls hl => ?_)
  refine lv_aload_n C.1 C.2.1 dL_law_273 rfl (lv_at hl 3 rfl) ?_
  refine lv_aload_n C.1 C.2.1 dL_law_274 rfl (lv_at hl 5 rfl) ?_
  refine lv_iload C.1 C.2.1 dL_law_275 (lv_at hl 1 rfl) ?_
  refine lv_iconst (v := 1) C.1 C.2.1 dL_law_277 (by decide) ?_
  refine lv_iadd C.1 C.2.1 dL_law_278 ?_
  refine va_sld C.1 C.2.1 hX hbl hbA hs.2.2 hi1 dL_law_279 ?_
  refine lv_aload_n C.1 C.2.1 dL_law_280 rfl (lv_at hl 5 rfl) ?_
  refine lv_iload C.1 C.2.1 dL_law_281 (lv_at hl 1 rfl) ?_
  refine lv_iconst (v := 2) C.1 C.2.1 dL_law_283 (by decide) ?_
  refine lv_iadd C.1 C.2.1 dL_law_284 ?_
  refine va_sld C.1 C.2.1 hX hbl hbA hs.2.2 hi2 dL_law_285 ?_
  refine lv_i2l (v := Int32.toInt64 (xs (i + 2).toNatClampNeg)) C.1 C.2.1 dL_law_286 rfl ?_
  refine lv_bipush (v := 32) C.1 C.2.1 dL_law_287 (by decide) ?_
  refine lv_lshl (v := (Int32.toInt64 (xs (i + 2).toNatClampNeg)) <<< (Int32.toInt64 32 &&& 63)) C.1 C.2.1 dL_law_289 rfl ?_
  refine lv_aload_n C.1 C.2.1 dL_law_290 rfl (lv_at hl 5 rfl) ?_
  refine lv_iload C.1 C.2.1 dL_law_291 (lv_at hl 1 rfl) ?_
  refine lv_iconst (v := 3) C.1 C.2.1 dL_law_293 (by decide) ?_
  refine lv_iadd C.1 C.2.1 dL_law_294 ?_
  refine va_sld C.1 C.2.1 hX hbl hbA hs.2.2 hi3 dL_law_295 ?_
  refine lv_i2l (v := Int32.toInt64 (xs (i + 3).toNatClampNeg)) C.1 C.2.1 dL_law_296 rfl ?_
  refine lv_ldc2 (v := 4294967295) C.1 C.2.1 C.2.2.2.1 (C.2.2.2.2.1.1 _ q1898 _) dL_law_297 ?_
  refine lv_land C.1 C.2.1 dL_law_300 ?_
  refine lv_lor C.1 C.2.1 dL_law_301 ?_
  refine lv_aload_n C.1 C.2.1 dL_law_302 rfl (lv_at hl 5 rfl) ?_
  refine lv_iload C.1 C.2.1 dL_law_303 (lv_at hl 1 rfl) ?_
  refine lv_iconst (v := 4) C.1 C.2.1 dL_law_305 (by decide) ?_
  refine lv_iadd C.1 C.2.1 dL_law_306 ?_
  refine va_sld C.1 C.2.1 hX hbl hbA hs.2.2 hi4 dL_law_307 ?_
  have g3 : f_X12_put N σ2 mb (xs (i + 1).toNatClampNeg) (((Int32.toInt64 (xs (i + 2).toNatClampNeg)) <<< (Int32.toInt64 32 &&& 63)) ||| ((Int32.toInt64 (xs (i + 3).toNatClampNeg)) &&& 4294967295)) (xs (i + 4).toNatClampNeg) = some (r4, σ5) := g3
  refine sx_callV (As := [.int (xs (i + 1).toNatClampNeg), .long (((Int32.toInt64 (xs (i + 2).toNatClampNeg)) <<< (Int32.toInt64 32 &&& 63)) ||| ((Int32.toInt64 (xs (i + 3).toNatClampNeg)) &&& 4294967295)), .int (xs (i + 4).toNatClampNeg)]) (rest := []) C hs (c_X12_put g3) mo_X12_put q1515 g2 rfl rfl hl.1 ⟨⟨(Nat.le_of_ble_eq_true rfl), (Nat.le_of_ble_eq_true rfl)⟩, by omega, by omega⟩ rfl (Nat.le_of_ble_eq_true rfl) dL_law_308 (fun H locs hs => ?_)
  refine W.eq (g2 := F0 m 311 ls [.int r4]) rfl ?_
  refine lv_istore (lv' := [(6, .int r4), (5, .int k1), (4, .int i), (3, .ref ob), (2, .ref mb), (1, .ref xb), (0, .ref b)]) C.1 C.2.1 dL_law_311 hl (by decide) rfl (fun ls hl => ?_)
  refine lv_aload_n C.1 C.2.1 dL_law_313 rfl (lv_at hl 4 rfl) ?_
  refine sx_callV (As := []) (rest := []) C hs (c_X12_thrown g5) mo_X12_thrown q1511 g4 rfl rfl hl.1 ⟨⟨(Nat.le_of_ble_eq_true rfl), (Nat.le_of_ble_eq_true rfl)⟩, by omega, by omega⟩ rfl (Nat.le_of_ble_eq_true rfl) dL_law_314 (fun H locs hs => ?_)
  refine W.eq (g2 := F0 m 317 ls [.int k1]) rfl ?_
  refine lv_iload C.1 C.2.1 dL_law_317 (lv_at hl 1 rfl) ?_
  refine lv_icmp_eq (tgt := 324) C.1 C.2.1 dL_law_319 (by decide) (fun c7 => ?_) (fun c7 => absurd rfl c7)
  refine lv_iload C.1 C.2.1 dL_law_324 (lv_at hl 1 rfl) ?_
  refine lv_if_ne (tgt := 341) C.1 C.2.1 dL_law_326 (by decide) (fun c8 => ?_) (fun c8 => ?_)
  · refine lv_goto (tgt := 3547) C.1 C.2.1 dL_law_341 (by decide) ?_
    refine W.widen (k := cells + 5) (n := slots + 2048) (by omega) (by omega) ?_
    exact kk _ _ _ _ _ hs hI (lv_sub hl [2, 3, 4, 5, 6] rfl)
  · refine lv_aload_n C.1 C.2.1 dL_law_329 rfl (lv_at hl 3 rfl) ?_
    refine lv_iconst (v := 0) C.1 C.2.1 dL_law_330 (by decide) ?_
    have g7 : aL σ5 ob 2 0 = some (Int32.toInt64 r4) := g6 c8
    refine sx_lald C hs g7 dL_law_331 ?_
    refine lv_iload C.1 C.2.1 dL_law_332 (lv_at hl 0 rfl) ?_
    refine lv_i2l (v := Int32.toInt64 r4) C.1 C.2.1 dL_law_334 rfl ?_
    refine W.lcmp C.1 C.2.1 dL_law_335 ?_
    refine lv_if_eq (tgt := 341) C.1 C.2.1 dL_law_336 (by decide) (fun c9 => ?_) (fun c9 => absurd ((lg_cmp_eq _ _).mpr rfl) c9)
    refine lv_goto (tgt := 3547) C.1 C.2.1 dL_law_341 (by decide) ?_
    refine W.widen (k := cells + 5) (n := slots + 2048) (by omega) (by omega) ?_
    exact kk _ _ _ _ _ hs hI (lv_sub hl [2, 3, 4, 5, 6] rfl)
def A_type (I : Nat → Sto → Prop) (N xb mb ob : Nat) : Prop := ∀ (v1 : Int32), Ag I mb ob (fun x : Int32 => x.toInt64) (fun σ sz => f_L_type σ sz xb v1 ob) (fun σ => f_X12_type σ mb v1)
set_option maxHeartbeats 4000000 in
set_option maxRecDepth 100000 in
theorem lc_type {l : Launch} (hfl : l.stackTraces = false) {g : PP} {p : Program} {e : Env} {s : State} {m : MethodId} {args : Array Value} {below : List Frame} {meth : Method} {c : Code} {N : Nat} {I : Nat → Sto → Prop} {n : Nat} (hn : n < 512) {xs : Nat → Int32} {b L xb mb ob : Nat} {i : Int32} (C : Cx g p s m meth c cL_law 8 "TillhouseLaw") (hX : va_X b L xs s s.heap) (hbl : b < s.heap.size) (hbA : ¬ Aw g b) (hi0 : vp_in i L) (hi1 : vp_in (i + 1) L) (hi2 : vp_in (i + 2) L) (hi3 : vp_in (i + 3) L) (hi4 : vp_in (i + 4) L) (hi5 : vp_in (i + 5) L) (hi6 : vp_in (i + 6) L)
    (A : A_type I N xb mb ob) {σ : Sto} {sz : Nat} {H : Heap} {locs : List Loc} {ls : Array Slot} {cells slots : Nat} (hs : HS g s σ sz H locs) (hI : I n σ) (hl : lv_has ls 8 [(4, .int i), (3, .ref ob), (2, .ref mb), (1, .ref xb), (0, .ref b)]) (hc : cells + 5 ≤ room_1.cells) (hS : slots + 2048 ≤ room_1.slots) {Q : State → Prop}
    (kk : ∀ (σ : Sto) (sz : Nat) (H : Heap) (locs : List Loc) (ls : Array Slot), HS g s σ sz H locs → I (n + 1) σ → lv_has ls 8 [(4, .int i), (3, .ref ob), (2, .ref mb), (1, .ref xb), (0, .ref b)] → W p l e room_1 s m args below meth c H locs (cells + 5) (slots + 2048) Q (F0 m 3547 ls [])) : W p l e room_1 s m args below meth c H locs cells slots Q (F0 m 344 ls []) := by
  refine lv_aload_n C.1 C.2.1 dL_law_344 rfl (lv_at hl 3 rfl) ?_
  refine lv_aload_n C.1 C.2.1 dL_law_345 rfl (lv_at hl 4 rfl) ?_
  refine lv_iload C.1 C.2.1 dL_law_346 (lv_at hl 0 rfl) ?_
  refine lv_iconst (v := 1) C.1 C.2.1 dL_law_348 (by decide) ?_
  refine lv_iadd C.1 C.2.1 dL_law_349 ?_
  refine va_sld C.1 C.2.1 hX hbl hbA hs.2.2 hi1 dL_law_350 ?_
  refine lv_i2c (v := (Int32.toUInt32 (xs (i + 1).toNatClampNeg) % 65536).toInt32) C.1 C.2.1 dL_law_351 rfl ?_
  refine lv_aload_n C.1 C.2.1 dL_law_352 rfl (lv_at hl 1 rfl) ?_
  obtain ⟨k1, σ2, z3, r4, σ5, g1, g2, g3, g4, g5, g6, hI⟩ := A ((Int32.toUInt32 (xs (i + 1).toNatClampNeg) % 65536).toInt32) _ _ _ hn hI (HS.fr hs)
  have g1 : f_L_type σ sz xb ((Int32.toUInt32 (xs (i + 1).toNatClampNeg) % 65536).toInt32) ob = some (k1, σ2, z3) := g1
  refine sx_callSW (As := [.ref xb, .int ((Int32.toUInt32 (xs (i + 1).toNatClampNeg) % 65536).toInt32), .ref ob]) (rest := []) C hs (c_L_type hfl g1) mo_L_type q491 rfl hl.1 ⟨⟨(Nat.le_of_ble_eq_true rfl), (Nat.le_of_ble_eq_true rfl)⟩, by omega, by omega⟩ rfl (Nat.le_of_ble_eq_true rfl) dL_law_353 (fun z6 _ H locs hs => ?_)
  refine W.eq (g2 := F0 m 356 ls [.int k1]) rfl ?_
  refine lv_istore (lv' := [(5, .int k1), (4, .int i), (3, .ref ob), (2, .ref mb), (1, .ref xb), (0, .ref b)]) C.1 C.2.1 dL_law_356 hl (by decide) rfl (fun ls hl => ?_)
  refine lv_aload_n C.1 C.2.1 dL_law_358 rfl (lv_at hl 3 rfl) ?_
  refine lv_aload_n C.1 C.2.1 dL_law_359 rfl (lv_at hl 5 rfl) ?_
  refine lv_iload C.1 C.2.1 dL_law_360 (lv_at hl 1 rfl) ?_
  refine lv_iconst (v := 1) C.1 C.2.1 dL_law_362 (by decide) ?_
  refine lv_iadd C.1 C.2.1 dL_law_363 ?_
  refine va_sld C.1 C.2.1 hX hbl hbA hs.2.2 hi1 dL_law_364 ?_
  refine lv_i2c (v := (Int32.toUInt32 (xs (i + 1).toNatClampNeg) % 65536).toInt32) C.1 C.2.1 dL_law_365 rfl ?_
  have g3 : f_X12_type σ2 mb ((Int32.toUInt32 (xs (i + 1).toNatClampNeg) % 65536).toInt32) = some (r4, σ5) := g3
  refine sx_callV (As := [.int ((Int32.toUInt32 (xs (i + 1).toNatClampNeg) % 65536).toInt32)]) (rest := []) C hs (c_X12_type g3) mo_X12_type q1541 g2 rfl rfl hl.1 ⟨⟨(Nat.le_of_ble_eq_true rfl), (Nat.le_of_ble_eq_true rfl)⟩, by omega, by omega⟩ rfl (Nat.le_of_ble_eq_true rfl) dL_law_366 (fun H locs hs => ?_)
  refine W.eq (g2 := F0 m 369 ls [.int r4]) rfl ?_
  refine lv_istore (lv' := [(6, .int r4), (5, .int k1), (4, .int i), (3, .ref ob), (2, .ref mb), (1, .ref xb), (0, .ref b)]) C.1 C.2.1 dL_law_369 hl (by decide) rfl (fun ls hl => ?_)
  refine lv_aload_n C.1 C.2.1 dL_law_371 rfl (lv_at hl 4 rfl) ?_
  refine sx_callV (As := []) (rest := []) C hs (c_X12_thrown g5) mo_X12_thrown q1511 g4 rfl rfl hl.1 ⟨⟨(Nat.le_of_ble_eq_true rfl), (Nat.le_of_ble_eq_true rfl)⟩, by omega, by omega⟩ rfl (Nat.le_of_ble_eq_true rfl) dL_law_372 (fun H locs hs => ?_)
  refine W.eq (g2 := F0 m 375 ls [.int k1]) rfl ?_
  refine lv_iload C.1 C.2.1 dL_law_375 (lv_at hl 1 rfl) ?_
  refine lv_icmp_eq (tgt := 382) C.1 C.2.1 dL_law_377 (by decide) (fun c7 => ?_) (fun c7 => absurd rfl c7)
  refine lv_iload C.1 C.2.1 dL_law_382 (lv_at hl 1 rfl) ?_
  refine lv_if_ne (tgt := 399) C.1 C.2.1 dL_law_384 (by decide) (fun c8 => ?_) (fun c8 => ?_)
  · refine lv_goto (tgt := 3547) C.1 C.2.1 dL_law_399 (by decide) ?_
    refine W.widen (k := cells + 5) (n := slots + 2048) (by omega) (by omega) ?_
    exact kk _ _ _ _ _ hs hI (lv_sub hl [2, 3, 4, 5, 6] rfl)
  · refine lv_aload_n C.1 C.2.1 dL_law_387 rfl (lv_at hl 3 rfl) ?_
    refine lv_iconst (v := 0) C.1 C.2.1 dL_law_388 (by decide) ?_
    have g7 : aL σ5 ob 2 0 = some (Int32.toInt64 r4) := g6 c8
    refine sx_lald C hs g7 dL_law_389 ?_
    refine lv_iload C.1 C.2.1 dL_law_390 (lv_at hl 0 rfl) ?_
    refine lv_i2l (v := Int32.toInt64 r4) C.1 C.2.1 dL_law_392 rfl ?_
    refine W.lcmp C.1 C.2.1 dL_law_393 ?_
    refine lv_if_eq (tgt := 399) C.1 C.2.1 dL_law_394 (by decide) (fun c9 => ?_) (fun c9 => absurd ((lg_cmp_eq _ _).mpr rfl) c9)
    refine lv_goto (tgt := 3547) C.1 C.2.1 dL_law_399 (by decide) ?_
    refine W.widen (k := cells + 5) (n := slots + 2048) (by omega) (by omega) ?_
    exact kk _ _ _ _ _ hs hI (lv_sub hl [2, 3, 4, 5, 6] rfl)
def A_fault (I : Nat → Sto → Prop) (N xb mb ob : Nat) : Prop := AgR I xb mb (fun σ => f_X11_fault N σ xb) (fun σ => f_X12_fault N σ mb)
set_option maxHeartbeats 4000000 in
set_option maxRecDepth 100000 in
theorem lc_fault {l : Launch} (hfl : l.stackTraces = false) {g : PP} {p : Program} {e : Env} {s : State} {m : MethodId} {args : Array Value} {below : List Frame} {meth : Method} {c : Code} {N : Nat} {I : Nat → Sto → Prop} {n : Nat} (hn : n < 512) {xs : Nat → Int32} {b L xb mb ob : Nat} {i : Int32} (C : Cx g p s m meth c cL_law 8 "TillhouseLaw") (hX : va_X b L xs s s.heap) (hbl : b < s.heap.size) (hbA : ¬ Aw g b) (hi0 : vp_in i L) (hi1 : vp_in (i + 1) L) (hi2 : vp_in (i + 2) L) (hi3 : vp_in (i + 3) L) (hi4 : vp_in (i + 4) L) (hi5 : vp_in (i + 5) L) (hi6 : vp_in (i + 6) L)
    (A : A_fault I N xb mb ob) {σ : Sto} {sz : Nat} {H : Heap} {locs : List Loc} {ls : Array Slot} {cells slots : Nat} (hs : HS g s σ sz H locs) (hI : I n σ) (hl : lv_has ls 8 [(4, .int i), (3, .ref ob), (2, .ref mb), (1, .ref xb), (0, .ref b)]) (hc : cells + 5 ≤ room_1.cells) (hS : slots + 2048 ≤ room_1.slots) {Q : State → Prop}
    (kk : ∀ (σ : Sto) (sz : Nat) (H : Heap) (locs : List Loc) (ls : Array Slot), HS g s σ sz H locs → I (n + 1) σ → lv_has ls 8 [(4, .int i), (3, .ref ob), (2, .ref mb), (1, .ref xb), (0, .ref b)] → W p l e room_1 s m args below meth c H locs (cells + 5) (slots + 2048) Q (F0 m 3547 ls [])) : W p l e room_1 s m args below meth c H locs cells slots Q (F0 m 402 ls []) := by
  refine lv_aload_n C.1 C.2.1 dL_law_402 rfl (lv_at hl 3 rfl) ?_
  obtain ⟨r1, σ2, g1, g2, g3, g4, hI⟩ := A _ _ _ hn hI (HS.fr hs)
  have g2 : f_X11_fault N σ xb = some r1 := g2
  refine sx_callV (As := []) (rest := []) C hs (c_X11_fault g2) mo_X11_fault q279 g1 rfl rfl hl.1 ⟨⟨(Nat.le_of_ble_eq_true rfl), (Nat.le_of_ble_eq_true rfl)⟩, by omega, by omega⟩ rfl (Nat.le_of_ble_eq_true rfl) dL_law_403 (fun H locs hs => ?_)
  refine W.eq (g2 := F0 m 406 ls [.int r1]) rfl ?_
  refine lv_aload_n C.1 C.2.1 dL_law_406 rfl (lv_at hl 2 rfl) ?_
  have g4 : f_X12_fault N σ mb = some (r1, σ2) := g4
  refine sx_callV (As := []) (rest := [.int r1]) C hs (c_X12_fault g4) mo_X12_fault q1545 g3 rfl rfl hl.1 ⟨⟨(Nat.le_of_ble_eq_true rfl), (Nat.le_of_ble_eq_true rfl)⟩, by omega, by omega⟩ rfl (Nat.le_of_ble_eq_true rfl) dL_law_407 (fun H locs hs => ?_)
  refine W.eq (g2 := F0 m 410 ls [.int r1, .int r1]) rfl ?_
  refine lv_icmp_eq (tgt := 3547) C.1 C.2.1 dL_law_410 (by decide) (fun c1 => ?_) (fun c1 => absurd rfl c1)
  refine W.widen (k := cells + 5) (n := slots + 2048) (by omega) (by omega) ?_
  exact kk _ _ _ _ _ hs hI (lv_sub hl [0, 1, 2, 3, 4] rfl)
def A_read (I : Nat → Sto → Prop) (N xb mb ob : Nat) : Prop := ∀ (v1 : Int32), Ag I mb ob (fun x : Int32 => x.toInt64) (fun σ sz => f_L_read N σ sz xb v1 ob) (fun σ => f_X12_read N σ mb v1)
set_option maxHeartbeats 4000000 in
set_option maxRecDepth 100000 in
theorem lc_read {l : Launch} (hfl : l.stackTraces = false) {g : PP} {p : Program} {e : Env} {s : State} {m : MethodId} {args : Array Value} {below : List Frame} {meth : Method} {c : Code} {N : Nat} {I : Nat → Sto → Prop} {n : Nat} (hn : n < 512) {xs : Nat → Int32} {b L xb mb ob : Nat} {i : Int32} (C : Cx g p s m meth c cL_law 8 "TillhouseLaw") (hX : va_X b L xs s s.heap) (hbl : b < s.heap.size) (hbA : ¬ Aw g b) (hi0 : vp_in i L) (hi1 : vp_in (i + 1) L) (hi2 : vp_in (i + 2) L) (hi3 : vp_in (i + 3) L) (hi4 : vp_in (i + 4) L) (hi5 : vp_in (i + 5) L) (hi6 : vp_in (i + 6) L)
    (A : A_read I N xb mb ob) {σ : Sto} {sz : Nat} {H : Heap} {locs : List Loc} {ls : Array Slot} {cells slots : Nat} (hs : HS g s σ sz H locs) (hI : I n σ) (hl : lv_has ls 8 [(4, .int i), (3, .ref ob), (2, .ref mb), (1, .ref xb), (0, .ref b)]) (hc : cells + 5 ≤ room_1.cells) (hS : slots + 2048 ≤ room_1.slots) {Q : State → Prop}
    (kk : ∀ (σ : Sto) (sz : Nat) (H : Heap) (locs : List Loc) (ls : Array Slot), HS g s σ sz H locs → I (n + 1) σ → lv_has ls 8 [(4, .int i), (3, .ref ob), (2, .ref mb), (1, .ref xb), (0, .ref b)] → W p l e room_1 s m args below meth c H locs (cells + 5) (slots + 2048) Q (F0 m 3547 ls [])) : W p l e room_1 s m args below meth c H locs cells slots Q (F0 m 415 ls []) := by
  refine lv_aload_n C.1 C.2.1 dL_law_415 rfl (lv_at hl 3 rfl) ?_
  refine lv_aload_n C.1 C.2.1 dL_law_416 rfl (lv_at hl 4 rfl) ?_
  refine lv_iload C.1 C.2.1 dL_law_417 (lv_at hl 0 rfl) ?_
  refine lv_iconst (v := 1) C.1 C.2.1 dL_law_419 (by decide) ?_
  refine lv_iadd C.1 C.2.1 dL_law_420 ?_
  refine va_sld C.1 C.2.1 hX hbl hbA hs.2.2 hi1 dL_law_421 ?_
  refine lv_aload_n C.1 C.2.1 dL_law_422 rfl (lv_at hl 1 rfl) ?_
  obtain ⟨k1, σ2, z3, r4, σ5, g1, g2, g3, g4, g5, g6, hI⟩ := A (xs (i + 1).toNatClampNeg) _ _ _ hn hI (HS.fr hs)
  have g1 : f_L_read N σ sz xb (xs (i + 1).toNatClampNeg) ob = some (k1, σ2, z3) := g1
  refine sx_callSW (As := [.ref xb, .int (xs (i + 1).toNatClampNeg), .ref ob]) (rest := []) C hs (c_L_read hfl g1) mo_L_read q523 rfl hl.1 ⟨⟨(Nat.le_of_ble_eq_true rfl), (Nat.le_of_ble_eq_true rfl)⟩, by omega, by omega⟩ rfl (Nat.le_of_ble_eq_true rfl) dL_law_423 (fun z6 _ H locs hs => ?_)
  refine W.eq (g2 := F0 m 426 ls [.int k1]) rfl ?_
  refine lv_istore (lv' := [(5, .int k1), (4, .int i), (3, .ref ob), (2, .ref mb), (1, .ref xb), (0, .ref b)]) C.1 C.2.1 dL_law_426 hl (by decide) rfl (fun ls hl => ?_)
  refine lv_aload_n C.1 C.2.1 dL_law_428 rfl (lv_at hl 3 rfl) ?_
  refine lv_aload_n C.1 C.2.1 dL_law_429 rfl (lv_at hl 5 rfl) ?_
  refine lv_iload C.1 C.2.1 dL_law_430 (lv_at hl 1 rfl) ?_
  refine lv_iconst (v := 1) C.1 C.2.1 dL_law_432 (by decide) ?_
  refine lv_iadd C.1 C.2.1 dL_law_433 ?_
  refine va_sld C.1 C.2.1 hX hbl hbA hs.2.2 hi1 dL_law_434 ?_
  have g3 : f_X12_read N σ2 mb (xs (i + 1).toNatClampNeg) = some (r4, σ5) := g3
  refine sx_callV (As := [.int (xs (i + 1).toNatClampNeg)]) (rest := []) C hs (c_X12_read g3) mo_X12_read q1556 g2 rfl rfl hl.1 ⟨⟨(Nat.le_of_ble_eq_true rfl), (Nat.le_of_ble_eq_true rfl)⟩, by omega, by omega⟩ rfl (Nat.le_of_ble_eq_true rfl) dL_law_435 (fun H locs hs => ?_)
  refine W.eq (g2 := F0 m 438 ls [.int r4]) rfl ?_
  refine lv_istore (lv' := [(6, .int r4), (5, .int k1), (4, .int i), (3, .ref ob), (2, .ref mb), (1, .ref xb), (0, .ref b)]) C.1 C.2.1 dL_law_438 hl (by decide) rfl (fun ls hl => ?_)
  refine lv_aload_n C.1 C.2.1 dL_law_440 rfl (lv_at hl 4 rfl) ?_
  refine sx_callV (As := []) (rest := []) C hs (c_X12_thrown g5) mo_X12_thrown q1511 g4 rfl rfl hl.1 ⟨⟨(Nat.le_of_ble_eq_true rfl), (Nat.le_of_ble_eq_true rfl)⟩, by omega, by omega⟩ rfl (Nat.le_of_ble_eq_true rfl) dL_law_441 (fun H locs hs => ?_)
  refine W.eq (g2 := F0 m 444 ls [.int k1]) rfl ?_
  refine lv_iload C.1 C.2.1 dL_law_444 (lv_at hl 1 rfl) ?_
  refine lv_icmp_eq (tgt := 451) C.1 C.2.1 dL_law_446 (by decide) (fun c7 => ?_) (fun c7 => absurd rfl c7)
  refine lv_iload C.1 C.2.1 dL_law_451 (lv_at hl 1 rfl) ?_
  refine lv_if_ne (tgt := 468) C.1 C.2.1 dL_law_453 (by decide) (fun c8 => ?_) (fun c8 => ?_)
  · refine lv_goto (tgt := 3547) C.1 C.2.1 dL_law_468 (by decide) ?_
    refine W.widen (k := cells + 5) (n := slots + 2048) (by omega) (by omega) ?_
    exact kk _ _ _ _ _ hs hI (lv_sub hl [2, 3, 4, 5, 6] rfl)
  · refine lv_aload_n C.1 C.2.1 dL_law_456 rfl (lv_at hl 3 rfl) ?_
    refine lv_iconst (v := 0) C.1 C.2.1 dL_law_457 (by decide) ?_
    have g7 : aL σ5 ob 2 0 = some (Int32.toInt64 r4) := g6 c8
    refine sx_lald C hs g7 dL_law_458 ?_
    refine lv_iload C.1 C.2.1 dL_law_459 (lv_at hl 0 rfl) ?_
    refine lv_i2l (v := Int32.toInt64 r4) C.1 C.2.1 dL_law_461 rfl ?_
    refine W.lcmp C.1 C.2.1 dL_law_462 ?_
    refine lv_if_eq (tgt := 468) C.1 C.2.1 dL_law_463 (by decide) (fun c9 => ?_) (fun c9 => absurd ((lg_cmp_eq _ _).mpr rfl) c9)
    refine lv_goto (tgt := 3547) C.1 C.2.1 dL_law_468 (by decide) ?_
    refine W.widen (k := cells + 5) (n := slots + 2048) (by omega) (by omega) ?_
    exact kk _ _ _ _ _ hs hI (lv_sub hl [2, 3, 4, 5, 6] rfl)
def A_wipe (I : Nat → Sto → Prop) (N xb mb ob : Nat) : Prop := AgW I xb mb (fun σ => f_X11_wipe σ xb) (fun σ => f_X12_wipe σ mb)
set_option maxHeartbeats 4000000 in
set_option maxRecDepth 100000 in
theorem lc_wipe {l : Launch} (hfl : l.stackTraces = false) {g : PP} {p : Program} {e : Env} {s : State} {m : MethodId} {args : Array Value} {below : List Frame} {meth : Method} {c : Code} {N : Nat} {I : Nat → Sto → Prop} {n : Nat} (hn : n < 512) {xs : Nat → Int32} {b L xb mb ob : Nat} {i : Int32} (C : Cx g p s m meth c cL_law 8 "TillhouseLaw") (hX : va_X b L xs s s.heap) (hbl : b < s.heap.size) (hbA : ¬ Aw g b) (hi0 : vp_in i L) (hi1 : vp_in (i + 1) L) (hi2 : vp_in (i + 2) L) (hi3 : vp_in (i + 3) L) (hi4 : vp_in (i + 4) L) (hi5 : vp_in (i + 5) L) (hi6 : vp_in (i + 6) L)
    (A : A_wipe I N xb mb ob) {σ : Sto} {sz : Nat} {H : Heap} {locs : List Loc} {ls : Array Slot} {cells slots : Nat} (hs : HS g s σ sz H locs) (hI : I n σ) (hl : lv_has ls 8 [(4, .int i), (3, .ref ob), (2, .ref mb), (1, .ref xb), (0, .ref b)]) (hc : cells + 5 ≤ room_1.cells) (hS : slots + 2048 ≤ room_1.slots) {Q : State → Prop}
    (kk : ∀ (σ : Sto) (sz : Nat) (H : Heap) (locs : List Loc) (ls : Array Slot), HS g s σ sz H locs → I (n + 1) σ → lv_has ls 8 [(4, .int i), (3, .ref ob), (2, .ref mb), (1, .ref xb), (0, .ref b)] → W p l e room_1 s m args below meth c H locs (cells + 5) (slots + 2048) Q (F0 m 3547 ls [])) : W p l e room_1 s m args below meth c H locs cells slots Q (F0 m 471 ls []) := by
  refine lv_aload_n C.1 C.2.1 dL_law_471 rfl (lv_at hl 3 rfl) ?_
  obtain ⟨r1, σ1, σ2, g1, g2, g3, g4, hI⟩ := A _ _ _ hn hI (HS.fr hs)
  have g2 : f_X11_wipe σ xb = some (r1, σ1) := g2
  refine sx_callV (As := []) (rest := []) C hs (c_X11_wipe g2) mo_X11_wipe q308 g1 rfl rfl hl.1 ⟨⟨(Nat.le_of_ble_eq_true rfl), (Nat.le_of_ble_eq_true rfl)⟩, by omega, by omega⟩ rfl (Nat.le_of_ble_eq_true rfl) dL_law_472 (fun H locs hs => ?_)
  refine W.eq (g2 := F0 m 475 ls [.int r1]) rfl ?_
  refine lv_aload_n C.1 C.2.1 dL_law_475 rfl (lv_at hl 2 rfl) ?_
  have g4 : f_X12_wipe σ1 mb = some (r1, σ2) := g4
  refine sx_callV (As := []) (rest := [.int r1]) C hs (c_X12_wipe g4) mo_X12_wipe q1588 g3 rfl rfl hl.1 ⟨⟨(Nat.le_of_ble_eq_true rfl), (Nat.le_of_ble_eq_true rfl)⟩, by omega, by omega⟩ rfl (Nat.le_of_ble_eq_true rfl) dL_law_476 (fun H locs hs => ?_)
  refine W.eq (g2 := F0 m 479 ls [.int r1, .int r1]) rfl ?_
  refine lv_icmp_eq (tgt := 3547) C.1 C.2.1 dL_law_479 (by decide) (fun c1 => ?_) (fun c1 => absurd rfl c1)
  refine W.widen (k := cells + 5) (n := slots + 2048) (by omega) (by omega) ?_
  exact kk _ _ _ _ _ hs hI (lv_sub hl [0, 1, 2, 3, 4] rfl)
def A_unscaled (I : Nat → Sto → Prop) (N xb mb ob : Nat) : Prop := ∀ (v1 : Int32), Ag I mb ob (fun x : Int64 => x) (fun σ sz => f_L_unscaled σ sz xb v1 ob) (fun σ => f_X12_unscaled σ mb v1)
set_option maxHeartbeats 4000000 in
set_option maxRecDepth 100000 in
theorem lc_unscaled {l : Launch} (hfl : l.stackTraces = false) {g : PP} {p : Program} {e : Env} {s : State} {m : MethodId} {args : Array Value} {below : List Frame} {meth : Method} {c : Code} {N : Nat} {I : Nat → Sto → Prop} {n : Nat} (hn : n < 512) {xs : Nat → Int32} {b L xb mb ob : Nat} {i : Int32} (C : Cx g p s m meth c cL_law 8 "TillhouseLaw") (hX : va_X b L xs s s.heap) (hbl : b < s.heap.size) (hbA : ¬ Aw g b) (hi0 : vp_in i L) (hi1 : vp_in (i + 1) L) (hi2 : vp_in (i + 2) L) (hi3 : vp_in (i + 3) L) (hi4 : vp_in (i + 4) L) (hi5 : vp_in (i + 5) L) (hi6 : vp_in (i + 6) L)
    (A : A_unscaled I N xb mb ob) {σ : Sto} {sz : Nat} {H : Heap} {locs : List Loc} {ls : Array Slot} {cells slots : Nat} (hs : HS g s σ sz H locs) (hI : I n σ) (hl : lv_has ls 8 [(4, .int i), (3, .ref ob), (2, .ref mb), (1, .ref xb), (0, .ref b)]) (hc : cells + 5 ≤ room_1.cells) (hS : slots + 2048 ≤ room_1.slots) {Q : State → Prop}
    (kk : ∀ (σ : Sto) (sz : Nat) (H : Heap) (locs : List Loc) (ls : Array Slot), HS g s σ sz H locs → I (n + 1) σ → lv_has ls 8 [(4, .int i), (3, .ref ob), (2, .ref mb), (1, .ref xb), (0, .ref b)] → W p l e room_1 s m args below meth c H locs (cells + 5) (slots + 2048) Q (F0 m 3547 ls [])) : W p l e room_1 s m args below meth c H locs cells slots Q (F0 m 484 ls []) := by
  refine lv_aload_n C.1 C.2.1 dL_law_484 rfl (lv_at hl 3 rfl) ?_
  refine lv_aload_n C.1 C.2.1 dL_law_485 rfl (lv_at hl 4 rfl) ?_
  refine lv_iload C.1 C.2.1 dL_law_486 (lv_at hl 0 rfl) ?_
  refine lv_iconst (v := 1) C.1 C.2.1 dL_law_488 (by decide) ?_
  refine lv_iadd C.1 C.2.1 dL_law_489 ?_
  refine va_sld C.1 C.2.1 hX hbl hbA hs.2.2 hi1 dL_law_490 ?_
  refine lv_aload_n C.1 C.2.1 dL_law_491 rfl (lv_at hl 1 rfl) ?_
  obtain ⟨k1, σ2, z3, r4, σ5, g1, g2, g3, g4, g5, g6, hI⟩ := A (xs (i + 1).toNatClampNeg) _ _ _ hn hI (HS.fr hs)
  have g1 : f_L_unscaled σ sz xb (xs (i + 1).toNatClampNeg) ob = some (k1, σ2, z3) := g1
  refine sx_callSW (As := [.ref xb, .int (xs (i + 1).toNatClampNeg), .ref ob]) (rest := []) C hs (c_L_unscaled hfl g1) mo_L_unscaled q566 rfl hl.1 ⟨⟨(Nat.le_of_ble_eq_true rfl), (Nat.le_of_ble_eq_true rfl)⟩, by omega, by omega⟩ rfl (Nat.le_of_ble_eq_true rfl) dL_law_492 (fun z6 _ H locs hs => ?_)
  refine W.eq (g2 := F0 m 495 ls [.int k1]) rfl ?_
  refine lv_istore (lv' := [(5, .int k1), (4, .int i), (3, .ref ob), (2, .ref mb), (1, .ref xb), (0, .ref b)]) C.1 C.2.1 dL_law_495 hl (by decide) rfl (fun ls hl => ?_)
  refine lv_aload_n C.1 C.2.1 dL_law_497 rfl (lv_at hl 3 rfl) ?_
  refine lv_aload_n C.1 C.2.1 dL_law_498 rfl (lv_at hl 5 rfl) ?_
  refine lv_iload C.1 C.2.1 dL_law_499 (lv_at hl 1 rfl) ?_
  refine lv_iconst (v := 1) C.1 C.2.1 dL_law_501 (by decide) ?_
  refine lv_iadd C.1 C.2.1 dL_law_502 ?_
  refine va_sld C.1 C.2.1 hX hbl hbA hs.2.2 hi1 dL_law_503 ?_
  have g3 : f_X12_unscaled σ2 mb (xs (i + 1).toNatClampNeg) = some (r4, σ5) := g3
  refine sx_callV (As := [.int (xs (i + 1).toNatClampNeg)]) (rest := []) C hs (c_X12_unscaled g3) mo_X12_unscaled q1592 g2 rfl rfl hl.1 ⟨⟨(Nat.le_of_ble_eq_true rfl), (Nat.le_of_ble_eq_true rfl)⟩, by omega, by omega⟩ rfl (Nat.le_of_ble_eq_true rfl) dL_law_504 (fun H locs hs => ?_)
  refine W.eq (g2 := F0 m 507 ls [.long r4]) rfl ?_
  refine lv_lstore (lv' := [(6, .long r4), (5, .int k1), (4, .int i), (3, .ref ob), (2, .ref mb), (1, .ref xb), (0, .ref b)]) C.1 C.2.1 dL_law_507 hl (by decide) rfl (fun ls hl => ?_)
  refine lv_aload_n C.1 C.2.1 dL_law_509 rfl (lv_at hl 4 rfl) ?_
  refine sx_callV (As := []) (rest := []) C hs (c_X12_thrown g5) mo_X12_thrown q1511 g4 rfl rfl hl.1 ⟨⟨(Nat.le_of_ble_eq_true rfl), (Nat.le_of_ble_eq_true rfl)⟩, by omega, by omega⟩ rfl (Nat.le_of_ble_eq_true rfl) dL_law_510 (fun H locs hs => ?_)
  refine W.eq (g2 := F0 m 513 ls [.int k1]) rfl ?_
  refine lv_iload C.1 C.2.1 dL_law_513 (lv_at hl 1 rfl) ?_
  refine lv_icmp_eq (tgt := 520) C.1 C.2.1 dL_law_515 (by decide) (fun c7 => ?_) (fun c7 => absurd rfl c7)
  refine lv_iload C.1 C.2.1 dL_law_520 (lv_at hl 1 rfl) ?_
  refine lv_if_ne (tgt := 536) C.1 C.2.1 dL_law_522 (by decide) (fun c8 => ?_) (fun c8 => ?_)
  · refine lv_goto (tgt := 3547) C.1 C.2.1 dL_law_536 (by decide) ?_
    refine W.widen (k := cells + 5) (n := slots + 2048) (by omega) (by omega) ?_
    exact kk _ _ _ _ _ hs hI (lv_sub hl [2, 3, 4, 5, 6] rfl)
  · refine lv_aload_n C.1 C.2.1 dL_law_525 rfl (lv_at hl 3 rfl) ?_
    refine lv_iconst (v := 0) C.1 C.2.1 dL_law_526 (by decide) ?_
    have g7 : aL σ5 ob 2 0 = some (r4) := g6 c8
    refine sx_lald C hs g7 dL_law_527 ?_
    refine lv_lload C.1 C.2.1 dL_law_528 (lv_at hl 0 rfl) ?_
    refine W.lcmp C.1 C.2.1 dL_law_530 ?_
    refine lv_if_eq (tgt := 536) C.1 C.2.1 dL_law_531 (by decide) (fun c9 => ?_) (fun c9 => absurd ((lg_cmp_eq _ _).mpr rfl) c9)
    refine lv_goto (tgt := 3547) C.1 C.2.1 dL_law_536 (by decide) ?_
    refine W.widen (k := cells + 5) (n := slots + 2048) (by omega) (by omega) ?_
    exact kk _ _ _ _ _ hs hI (lv_sub hl [2, 3, 4, 5, 6] rfl)
def A_scale (I : Nat → Sto → Prop) (N xb mb ob : Nat) : Prop := ∀ (v1 : Int32), Ag I mb ob (fun x : Int32 => x.toInt64) (fun σ sz => f_L_scale σ sz xb v1 ob) (fun σ => f_X12_scale σ mb v1)
set_option maxHeartbeats 4000000 in
set_option maxRecDepth 100000 in
theorem lc_scale {l : Launch} (hfl : l.stackTraces = false) {g : PP} {p : Program} {e : Env} {s : State} {m : MethodId} {args : Array Value} {below : List Frame} {meth : Method} {c : Code} {N : Nat} {I : Nat → Sto → Prop} {n : Nat} (hn : n < 512) {xs : Nat → Int32} {b L xb mb ob : Nat} {i : Int32} (C : Cx g p s m meth c cL_law 8 "TillhouseLaw") (hX : va_X b L xs s s.heap) (hbl : b < s.heap.size) (hbA : ¬ Aw g b) (hi0 : vp_in i L) (hi1 : vp_in (i + 1) L) (hi2 : vp_in (i + 2) L) (hi3 : vp_in (i + 3) L) (hi4 : vp_in (i + 4) L) (hi5 : vp_in (i + 5) L) (hi6 : vp_in (i + 6) L)
    (A : A_scale I N xb mb ob) {σ : Sto} {sz : Nat} {H : Heap} {locs : List Loc} {ls : Array Slot} {cells slots : Nat} (hs : HS g s σ sz H locs) (hI : I n σ) (hl : lv_has ls 8 [(4, .int i), (3, .ref ob), (2, .ref mb), (1, .ref xb), (0, .ref b)]) (hc : cells + 5 ≤ room_1.cells) (hS : slots + 2048 ≤ room_1.slots) {Q : State → Prop}
    (kk : ∀ (σ : Sto) (sz : Nat) (H : Heap) (locs : List Loc) (ls : Array Slot), HS g s σ sz H locs → I (n + 1) σ → lv_has ls 8 [(4, .int i), (3, .ref ob), (2, .ref mb), (1, .ref xb), (0, .ref b)] → W p l e room_1 s m args below meth c H locs (cells + 5) (slots + 2048) Q (F0 m 3547 ls [])) : W p l e room_1 s m args below meth c H locs cells slots Q (F0 m 539 ls []) := by
  refine lv_aload_n C.1 C.2.1 dL_law_539 rfl (lv_at hl 3 rfl) ?_
  refine lv_aload_n C.1 C.2.1 dL_law_540 rfl (lv_at hl 4 rfl) ?_
  refine lv_iload C.1 C.2.1 dL_law_541 (lv_at hl 0 rfl) ?_
  refine lv_iconst (v := 1) C.1 C.2.1 dL_law_543 (by decide) ?_
  refine lv_iadd C.1 C.2.1 dL_law_544 ?_
  refine va_sld C.1 C.2.1 hX hbl hbA hs.2.2 hi1 dL_law_545 ?_
  refine lv_aload_n C.1 C.2.1 dL_law_546 rfl (lv_at hl 1 rfl) ?_
  obtain ⟨k1, σ2, z3, r4, σ5, g1, g2, g3, g4, g5, g6, hI⟩ := A (xs (i + 1).toNatClampNeg) _ _ _ hn hI (HS.fr hs)
  have g1 : f_L_scale σ sz xb (xs (i + 1).toNatClampNeg) ob = some (k1, σ2, z3) := g1
  refine sx_callSW (As := [.ref xb, .int (xs (i + 1).toNatClampNeg), .ref ob]) (rest := []) C hs (c_L_scale hfl g1) mo_L_scale q594 rfl hl.1 ⟨⟨(Nat.le_of_ble_eq_true rfl), (Nat.le_of_ble_eq_true rfl)⟩, by omega, by omega⟩ rfl (Nat.le_of_ble_eq_true rfl) dL_law_547 (fun z6 _ H locs hs => ?_)
  refine W.eq (g2 := F0 m 550 ls [.int k1]) rfl ?_
  refine lv_istore (lv' := [(5, .int k1), (4, .int i), (3, .ref ob), (2, .ref mb), (1, .ref xb), (0, .ref b)]) C.1 C.2.1 dL_law_550 hl (by decide) rfl (fun ls hl => ?_)
  refine lv_aload_n C.1 C.2.1 dL_law_552 rfl (lv_at hl 3 rfl) ?_
  refine lv_aload_n C.1 C.2.1 dL_law_553 rfl (lv_at hl 5 rfl) ?_
  refine lv_iload C.1 C.2.1 dL_law_554 (lv_at hl 1 rfl) ?_
  refine lv_iconst (v := 1) C.1 C.2.1 dL_law_556 (by decide) ?_
  refine lv_iadd C.1 C.2.1 dL_law_557 ?_
  refine va_sld C.1 C.2.1 hX hbl hbA hs.2.2 hi1 dL_law_558 ?_
  have g3 : f_X12_scale σ2 mb (xs (i + 1).toNatClampNeg) = some (r4, σ5) := g3
  refine sx_callV (As := [.int (xs (i + 1).toNatClampNeg)]) (rest := []) C hs (c_X12_scale g3) mo_X12_scale q1600 g2 rfl rfl hl.1 ⟨⟨(Nat.le_of_ble_eq_true rfl), (Nat.le_of_ble_eq_true rfl)⟩, by omega, by omega⟩ rfl (Nat.le_of_ble_eq_true rfl) dL_law_559 (fun H locs hs => ?_)
  refine W.eq (g2 := F0 m 562 ls [.int r4]) rfl ?_
  refine lv_istore (lv' := [(6, .int r4), (5, .int k1), (4, .int i), (3, .ref ob), (2, .ref mb), (1, .ref xb), (0, .ref b)]) C.1 C.2.1 dL_law_562 hl (by decide) rfl (fun ls hl => ?_)
  refine lv_aload_n C.1 C.2.1 dL_law_564 rfl (lv_at hl 4 rfl) ?_
  refine sx_callV (As := []) (rest := []) C hs (c_X12_thrown g5) mo_X12_thrown q1511 g4 rfl rfl hl.1 ⟨⟨(Nat.le_of_ble_eq_true rfl), (Nat.le_of_ble_eq_true rfl)⟩, by omega, by omega⟩ rfl (Nat.le_of_ble_eq_true rfl) dL_law_565 (fun H locs hs => ?_)
  refine W.eq (g2 := F0 m 568 ls [.int k1]) rfl ?_
  refine lv_iload C.1 C.2.1 dL_law_568 (lv_at hl 1 rfl) ?_
  refine lv_icmp_eq (tgt := 575) C.1 C.2.1 dL_law_570 (by decide) (fun c7 => ?_) (fun c7 => absurd rfl c7)
  refine lv_iload C.1 C.2.1 dL_law_575 (lv_at hl 1 rfl) ?_
  refine lv_if_ne (tgt := 592) C.1 C.2.1 dL_law_577 (by decide) (fun c8 => ?_) (fun c8 => ?_)
  · refine lv_goto (tgt := 3547) C.1 C.2.1 dL_law_592 (by decide) ?_
    refine W.widen (k := cells + 5) (n := slots + 2048) (by omega) (by omega) ?_
    exact kk _ _ _ _ _ hs hI (lv_sub hl [2, 3, 4, 5, 6] rfl)
  · refine lv_aload_n C.1 C.2.1 dL_law_580 rfl (lv_at hl 3 rfl) ?_
    refine lv_iconst (v := 0) C.1 C.2.1 dL_law_581 (by decide) ?_
    have g7 : aL σ5 ob 2 0 = some (Int32.toInt64 r4) := g6 c8
    refine sx_lald C hs g7 dL_law_582 ?_
    refine lv_iload C.1 C.2.1 dL_law_583 (lv_at hl 0 rfl) ?_
    refine lv_i2l (v := Int32.toInt64 r4) C.1 C.2.1 dL_law_585 rfl ?_
    refine W.lcmp C.1 C.2.1 dL_law_586 ?_
    refine lv_if_eq (tgt := 592) C.1 C.2.1 dL_law_587 (by decide) (fun c9 => ?_) (fun c9 => absurd ((lg_cmp_eq _ _).mpr rfl) c9)
    refine lv_goto (tgt := 3547) C.1 C.2.1 dL_law_592 (by decide) ?_
    refine W.widen (k := cells + 5) (n := slots + 2048) (by omega) (by omega) ?_
    exact kk _ _ _ _ _ hs hI (lv_sub hl [2, 3, 4, 5, 6] rfl)
def A_precision (I : Nat → Sto → Prop) (N xb mb ob : Nat) : Prop := ∀ (v1 : Int32), Ag I mb ob (fun x : Int32 => x.toInt64) (fun σ sz => f_L_precision N σ sz xb v1 ob) (fun σ => f_X12_precision N σ mb v1)
set_option maxHeartbeats 4000000 in
set_option maxRecDepth 100000 in
theorem lc_precision {l : Launch} (hfl : l.stackTraces = false) {g : PP} {p : Program} {e : Env} {s : State} {m : MethodId} {args : Array Value} {below : List Frame} {meth : Method} {c : Code} {N : Nat} {I : Nat → Sto → Prop} {n : Nat} (hn : n < 512) {xs : Nat → Int32} {b L xb mb ob : Nat} {i : Int32} (C : Cx g p s m meth c cL_law 8 "TillhouseLaw") (hX : va_X b L xs s s.heap) (hbl : b < s.heap.size) (hbA : ¬ Aw g b) (hi0 : vp_in i L) (hi1 : vp_in (i + 1) L) (hi2 : vp_in (i + 2) L) (hi3 : vp_in (i + 3) L) (hi4 : vp_in (i + 4) L) (hi5 : vp_in (i + 5) L) (hi6 : vp_in (i + 6) L)
    (A : A_precision I N xb mb ob) {σ : Sto} {sz : Nat} {H : Heap} {locs : List Loc} {ls : Array Slot} {cells slots : Nat} (hs : HS g s σ sz H locs) (hI : I n σ) (hl : lv_has ls 8 [(4, .int i), (3, .ref ob), (2, .ref mb), (1, .ref xb), (0, .ref b)]) (hc : cells + 5 ≤ room_1.cells) (hS : slots + 2048 ≤ room_1.slots) {Q : State → Prop}
    (kk : ∀ (σ : Sto) (sz : Nat) (H : Heap) (locs : List Loc) (ls : Array Slot), HS g s σ sz H locs → I (n + 1) σ → lv_has ls 8 [(4, .int i), (3, .ref ob), (2, .ref mb), (1, .ref xb), (0, .ref b)] → W p l e room_1 s m args below meth c H locs (cells + 5) (slots + 2048) Q (F0 m 3547 ls [])) : W p l e room_1 s m args below meth c H locs cells slots Q (F0 m 595 ls []) := by
  refine lv_aload_n C.1 C.2.1 dL_law_595 rfl (lv_at hl 3 rfl) ?_
  refine lv_aload_n C.1 C.2.1 dL_law_596 rfl (lv_at hl 4 rfl) ?_
  refine lv_iload C.1 C.2.1 dL_law_597 (lv_at hl 0 rfl) ?_
  refine lv_iconst (v := 1) C.1 C.2.1 dL_law_599 (by decide) ?_
  refine lv_iadd C.1 C.2.1 dL_law_600 ?_
  refine va_sld C.1 C.2.1 hX hbl hbA hs.2.2 hi1 dL_law_601 ?_
  refine lv_aload_n C.1 C.2.1 dL_law_602 rfl (lv_at hl 1 rfl) ?_
  obtain ⟨k1, σ2, z3, r4, σ5, g1, g2, g3, g4, g5, g6, hI⟩ := A (xs (i + 1).toNatClampNeg) _ _ _ hn hI (HS.fr hs)
  have g1 : f_L_precision N σ sz xb (xs (i + 1).toNatClampNeg) ob = some (k1, σ2, z3) := g1
  refine sx_callSW (As := [.ref xb, .int (xs (i + 1).toNatClampNeg), .ref ob]) (rest := []) C hs (c_L_precision hfl g1) mo_L_precision q601 rfl hl.1 ⟨⟨(Nat.le_of_ble_eq_true rfl), (Nat.le_of_ble_eq_true rfl)⟩, by omega, by omega⟩ rfl (Nat.le_of_ble_eq_true rfl) dL_law_603 (fun z6 _ H locs hs => ?_)
  refine W.eq (g2 := F0 m 606 ls [.int k1]) rfl ?_
  refine lv_istore (lv' := [(5, .int k1), (4, .int i), (3, .ref ob), (2, .ref mb), (1, .ref xb), (0, .ref b)]) C.1 C.2.1 dL_law_606 hl (by decide) rfl (fun ls hl => ?_)
  refine lv_aload_n C.1 C.2.1 dL_law_608 rfl (lv_at hl 3 rfl) ?_
  refine lv_aload_n C.1 C.2.1 dL_law_609 rfl (lv_at hl 5 rfl) ?_
  refine lv_iload C.1 C.2.1 dL_law_610 (lv_at hl 1 rfl) ?_
  refine lv_iconst (v := 1) C.1 C.2.1 dL_law_612 (by decide) ?_
  refine lv_iadd C.1 C.2.1 dL_law_613 ?_
  refine va_sld C.1 C.2.1 hX hbl hbA hs.2.2 hi1 dL_law_614 ?_
  have g3 : f_X12_precision N σ2 mb (xs (i + 1).toNatClampNeg) = some (r4, σ5) := g3
  refine sx_callV (As := [.int (xs (i + 1).toNatClampNeg)]) (rest := []) C hs (c_X12_precision g3) mo_X12_precision q1604 g2 rfl rfl hl.1 ⟨⟨(Nat.le_of_ble_eq_true rfl), (Nat.le_of_ble_eq_true rfl)⟩, by omega, by omega⟩ rfl (Nat.le_of_ble_eq_true rfl) dL_law_615 (fun H locs hs => ?_)
  refine W.eq (g2 := F0 m 618 ls [.int r4]) rfl ?_
  refine lv_istore (lv' := [(6, .int r4), (5, .int k1), (4, .int i), (3, .ref ob), (2, .ref mb), (1, .ref xb), (0, .ref b)]) C.1 C.2.1 dL_law_618 hl (by decide) rfl (fun ls hl => ?_)
  refine lv_aload_n C.1 C.2.1 dL_law_620 rfl (lv_at hl 4 rfl) ?_
  refine sx_callV (As := []) (rest := []) C hs (c_X12_thrown g5) mo_X12_thrown q1511 g4 rfl rfl hl.1 ⟨⟨(Nat.le_of_ble_eq_true rfl), (Nat.le_of_ble_eq_true rfl)⟩, by omega, by omega⟩ rfl (Nat.le_of_ble_eq_true rfl) dL_law_621 (fun H locs hs => ?_)
  refine W.eq (g2 := F0 m 624 ls [.int k1]) rfl ?_
  refine lv_iload C.1 C.2.1 dL_law_624 (lv_at hl 1 rfl) ?_
  refine lv_icmp_eq (tgt := 631) C.1 C.2.1 dL_law_626 (by decide) (fun c7 => ?_) (fun c7 => absurd rfl c7)
  refine lv_iload C.1 C.2.1 dL_law_631 (lv_at hl 1 rfl) ?_
  refine lv_if_ne (tgt := 648) C.1 C.2.1 dL_law_633 (by decide) (fun c8 => ?_) (fun c8 => ?_)
  · refine lv_goto (tgt := 3547) C.1 C.2.1 dL_law_648 (by decide) ?_
    refine W.widen (k := cells + 5) (n := slots + 2048) (by omega) (by omega) ?_
    exact kk _ _ _ _ _ hs hI (lv_sub hl [2, 3, 4, 5, 6] rfl)
  · refine lv_aload_n C.1 C.2.1 dL_law_636 rfl (lv_at hl 3 rfl) ?_
    refine lv_iconst (v := 0) C.1 C.2.1 dL_law_637 (by decide) ?_
    have g7 : aL σ5 ob 2 0 = some (Int32.toInt64 r4) := g6 c8
    refine sx_lald C hs g7 dL_law_638 ?_
    refine lv_iload C.1 C.2.1 dL_law_639 (lv_at hl 0 rfl) ?_
    refine lv_i2l (v := Int32.toInt64 r4) C.1 C.2.1 dL_law_641 rfl ?_
    refine W.lcmp C.1 C.2.1 dL_law_642 ?_
    refine lv_if_eq (tgt := 648) C.1 C.2.1 dL_law_643 (by decide) (fun c9 => ?_) (fun c9 => absurd ((lg_cmp_eq _ _).mpr rfl) c9)
    refine lv_goto (tgt := 3547) C.1 C.2.1 dL_law_648 (by decide) ?_
    refine W.widen (k := cells + 5) (n := slots + 2048) (by omega) (by omega) ?_
    exact kk _ _ _ _ _ hs hI (lv_sub hl [2, 3, 4, 5, 6] rfl)
def A_join (I : Nat → Sto → Prop) (N xb mb ob : Nat) : Prop := ∀ (v1 : Int32) (v2 : Int32) (v3 : Int32) (v4 : Int32), Ag I mb ob (fun x : Int32 => x.toInt64) (fun σ sz => f_L_join N σ sz xb v1 v2 v3 v4 ob) (fun σ => f_X12_join N σ mb v1 v2 v3 v4)
set_option maxHeartbeats 4000000 in
set_option maxRecDepth 100000 in
theorem lc_join {l : Launch} (hfl : l.stackTraces = false) {g : PP} {p : Program} {e : Env} {s : State} {m : MethodId} {args : Array Value} {below : List Frame} {meth : Method} {c : Code} {N : Nat} {I : Nat → Sto → Prop} {n : Nat} (hn : n < 512) {xs : Nat → Int32} {b L xb mb ob : Nat} {i : Int32} (C : Cx g p s m meth c cL_law 8 "TillhouseLaw") (hX : va_X b L xs s s.heap) (hbl : b < s.heap.size) (hbA : ¬ Aw g b) (hi0 : vp_in i L) (hi1 : vp_in (i + 1) L) (hi2 : vp_in (i + 2) L) (hi3 : vp_in (i + 3) L) (hi4 : vp_in (i + 4) L) (hi5 : vp_in (i + 5) L) (hi6 : vp_in (i + 6) L)
    (A : A_join I N xb mb ob) {σ : Sto} {sz : Nat} {H : Heap} {locs : List Loc} {ls : Array Slot} {cells slots : Nat} (hs : HS g s σ sz H locs) (hI : I n σ) (hl : lv_has ls 8 [(4, .int i), (3, .ref ob), (2, .ref mb), (1, .ref xb), (0, .ref b)]) (hc : cells + 5 ≤ room_1.cells) (hS : slots + 2048 ≤ room_1.slots) {Q : State → Prop}
    (kk : ∀ (σ : Sto) (sz : Nat) (H : Heap) (locs : List Loc) (ls : Array Slot), HS g s σ sz H locs → I (n + 1) σ → lv_has ls 8 [(4, .int i), (3, .ref ob), (2, .ref mb), (1, .ref xb), (0, .ref b)] → W p l e room_1 s m args below meth c H locs (cells + 5) (slots + 2048) Q (F0 m 3547 ls [])) : W p l e room_1 s m args below meth c H locs cells slots Q (F0 m 651 ls []) := by
  refine lv_aload_n C.1 C.2.1 dL_law_651 rfl (lv_at hl 3 rfl) ?_
  refine lv_aload_n C.1 C.2.1 dL_law_652 rfl (lv_at hl 4 rfl) ?_
  refine lv_iload C.1 C.2.1 dL_law_653 (lv_at hl 0 rfl) ?_
  refine lv_iconst (v := 1) C.1 C.2.1 dL_law_655 (by decide) ?_
  refine lv_iadd C.1 C.2.1 dL_law_656 ?_
  refine va_sld C.1 C.2.1 hX hbl hbA hs.2.2 hi1 dL_law_657 ?_
  refine lv_aload_n C.1 C.2.1 dL_law_658 rfl (lv_at hl 4 rfl) ?_
  refine lv_iload C.1 C.2.1 dL_law_659 (lv_at hl 0 rfl) ?_
  refine lv_iconst (v := 2) C.1 C.2.1 dL_law_661 (by decide) ?_
  refine lv_iadd C.1 C.2.1 dL_law_662 ?_
  refine va_sld C.1 C.2.1 hX hbl hbA hs.2.2 hi2 dL_law_663 ?_
  refine lv_aload_n C.1 C.2.1 dL_law_664 rfl (lv_at hl 4 rfl) ?_
  refine lv_iload C.1 C.2.1 dL_law_665 (lv_at hl 0 rfl) ?_
  refine lv_iconst (v := 3) C.1 C.2.1 dL_law_667 (by decide) ?_
  refine lv_iadd C.1 C.2.1 dL_law_668 ?_
  refine va_sld C.1 C.2.1 hX hbl hbA hs.2.2 hi3 dL_law_669 ?_
  refine lv_i2c (v := (Int32.toUInt32 (xs (i + 3).toNatClampNeg) % 65536).toInt32) C.1 C.2.1 dL_law_670 rfl ?_
  refine lv_aload_n C.1 C.2.1 dL_law_671 rfl (lv_at hl 4 rfl) ?_
  refine lv_iload C.1 C.2.1 dL_law_672 (lv_at hl 0 rfl) ?_
  refine lv_iconst (v := 4) C.1 C.2.1 dL_law_674 (by decide) ?_
  refine lv_iadd C.1 C.2.1 dL_law_675 ?_
  refine va_sld C.1 C.2.1 hX hbl hbA hs.2.2 hi4 dL_law_676 ?_
  refine lv_aload_n C.1 C.2.1 dL_law_677 rfl (lv_at hl 1 rfl) ?_
  obtain ⟨k1, σ2, z3, r4, σ5, g1, g2, g3, g4, g5, g6, hI⟩ := A (xs (i + 1).toNatClampNeg) (xs (i + 2).toNatClampNeg) ((Int32.toUInt32 (xs (i + 3).toNatClampNeg) % 65536).toInt32) (xs (i + 4).toNatClampNeg) _ _ _ hn hI (HS.fr hs)
  have g1 : f_L_join N σ sz xb (xs (i + 1).toNatClampNeg) (xs (i + 2).toNatClampNeg) ((Int32.toUInt32 (xs (i + 3).toNatClampNeg) % 65536).toInt32) (xs (i + 4).toNatClampNeg) ob = some (k1, σ2, z3) := g1
  refine sx_callSW (As := [.ref xb, .int (xs (i + 1).toNatClampNeg), .int (xs (i + 2).toNatClampNeg), .int ((Int32.toUInt32 (xs (i + 3).toNatClampNeg) % 65536).toInt32), .int (xs (i + 4).toNatClampNeg), .ref ob]) (rest := []) C hs (c_L_join hfl g1) mo_L_join q612 rfl hl.1 ⟨⟨(Nat.le_of_ble_eq_true rfl), (Nat.le_of_ble_eq_true rfl)⟩, by omega, by omega⟩ rfl (Nat.le_of_ble_eq_true rfl) dL_law_678 (fun z6 _ H locs hs => ?_)
  refine W.eq (g2 := F0 m 681 ls [.int k1]) rfl ?_
  refine lv_istore (lv' := [(5, .int k1), (4, .int i), (3, .ref ob), (2, .ref mb), (1, .ref xb), (0, .ref b)]) C.1 C.2.1 dL_law_681 hl (by decide) rfl (fun ls hl => ?_)
  refine lv_aload_n C.1 C.2.1 dL_law_683 rfl (lv_at hl 3 rfl) ?_
  refine lv_aload_n C.1 C.2.1 dL_law_684 rfl (lv_at hl 5 rfl) ?_
  refine lv_iload C.1 C.2.1 dL_law_685 (lv_at hl 1 rfl) ?_
  refine lv_iconst (v := 1) C.1 C.2.1 dL_law_687 (by decide) ?_
  refine lv_iadd C.1 C.2.1 dL_law_688 ?_
  refine va_sld C.1 C.2.1 hX hbl hbA hs.2.2 hi1 dL_law_689 ?_
  refine lv_aload_n C.1 C.2.1 dL_law_690 rfl (lv_at hl 5 rfl) ?_
  refine lv_iload C.1 C.2.1 dL_law_691 (lv_at hl 1 rfl) ?_
  refine lv_iconst (v := 2) C.1 C.2.1 dL_law_693 (by decide) ?_
  refine lv_iadd C.1 C.2.1 dL_law_694 ?_
  refine va_sld C.1 C.2.1 hX hbl hbA hs.2.2 hi2 dL_law_695 ?_
  refine lv_aload_n C.1 C.2.1 dL_law_696 rfl (lv_at hl 5 rfl) ?_
  refine lv_iload C.1 C.2.1 dL_law_697 (lv_at hl 1 rfl) ?_
  refine lv_iconst (v := 3) C.1 C.2.1 dL_law_699 (by decide) ?_
  refine lv_iadd C.1 C.2.1 dL_law_700 ?_
  refine va_sld C.1 C.2.1 hX hbl hbA hs.2.2 hi3 dL_law_701 ?_
  refine lv_i2c (v := (Int32.toUInt32 (xs (i + 3).toNatClampNeg) % 65536).toInt32) C.1 C.2.1 dL_law_702 rfl ?_
  refine lv_aload_n C.1 C.2.1 dL_law_703 rfl (lv_at hl 5 rfl) ?_
  refine lv_iload C.1 C.2.1 dL_law_704 (lv_at hl 1 rfl) ?_
  refine lv_iconst (v := 4) C.1 C.2.1 dL_law_706 (by decide) ?_
  refine lv_iadd C.1 C.2.1 dL_law_707 ?_
  refine va_sld C.1 C.2.1 hX hbl hbA hs.2.2 hi4 dL_law_708 ?_
  have g3 : f_X12_join N σ2 mb (xs (i + 1).toNatClampNeg) (xs (i + 2).toNatClampNeg) ((Int32.toUInt32 (xs (i + 3).toNatClampNeg) % 65536).toInt32) (xs (i + 4).toNatClampNeg) = some (r4, σ5) := g3
  refine sx_callV (As := [.int (xs (i + 1).toNatClampNeg), .int (xs (i + 2).toNatClampNeg), .int ((Int32.toUInt32 (xs (i + 3).toNatClampNeg) % 65536).toInt32), .int (xs (i + 4).toNatClampNeg)]) (rest := []) C hs (c_X12_join g3) mo_X12_join q1608 g2 rfl rfl hl.1 ⟨⟨(Nat.le_of_ble_eq_true rfl), (Nat.le_of_ble_eq_true rfl)⟩, by omega, by omega⟩ rfl (Nat.le_of_ble_eq_true rfl) dL_law_709 (fun H locs hs => ?_)
  refine W.eq (g2 := F0 m 712 ls [.int r4]) rfl ?_
  refine lv_istore (lv' := [(6, .int r4), (5, .int k1), (4, .int i), (3, .ref ob), (2, .ref mb), (1, .ref xb), (0, .ref b)]) C.1 C.2.1 dL_law_712 hl (by decide) rfl (fun ls hl => ?_)
  refine lv_aload_n C.1 C.2.1 dL_law_714 rfl (lv_at hl 4 rfl) ?_
  refine sx_callV (As := []) (rest := []) C hs (c_X12_thrown g5) mo_X12_thrown q1511 g4 rfl rfl hl.1 ⟨⟨(Nat.le_of_ble_eq_true rfl), (Nat.le_of_ble_eq_true rfl)⟩, by omega, by omega⟩ rfl (Nat.le_of_ble_eq_true rfl) dL_law_715 (fun H locs hs => ?_)
  refine W.eq (g2 := F0 m 718 ls [.int k1]) rfl ?_
  refine lv_iload C.1 C.2.1 dL_law_718 (lv_at hl 1 rfl) ?_
  refine lv_icmp_eq (tgt := 725) C.1 C.2.1 dL_law_720 (by decide) (fun c7 => ?_) (fun c7 => absurd rfl c7)
  refine lv_iload C.1 C.2.1 dL_law_725 (lv_at hl 1 rfl) ?_
  refine lv_if_ne (tgt := 742) C.1 C.2.1 dL_law_727 (by decide) (fun c8 => ?_) (fun c8 => ?_)
  · refine lv_goto (tgt := 3547) C.1 C.2.1 dL_law_742 (by decide) ?_
    refine W.widen (k := cells + 5) (n := slots + 2048) (by omega) (by omega) ?_
    exact kk _ _ _ _ _ hs hI (lv_sub hl [2, 3, 4, 5, 6] rfl)
  · refine lv_aload_n C.1 C.2.1 dL_law_730 rfl (lv_at hl 3 rfl) ?_
    refine lv_iconst (v := 0) C.1 C.2.1 dL_law_731 (by decide) ?_
    have g7 : aL σ5 ob 2 0 = some (Int32.toInt64 r4) := g6 c8
    refine sx_lald C hs g7 dL_law_732 ?_
    refine lv_iload C.1 C.2.1 dL_law_733 (lv_at hl 0 rfl) ?_
    refine lv_i2l (v := Int32.toInt64 r4) C.1 C.2.1 dL_law_735 rfl ?_
    refine W.lcmp C.1 C.2.1 dL_law_736 ?_
    refine lv_if_eq (tgt := 742) C.1 C.2.1 dL_law_737 (by decide) (fun c9 => ?_) (fun c9 => absurd ((lg_cmp_eq _ _).mpr rfl) c9)
    refine lv_goto (tgt := 3547) C.1 C.2.1 dL_law_742 (by decide) ?_
    refine W.widen (k := cells + 5) (n := slots + 2048) (by omega) (by omega) ?_
    exact kk _ _ _ _ _ hs hI (lv_sub hl [2, 3, 4, 5, 6] rfl)
def A_turn (I : Nat → Sto → Prop) (N xb mb ob : Nat) : Prop := ∀ (v1 : Int32) (v2 : Int32) (v3 : Int32), Ag I mb ob (fun x : Int32 => x.toInt64) (fun σ sz => f_L_turn N σ sz xb v1 v2 v3 ob) (fun σ => f_X12_turn N σ mb v1 v2 v3)
set_option maxHeartbeats 4000000 in
set_option maxRecDepth 100000 in
theorem lc_turn {l : Launch} (hfl : l.stackTraces = false) {g : PP} {p : Program} {e : Env} {s : State} {m : MethodId} {args : Array Value} {below : List Frame} {meth : Method} {c : Code} {N : Nat} {I : Nat → Sto → Prop} {n : Nat} (hn : n < 512) {xs : Nat → Int32} {b L xb mb ob : Nat} {i : Int32} (C : Cx g p s m meth c cL_law 8 "TillhouseLaw") (hX : va_X b L xs s s.heap) (hbl : b < s.heap.size) (hbA : ¬ Aw g b) (hi0 : vp_in i L) (hi1 : vp_in (i + 1) L) (hi2 : vp_in (i + 2) L) (hi3 : vp_in (i + 3) L) (hi4 : vp_in (i + 4) L) (hi5 : vp_in (i + 5) L) (hi6 : vp_in (i + 6) L)
    (A : A_turn I N xb mb ob) {σ : Sto} {sz : Nat} {H : Heap} {locs : List Loc} {ls : Array Slot} {cells slots : Nat} (hs : HS g s σ sz H locs) (hI : I n σ) (hl : lv_has ls 8 [(4, .int i), (3, .ref ob), (2, .ref mb), (1, .ref xb), (0, .ref b)]) (hc : cells + 5 ≤ room_1.cells) (hS : slots + 2048 ≤ room_1.slots) {Q : State → Prop}
    (kk : ∀ (σ : Sto) (sz : Nat) (H : Heap) (locs : List Loc) (ls : Array Slot), HS g s σ sz H locs → I (n + 1) σ → lv_has ls 8 [(4, .int i), (3, .ref ob), (2, .ref mb), (1, .ref xb), (0, .ref b)] → W p l e room_1 s m args below meth c H locs (cells + 5) (slots + 2048) Q (F0 m 3547 ls [])) : W p l e room_1 s m args below meth c H locs cells slots Q (F0 m 745 ls []) := by
  refine lv_aload_n C.1 C.2.1 dL_law_745 rfl (lv_at hl 3 rfl) ?_
  refine lv_aload_n C.1 C.2.1 dL_law_746 rfl (lv_at hl 4 rfl) ?_
  refine lv_iload C.1 C.2.1 dL_law_747 (lv_at hl 0 rfl) ?_
  refine lv_iconst (v := 1) C.1 C.2.1 dL_law_749 (by decide) ?_
  refine lv_iadd C.1 C.2.1 dL_law_750 ?_
  refine va_sld C.1 C.2.1 hX hbl hbA hs.2.2 hi1 dL_law_751 ?_
  refine lv_aload_n C.1 C.2.1 dL_law_752 rfl (lv_at hl 4 rfl) ?_
  refine lv_iload C.1 C.2.1 dL_law_753 (lv_at hl 0 rfl) ?_
  refine lv_iconst (v := 2) C.1 C.2.1 dL_law_755 (by decide) ?_
  refine lv_iadd C.1 C.2.1 dL_law_756 ?_
  refine va_sld C.1 C.2.1 hX hbl hbA hs.2.2 hi2 dL_law_757 ?_
  refine lv_i2c (v := (Int32.toUInt32 (xs (i + 2).toNatClampNeg) % 65536).toInt32) C.1 C.2.1 dL_law_758 rfl ?_
  refine lv_aload_n C.1 C.2.1 dL_law_759 rfl (lv_at hl 4 rfl) ?_
  refine lv_iload C.1 C.2.1 dL_law_760 (lv_at hl 0 rfl) ?_
  refine lv_iconst (v := 3) C.1 C.2.1 dL_law_762 (by decide) ?_
  refine lv_iadd C.1 C.2.1 dL_law_763 ?_
  refine va_sld C.1 C.2.1 hX hbl hbA hs.2.2 hi3 dL_law_764 ?_
  refine lv_aload_n C.1 C.2.1 dL_law_765 rfl (lv_at hl 1 rfl) ?_
  obtain ⟨k1, σ2, z3, r4, σ5, g1, g2, g3, g4, g5, g6, hI⟩ := A (xs (i + 1).toNatClampNeg) ((Int32.toUInt32 (xs (i + 2).toNatClampNeg) % 65536).toInt32) (xs (i + 3).toNatClampNeg) _ _ _ hn hI (HS.fr hs)
  have g1 : f_L_turn N σ sz xb (xs (i + 1).toNatClampNeg) ((Int32.toUInt32 (xs (i + 2).toNatClampNeg) % 65536).toInt32) (xs (i + 3).toNatClampNeg) ob = some (k1, σ2, z3) := g1
  refine sx_callSW (As := [.ref xb, .int (xs (i + 1).toNatClampNeg), .int ((Int32.toUInt32 (xs (i + 2).toNatClampNeg) % 65536).toInt32), .int (xs (i + 3).toNatClampNeg), .ref ob]) (rest := []) C hs (c_L_turn hfl g1) mo_L_turn q662 rfl hl.1 ⟨⟨(Nat.le_of_ble_eq_true rfl), (Nat.le_of_ble_eq_true rfl)⟩, by omega, by omega⟩ rfl (Nat.le_of_ble_eq_true rfl) dL_law_766 (fun z6 _ H locs hs => ?_)
  refine W.eq (g2 := F0 m 769 ls [.int k1]) rfl ?_
  refine lv_istore (lv' := [(5, .int k1), (4, .int i), (3, .ref ob), (2, .ref mb), (1, .ref xb), (0, .ref b)]) C.1 C.2.1 dL_law_769 hl (by decide) rfl (fun ls hl => ?_)
  refine lv_aload_n C.1 C.2.1 dL_law_771 rfl (lv_at hl 3 rfl) ?_
  refine lv_aload_n C.1 C.2.1 dL_law_772 rfl (lv_at hl 5 rfl) ?_
  refine lv_iload C.1 C.2.1 dL_law_773 (lv_at hl 1 rfl) ?_
  refine lv_iconst (v := 1) C.1 C.2.1 dL_law_775 (by decide) ?_
  refine lv_iadd C.1 C.2.1 dL_law_776 ?_
  refine va_sld C.1 C.2.1 hX hbl hbA hs.2.2 hi1 dL_law_777 ?_
  refine lv_aload_n C.1 C.2.1 dL_law_778 rfl (lv_at hl 5 rfl) ?_
  refine lv_iload C.1 C.2.1 dL_law_779 (lv_at hl 1 rfl) ?_
  refine lv_iconst (v := 2) C.1 C.2.1 dL_law_781 (by decide) ?_
  refine lv_iadd C.1 C.2.1 dL_law_782 ?_
  refine va_sld C.1 C.2.1 hX hbl hbA hs.2.2 hi2 dL_law_783 ?_
  refine lv_i2c (v := (Int32.toUInt32 (xs (i + 2).toNatClampNeg) % 65536).toInt32) C.1 C.2.1 dL_law_784 rfl ?_
  refine lv_aload_n C.1 C.2.1 dL_law_785 rfl (lv_at hl 5 rfl) ?_
  refine lv_iload C.1 C.2.1 dL_law_786 (lv_at hl 1 rfl) ?_
  refine lv_iconst (v := 3) C.1 C.2.1 dL_law_788 (by decide) ?_
  refine lv_iadd C.1 C.2.1 dL_law_789 ?_
  refine va_sld C.1 C.2.1 hX hbl hbA hs.2.2 hi3 dL_law_790 ?_
  have g3 : f_X12_turn N σ2 mb (xs (i + 1).toNatClampNeg) ((Int32.toUInt32 (xs (i + 2).toNatClampNeg) % 65536).toInt32) (xs (i + 3).toNatClampNeg) = some (r4, σ5) := g3
  refine sx_callV (As := [.int (xs (i + 1).toNatClampNeg), .int ((Int32.toUInt32 (xs (i + 2).toNatClampNeg) % 65536).toInt32), .int (xs (i + 3).toNatClampNeg)]) (rest := []) C hs (c_X12_turn g3) mo_X12_turn q1662 g2 rfl rfl hl.1 ⟨⟨(Nat.le_of_ble_eq_true rfl), (Nat.le_of_ble_eq_true rfl)⟩, by omega, by omega⟩ rfl (Nat.le_of_ble_eq_true rfl) dL_law_791 (fun H locs hs => ?_)
  refine W.eq (g2 := F0 m 794 ls [.int r4]) rfl ?_
  refine lv_istore (lv' := [(6, .int r4), (5, .int k1), (4, .int i), (3, .ref ob), (2, .ref mb), (1, .ref xb), (0, .ref b)]) C.1 C.2.1 dL_law_794 hl (by decide) rfl (fun ls hl => ?_)
  refine lv_aload_n C.1 C.2.1 dL_law_796 rfl (lv_at hl 4 rfl) ?_
  refine sx_callV (As := []) (rest := []) C hs (c_X12_thrown g5) mo_X12_thrown q1511 g4 rfl rfl hl.1 ⟨⟨(Nat.le_of_ble_eq_true rfl), (Nat.le_of_ble_eq_true rfl)⟩, by omega, by omega⟩ rfl (Nat.le_of_ble_eq_true rfl) dL_law_797 (fun H locs hs => ?_)
  refine W.eq (g2 := F0 m 800 ls [.int k1]) rfl ?_
  refine lv_iload C.1 C.2.1 dL_law_800 (lv_at hl 1 rfl) ?_
  refine lv_icmp_eq (tgt := 807) C.1 C.2.1 dL_law_802 (by decide) (fun c7 => ?_) (fun c7 => absurd rfl c7)
  refine lv_iload C.1 C.2.1 dL_law_807 (lv_at hl 1 rfl) ?_
  refine lv_if_ne (tgt := 824) C.1 C.2.1 dL_law_809 (by decide) (fun c8 => ?_) (fun c8 => ?_)
  · refine lv_goto (tgt := 3547) C.1 C.2.1 dL_law_824 (by decide) ?_
    refine W.widen (k := cells + 5) (n := slots + 2048) (by omega) (by omega) ?_
    exact kk _ _ _ _ _ hs hI (lv_sub hl [2, 3, 4, 5, 6] rfl)
  · refine lv_aload_n C.1 C.2.1 dL_law_812 rfl (lv_at hl 3 rfl) ?_
    refine lv_iconst (v := 0) C.1 C.2.1 dL_law_813 (by decide) ?_
    have g7 : aL σ5 ob 2 0 = some (Int32.toInt64 r4) := g6 c8
    refine sx_lald C hs g7 dL_law_814 ?_
    refine lv_iload C.1 C.2.1 dL_law_815 (lv_at hl 0 rfl) ?_
    refine lv_i2l (v := Int32.toInt64 r4) C.1 C.2.1 dL_law_817 rfl ?_
    refine W.lcmp C.1 C.2.1 dL_law_818 ?_
    refine lv_if_eq (tgt := 824) C.1 C.2.1 dL_law_819 (by decide) (fun c9 => ?_) (fun c9 => absurd ((lg_cmp_eq _ _).mpr rfl) c9)
    refine lv_goto (tgt := 3547) C.1 C.2.1 dL_law_824 (by decide) ?_
    refine W.widen (k := cells + 5) (n := slots + 2048) (by omega) (by omega) ?_
    exact kk _ _ _ _ _ hs hI (lv_sub hl [2, 3, 4, 5, 6] rfl)
def A_move (I : Nat → Sto → Prop) (N xb mb ob : Nat) : Prop := ∀ (v1 : Int32) (v2 : Int32) (v3 : Int32), Ag I mb ob (fun x : Int32 => x.toInt64) (fun σ sz => f_L_move σ sz xb v1 v2 v3 ob) (fun σ => f_X12_move N σ mb v1 v2 v3)
set_option maxHeartbeats 4000000 in
set_option maxRecDepth 100000 in
theorem lc_move {l : Launch} (hfl : l.stackTraces = false) {g : PP} {p : Program} {e : Env} {s : State} {m : MethodId} {args : Array Value} {below : List Frame} {meth : Method} {c : Code} {N : Nat} {I : Nat → Sto → Prop} {n : Nat} (hn : n < 512) {xs : Nat → Int32} {b L xb mb ob : Nat} {i : Int32} (C : Cx g p s m meth c cL_law 8 "TillhouseLaw") (hX : va_X b L xs s s.heap) (hbl : b < s.heap.size) (hbA : ¬ Aw g b) (hi0 : vp_in i L) (hi1 : vp_in (i + 1) L) (hi2 : vp_in (i + 2) L) (hi3 : vp_in (i + 3) L) (hi4 : vp_in (i + 4) L) (hi5 : vp_in (i + 5) L) (hi6 : vp_in (i + 6) L)
    (A : A_move I N xb mb ob) {σ : Sto} {sz : Nat} {H : Heap} {locs : List Loc} {ls : Array Slot} {cells slots : Nat} (hs : HS g s σ sz H locs) (hI : I n σ) (hl : lv_has ls 8 [(4, .int i), (3, .ref ob), (2, .ref mb), (1, .ref xb), (0, .ref b)]) (hc : cells + 5 ≤ room_1.cells) (hS : slots + 2048 ≤ room_1.slots) {Q : State → Prop}
    (kk : ∀ (σ : Sto) (sz : Nat) (H : Heap) (locs : List Loc) (ls : Array Slot), HS g s σ sz H locs → I (n + 1) σ → lv_has ls 8 [(4, .int i), (3, .ref ob), (2, .ref mb), (1, .ref xb), (0, .ref b)] → W p l e room_1 s m args below meth c H locs (cells + 5) (slots + 2048) Q (F0 m 3547 ls [])) : W p l e room_1 s m args below meth c H locs cells slots Q (F0 m 827 ls []) := by
  refine lv_aload_n C.1 C.2.1 dL_law_827 rfl (lv_at hl 3 rfl) ?_
  refine lv_aload_n C.1 C.2.1 dL_law_828 rfl (lv_at hl 4 rfl) ?_
  refine lv_iload C.1 C.2.1 dL_law_829 (lv_at hl 0 rfl) ?_
  refine lv_iconst (v := 1) C.1 C.2.1 dL_law_831 (by decide) ?_
  refine lv_iadd C.1 C.2.1 dL_law_832 ?_
  refine va_sld C.1 C.2.1 hX hbl hbA hs.2.2 hi1 dL_law_833 ?_
  refine lv_aload_n C.1 C.2.1 dL_law_834 rfl (lv_at hl 4 rfl) ?_
  refine lv_iload C.1 C.2.1 dL_law_835 (lv_at hl 0 rfl) ?_
  refine lv_iconst (v := 2) C.1 C.2.1 dL_law_837 (by decide) ?_
  refine lv_iadd C.1 C.2.1 dL_law_838 ?_
  refine va_sld C.1 C.2.1 hX hbl hbA hs.2.2 hi2 dL_law_839 ?_
  refine lv_aload_n C.1 C.2.1 dL_law_840 rfl (lv_at hl 4 rfl) ?_
  refine lv_iload C.1 C.2.1 dL_law_841 (lv_at hl 0 rfl) ?_
  refine lv_iconst (v := 3) C.1 C.2.1 dL_law_843 (by decide) ?_
  refine lv_iadd C.1 C.2.1 dL_law_844 ?_
  refine va_sld C.1 C.2.1 hX hbl hbA hs.2.2 hi3 dL_law_845 ?_
  refine lv_aload_n C.1 C.2.1 dL_law_846 rfl (lv_at hl 1 rfl) ?_
  obtain ⟨k1, σ2, z3, r4, σ5, g1, g2, g3, g4, g5, g6, hI⟩ := A (xs (i + 1).toNatClampNeg) (xs (i + 2).toNatClampNeg) (xs (i + 3).toNatClampNeg) _ _ _ hn hI (HS.fr hs)
  have g1 : f_L_move σ sz xb (xs (i + 1).toNatClampNeg) (xs (i + 2).toNatClampNeg) (xs (i + 3).toNatClampNeg) ob = some (k1, σ2, z3) := g1
  refine sx_callSW (As := [.ref xb, .int (xs (i + 1).toNatClampNeg), .int (xs (i + 2).toNatClampNeg), .int (xs (i + 3).toNatClampNeg), .ref ob]) (rest := []) C hs (c_L_move hfl g1) mo_L_move q678 rfl hl.1 ⟨⟨(Nat.le_of_ble_eq_true rfl), (Nat.le_of_ble_eq_true rfl)⟩, by omega, by omega⟩ rfl (Nat.le_of_ble_eq_true rfl) dL_law_847 (fun z6 _ H locs hs => ?_)
  refine W.eq (g2 := F0 m 850 ls [.int k1]) rfl ?_
  refine lv_istore (lv' := [(5, .int k1), (4, .int i), (3, .ref ob), (2, .ref mb), (1, .ref xb), (0, .ref b)]) C.1 C.2.1 dL_law_850 hl (by decide) rfl (fun ls hl => ?_)
  refine lv_aload_n C.1 C.2.1 dL_law_852 rfl (lv_at hl 3 rfl) ?_
  refine lv_aload_n C.1 C.2.1 dL_law_853 rfl (lv_at hl 5 rfl) ?_
  refine lv_iload C.1 C.2.1 dL_law_854 (lv_at hl 1 rfl) ?_
  refine lv_iconst (v := 1) C.1 C.2.1 dL_law_856 (by decide) ?_
  refine lv_iadd C.1 C.2.1 dL_law_857 ?_
  refine va_sld C.1 C.2.1 hX hbl hbA hs.2.2 hi1 dL_law_858 ?_
  refine lv_aload_n C.1 C.2.1 dL_law_859 rfl (lv_at hl 5 rfl) ?_
  refine lv_iload C.1 C.2.1 dL_law_860 (lv_at hl 1 rfl) ?_
  refine lv_iconst (v := 2) C.1 C.2.1 dL_law_862 (by decide) ?_
  refine lv_iadd C.1 C.2.1 dL_law_863 ?_
  refine va_sld C.1 C.2.1 hX hbl hbA hs.2.2 hi2 dL_law_864 ?_
  refine lv_aload_n C.1 C.2.1 dL_law_865 rfl (lv_at hl 5 rfl) ?_
  refine lv_iload C.1 C.2.1 dL_law_866 (lv_at hl 1 rfl) ?_
  refine lv_iconst (v := 3) C.1 C.2.1 dL_law_868 (by decide) ?_
  refine lv_iadd C.1 C.2.1 dL_law_869 ?_
  refine va_sld C.1 C.2.1 hX hbl hbA hs.2.2 hi3 dL_law_870 ?_
  have g3 : f_X12_move N σ2 mb (xs (i + 1).toNatClampNeg) (xs (i + 2).toNatClampNeg) (xs (i + 3).toNatClampNeg) = some (r4, σ5) := g3
  refine sx_callV (As := [.int (xs (i + 1).toNatClampNeg), .int (xs (i + 2).toNatClampNeg), .int (xs (i + 3).toNatClampNeg)]) (rest := []) C hs (c_X12_move g3) mo_X12_move q1666 g2 rfl rfl hl.1 ⟨⟨(Nat.le_of_ble_eq_true rfl), (Nat.le_of_ble_eq_true rfl)⟩, by omega, by omega⟩ rfl (Nat.le_of_ble_eq_true rfl) dL_law_871 (fun H locs hs => ?_)
  refine W.eq (g2 := F0 m 874 ls [.int r4]) rfl ?_
  refine lv_istore (lv' := [(6, .int r4), (5, .int k1), (4, .int i), (3, .ref ob), (2, .ref mb), (1, .ref xb), (0, .ref b)]) C.1 C.2.1 dL_law_874 hl (by decide) rfl (fun ls hl => ?_)
  refine lv_aload_n C.1 C.2.1 dL_law_876 rfl (lv_at hl 4 rfl) ?_
  refine sx_callV (As := []) (rest := []) C hs (c_X12_thrown g5) mo_X12_thrown q1511 g4 rfl rfl hl.1 ⟨⟨(Nat.le_of_ble_eq_true rfl), (Nat.le_of_ble_eq_true rfl)⟩, by omega, by omega⟩ rfl (Nat.le_of_ble_eq_true rfl) dL_law_877 (fun H locs hs => ?_)
  refine W.eq (g2 := F0 m 880 ls [.int k1]) rfl ?_
  refine lv_iload C.1 C.2.1 dL_law_880 (lv_at hl 1 rfl) ?_
  refine lv_icmp_eq (tgt := 887) C.1 C.2.1 dL_law_882 (by decide) (fun c7 => ?_) (fun c7 => absurd rfl c7)
  refine lv_iload C.1 C.2.1 dL_law_887 (lv_at hl 1 rfl) ?_
  refine lv_if_ne (tgt := 904) C.1 C.2.1 dL_law_889 (by decide) (fun c8 => ?_) (fun c8 => ?_)
  · refine lv_goto (tgt := 3547) C.1 C.2.1 dL_law_904 (by decide) ?_
    refine W.widen (k := cells + 5) (n := slots + 2048) (by omega) (by omega) ?_
    exact kk _ _ _ _ _ hs hI (lv_sub hl [2, 3, 4, 5, 6] rfl)
  · refine lv_aload_n C.1 C.2.1 dL_law_892 rfl (lv_at hl 3 rfl) ?_
    refine lv_iconst (v := 0) C.1 C.2.1 dL_law_893 (by decide) ?_
    have g7 : aL σ5 ob 2 0 = some (Int32.toInt64 r4) := g6 c8
    refine sx_lald C hs g7 dL_law_894 ?_
    refine lv_iload C.1 C.2.1 dL_law_895 (lv_at hl 0 rfl) ?_
    refine lv_i2l (v := Int32.toInt64 r4) C.1 C.2.1 dL_law_897 rfl ?_
    refine W.lcmp C.1 C.2.1 dL_law_898 ?_
    refine lv_if_eq (tgt := 904) C.1 C.2.1 dL_law_899 (by decide) (fun c9 => ?_) (fun c9 => absurd ((lg_cmp_eq _ _).mpr rfl) c9)
    refine lv_goto (tgt := 3547) C.1 C.2.1 dL_law_904 (by decide) ?_
    refine W.widen (k := cells + 5) (n := slots + 2048) (by omega) (by omega) ?_
    exact kk _ _ _ _ _ hs hI (lv_sub hl [2, 3, 4, 5, 6] rfl)
def A_setScale (I : Nat → Sto → Prop) (N xb mb ob : Nat) : Prop := ∀ (v1 : Int32) (v2 : Int32) (v3 : Int32) (v4 : Int32), Ag I mb ob (fun x : Int32 => x.toInt64) (fun σ sz => f_L_setScale N σ sz xb v1 v2 v3 v4 ob) (fun σ => f_X12_setScale N σ mb v1 v2 v3 v4)
set_option maxHeartbeats 4000000 in
set_option maxRecDepth 100000 in
theorem lc_setScale {l : Launch} (hfl : l.stackTraces = false) {g : PP} {p : Program} {e : Env} {s : State} {m : MethodId} {args : Array Value} {below : List Frame} {meth : Method} {c : Code} {N : Nat} {I : Nat → Sto → Prop} {n : Nat} (hn : n < 512) {xs : Nat → Int32} {b L xb mb ob : Nat} {i : Int32} (C : Cx g p s m meth c cL_law 8 "TillhouseLaw") (hX : va_X b L xs s s.heap) (hbl : b < s.heap.size) (hbA : ¬ Aw g b) (hi0 : vp_in i L) (hi1 : vp_in (i + 1) L) (hi2 : vp_in (i + 2) L) (hi3 : vp_in (i + 3) L) (hi4 : vp_in (i + 4) L) (hi5 : vp_in (i + 5) L) (hi6 : vp_in (i + 6) L)
    (A : A_setScale I N xb mb ob) {σ : Sto} {sz : Nat} {H : Heap} {locs : List Loc} {ls : Array Slot} {cells slots : Nat} (hs : HS g s σ sz H locs) (hI : I n σ) (hl : lv_has ls 8 [(4, .int i), (3, .ref ob), (2, .ref mb), (1, .ref xb), (0, .ref b)]) (hc : cells + 5 ≤ room_1.cells) (hS : slots + 2048 ≤ room_1.slots) {Q : State → Prop}
    (kk : ∀ (σ : Sto) (sz : Nat) (H : Heap) (locs : List Loc) (ls : Array Slot), HS g s σ sz H locs → I (n + 1) σ → lv_has ls 8 [(4, .int i), (3, .ref ob), (2, .ref mb), (1, .ref xb), (0, .ref b)] → W p l e room_1 s m args below meth c H locs (cells + 5) (slots + 2048) Q (F0 m 3547 ls [])) : W p l e room_1 s m args below meth c H locs cells slots Q (F0 m 907 ls []) := by
  refine lv_aload_n C.1 C.2.1 dL_law_907 rfl (lv_at hl 3 rfl) ?_
  refine lv_aload_n C.1 C.2.1 dL_law_908 rfl (lv_at hl 4 rfl) ?_
  refine lv_iload C.1 C.2.1 dL_law_909 (lv_at hl 0 rfl) ?_
  refine lv_iconst (v := 1) C.1 C.2.1 dL_law_911 (by decide) ?_
  refine lv_iadd C.1 C.2.1 dL_law_912 ?_
  refine va_sld C.1 C.2.1 hX hbl hbA hs.2.2 hi1 dL_law_913 ?_
  refine lv_aload_n C.1 C.2.1 dL_law_914 rfl (lv_at hl 4 rfl) ?_
  refine lv_iload C.1 C.2.1 dL_law_915 (lv_at hl 0 rfl) ?_
  refine lv_iconst (v := 2) C.1 C.2.1 dL_law_917 (by decide) ?_
  refine lv_iadd C.1 C.2.1 dL_law_918 ?_
  refine va_sld C.1 C.2.1 hX hbl hbA hs.2.2 hi2 dL_law_919 ?_
  refine lv_aload_n C.1 C.2.1 dL_law_920 rfl (lv_at hl 4 rfl) ?_
  refine lv_iload C.1 C.2.1 dL_law_921 (lv_at hl 0 rfl) ?_
  refine lv_iconst (v := 3) C.1 C.2.1 dL_law_923 (by decide) ?_
  refine lv_iadd C.1 C.2.1 dL_law_924 ?_
  refine va_sld C.1 C.2.1 hX hbl hbA hs.2.2 hi3 dL_law_925 ?_
  refine lv_i2c (v := (Int32.toUInt32 (xs (i + 3).toNatClampNeg) % 65536).toInt32) C.1 C.2.1 dL_law_926 rfl ?_
  refine lv_aload_n C.1 C.2.1 dL_law_927 rfl (lv_at hl 4 rfl) ?_
  refine lv_iload C.1 C.2.1 dL_law_928 (lv_at hl 0 rfl) ?_
  refine lv_iconst (v := 4) C.1 C.2.1 dL_law_930 (by decide) ?_
  refine lv_iadd C.1 C.2.1 dL_law_931 ?_
  refine va_sld C.1 C.2.1 hX hbl hbA hs.2.2 hi4 dL_law_932 ?_
  refine lv_aload_n C.1 C.2.1 dL_law_933 rfl (lv_at hl 1 rfl) ?_
  obtain ⟨k1, σ2, z3, r4, σ5, g1, g2, g3, g4, g5, g6, hI⟩ := A (xs (i + 1).toNatClampNeg) (xs (i + 2).toNatClampNeg) ((Int32.toUInt32 (xs (i + 3).toNatClampNeg) % 65536).toInt32) (xs (i + 4).toNatClampNeg) _ _ _ hn hI (HS.fr hs)
  have g1 : f_L_setScale N σ sz xb (xs (i + 1).toNatClampNeg) (xs (i + 2).toNatClampNeg) ((Int32.toUInt32 (xs (i + 3).toNatClampNeg) % 65536).toInt32) (xs (i + 4).toNatClampNeg) ob = some (k1, σ2, z3) := g1
  refine sx_callSW (As := [.ref xb, .int (xs (i + 1).toNatClampNeg), .int (xs (i + 2).toNatClampNeg), .int ((Int32.toUInt32 (xs (i + 3).toNatClampNeg) % 65536).toInt32), .int (xs (i + 4).toNatClampNeg), .ref ob]) (rest := []) C hs (c_L_setScale hfl g1) mo_L_setScale q690 rfl hl.1 ⟨⟨(Nat.le_of_ble_eq_true rfl), (Nat.le_of_ble_eq_true rfl)⟩, by omega, by omega⟩ rfl (Nat.le_of_ble_eq_true rfl) dL_law_934 (fun z6 _ H locs hs => ?_)
  refine W.eq (g2 := F0 m 937 ls [.int k1]) rfl ?_
  refine lv_istore (lv' := [(5, .int k1), (4, .int i), (3, .ref ob), (2, .ref mb), (1, .ref xb), (0, .ref b)]) C.1 C.2.1 dL_law_937 hl (by decide) rfl (fun ls hl => ?_)
  refine lv_aload_n C.1 C.2.1 dL_law_939 rfl (lv_at hl 3 rfl) ?_
  refine lv_aload_n C.1 C.2.1 dL_law_940 rfl (lv_at hl 5 rfl) ?_
  refine lv_iload C.1 C.2.1 dL_law_941 (lv_at hl 1 rfl) ?_
  refine lv_iconst (v := 1) C.1 C.2.1 dL_law_943 (by decide) ?_
  refine lv_iadd C.1 C.2.1 dL_law_944 ?_
  refine va_sld C.1 C.2.1 hX hbl hbA hs.2.2 hi1 dL_law_945 ?_
  refine lv_aload_n C.1 C.2.1 dL_law_946 rfl (lv_at hl 5 rfl) ?_
  refine lv_iload C.1 C.2.1 dL_law_947 (lv_at hl 1 rfl) ?_
  refine lv_iconst (v := 2) C.1 C.2.1 dL_law_949 (by decide) ?_
  refine lv_iadd C.1 C.2.1 dL_law_950 ?_
  refine va_sld C.1 C.2.1 hX hbl hbA hs.2.2 hi2 dL_law_951 ?_
  refine lv_aload_n C.1 C.2.1 dL_law_952 rfl (lv_at hl 5 rfl) ?_
  refine lv_iload C.1 C.2.1 dL_law_953 (lv_at hl 1 rfl) ?_
  refine lv_iconst (v := 3) C.1 C.2.1 dL_law_955 (by decide) ?_
  refine lv_iadd C.1 C.2.1 dL_law_956 ?_
  refine va_sld C.1 C.2.1 hX hbl hbA hs.2.2 hi3 dL_law_957 ?_
  refine lv_i2c (v := (Int32.toUInt32 (xs (i + 3).toNatClampNeg) % 65536).toInt32) C.1 C.2.1 dL_law_958 rfl ?_
  refine lv_aload_n C.1 C.2.1 dL_law_959 rfl (lv_at hl 5 rfl) ?_
  refine lv_iload C.1 C.2.1 dL_law_960 (lv_at hl 1 rfl) ?_
  refine lv_iconst (v := 4) C.1 C.2.1 dL_law_962 (by decide) ?_
  refine lv_iadd C.1 C.2.1 dL_law_963 ?_
  refine va_sld C.1 C.2.1 hX hbl hbA hs.2.2 hi4 dL_law_964 ?_
  have g3 : f_X12_setScale N σ2 mb (xs (i + 1).toNatClampNeg) (xs (i + 2).toNatClampNeg) ((Int32.toUInt32 (xs (i + 3).toNatClampNeg) % 65536).toInt32) (xs (i + 4).toNatClampNeg) = some (r4, σ5) := g3
  refine sx_callV (As := [.int (xs (i + 1).toNatClampNeg), .int (xs (i + 2).toNatClampNeg), .int ((Int32.toUInt32 (xs (i + 3).toNatClampNeg) % 65536).toInt32), .int (xs (i + 4).toNatClampNeg)]) (rest := []) C hs (c_X12_setScale g3) mo_X12_setScale q1672 g2 rfl rfl hl.1 ⟨⟨(Nat.le_of_ble_eq_true rfl), (Nat.le_of_ble_eq_true rfl)⟩, by omega, by omega⟩ rfl (Nat.le_of_ble_eq_true rfl) dL_law_965 (fun H locs hs => ?_)
  refine W.eq (g2 := F0 m 968 ls [.int r4]) rfl ?_
  refine lv_istore (lv' := [(6, .int r4), (5, .int k1), (4, .int i), (3, .ref ob), (2, .ref mb), (1, .ref xb), (0, .ref b)]) C.1 C.2.1 dL_law_968 hl (by decide) rfl (fun ls hl => ?_)
  refine lv_aload_n C.1 C.2.1 dL_law_970 rfl (lv_at hl 4 rfl) ?_
  refine sx_callV (As := []) (rest := []) C hs (c_X12_thrown g5) mo_X12_thrown q1511 g4 rfl rfl hl.1 ⟨⟨(Nat.le_of_ble_eq_true rfl), (Nat.le_of_ble_eq_true rfl)⟩, by omega, by omega⟩ rfl (Nat.le_of_ble_eq_true rfl) dL_law_971 (fun H locs hs => ?_)
  refine W.eq (g2 := F0 m 974 ls [.int k1]) rfl ?_
  refine lv_iload C.1 C.2.1 dL_law_974 (lv_at hl 1 rfl) ?_
  refine lv_icmp_eq (tgt := 981) C.1 C.2.1 dL_law_976 (by decide) (fun c7 => ?_) (fun c7 => absurd rfl c7)
  refine lv_iload C.1 C.2.1 dL_law_981 (lv_at hl 1 rfl) ?_
  refine lv_if_ne (tgt := 998) C.1 C.2.1 dL_law_983 (by decide) (fun c8 => ?_) (fun c8 => ?_)
  · refine lv_goto (tgt := 3547) C.1 C.2.1 dL_law_998 (by decide) ?_
    refine W.widen (k := cells + 5) (n := slots + 2048) (by omega) (by omega) ?_
    exact kk _ _ _ _ _ hs hI (lv_sub hl [2, 3, 4, 5, 6] rfl)
  · refine lv_aload_n C.1 C.2.1 dL_law_986 rfl (lv_at hl 3 rfl) ?_
    refine lv_iconst (v := 0) C.1 C.2.1 dL_law_987 (by decide) ?_
    have g7 : aL σ5 ob 2 0 = some (Int32.toInt64 r4) := g6 c8
    refine sx_lald C hs g7 dL_law_988 ?_
    refine lv_iload C.1 C.2.1 dL_law_989 (lv_at hl 0 rfl) ?_
    refine lv_i2l (v := Int32.toInt64 r4) C.1 C.2.1 dL_law_991 rfl ?_
    refine W.lcmp C.1 C.2.1 dL_law_992 ?_
    refine lv_if_eq (tgt := 998) C.1 C.2.1 dL_law_993 (by decide) (fun c9 => ?_) (fun c9 => absurd ((lg_cmp_eq _ _).mpr rfl) c9)
    refine lv_goto (tgt := 3547) C.1 C.2.1 dL_law_998 (by decide) ?_
    refine W.widen (k := cells + 5) (n := slots + 2048) (by omega) (by omega) ?_
    exact kk _ _ _ _ _ hs hI (lv_sub hl [2, 3, 4, 5, 6] rfl)
def A_round (I : Nat → Sto → Prop) (N xb mb ob : Nat) : Prop := ∀ (v1 : Int32) (v2 : Int32) (v3 : Int32) (v4 : Int32), Ag I mb ob (fun x : Int32 => x.toInt64) (fun σ sz => f_L_round N σ sz xb v1 v2 v3 v4 ob) (fun σ => f_X12_round N σ mb v1 v2 v3 v4)
set_option maxHeartbeats 4000000 in
set_option maxRecDepth 100000 in
theorem lc_round {l : Launch} (hfl : l.stackTraces = false) {g : PP} {p : Program} {e : Env} {s : State} {m : MethodId} {args : Array Value} {below : List Frame} {meth : Method} {c : Code} {N : Nat} {I : Nat → Sto → Prop} {n : Nat} (hn : n < 512) {xs : Nat → Int32} {b L xb mb ob : Nat} {i : Int32} (C : Cx g p s m meth c cL_law 8 "TillhouseLaw") (hX : va_X b L xs s s.heap) (hbl : b < s.heap.size) (hbA : ¬ Aw g b) (hi0 : vp_in i L) (hi1 : vp_in (i + 1) L) (hi2 : vp_in (i + 2) L) (hi3 : vp_in (i + 3) L) (hi4 : vp_in (i + 4) L) (hi5 : vp_in (i + 5) L) (hi6 : vp_in (i + 6) L)
    (A : A_round I N xb mb ob) {σ : Sto} {sz : Nat} {H : Heap} {locs : List Loc} {ls : Array Slot} {cells slots : Nat} (hs : HS g s σ sz H locs) (hI : I n σ) (hl : lv_has ls 8 [(4, .int i), (3, .ref ob), (2, .ref mb), (1, .ref xb), (0, .ref b)]) (hc : cells + 5 ≤ room_1.cells) (hS : slots + 2048 ≤ room_1.slots) {Q : State → Prop}
    (kk : ∀ (σ : Sto) (sz : Nat) (H : Heap) (locs : List Loc) (ls : Array Slot), HS g s σ sz H locs → I (n + 1) σ → lv_has ls 8 [(4, .int i), (3, .ref ob), (2, .ref mb), (1, .ref xb), (0, .ref b)] → W p l e room_1 s m args below meth c H locs (cells + 5) (slots + 2048) Q (F0 m 3547 ls [])) : W p l e room_1 s m args below meth c H locs cells slots Q (F0 m 1001 ls []) := by
  refine lv_aload_n C.1 C.2.1 dL_law_1001 rfl (lv_at hl 3 rfl) ?_
  refine lv_aload_n C.1 C.2.1 dL_law_1002 rfl (lv_at hl 4 rfl) ?_
  refine lv_iload C.1 C.2.1 dL_law_1003 (lv_at hl 0 rfl) ?_
  refine lv_iconst (v := 1) C.1 C.2.1 dL_law_1005 (by decide) ?_
  refine lv_iadd C.1 C.2.1 dL_law_1006 ?_
  refine va_sld C.1 C.2.1 hX hbl hbA hs.2.2 hi1 dL_law_1007 ?_
  refine lv_aload_n C.1 C.2.1 dL_law_1008 rfl (lv_at hl 4 rfl) ?_
  refine lv_iload C.1 C.2.1 dL_law_1009 (lv_at hl 0 rfl) ?_
  refine lv_iconst (v := 2) C.1 C.2.1 dL_law_1011 (by decide) ?_
  refine lv_iadd C.1 C.2.1 dL_law_1012 ?_
  refine va_sld C.1 C.2.1 hX hbl hbA hs.2.2 hi2 dL_law_1013 ?_
  refine lv_aload_n C.1 C.2.1 dL_law_1014 rfl (lv_at hl 4 rfl) ?_
  refine lv_iload C.1 C.2.1 dL_law_1015 (lv_at hl 0 rfl) ?_
  refine lv_iconst (v := 3) C.1 C.2.1 dL_law_1017 (by decide) ?_
  refine lv_iadd C.1 C.2.1 dL_law_1018 ?_
  refine va_sld C.1 C.2.1 hX hbl hbA hs.2.2 hi3 dL_law_1019 ?_
  refine lv_i2c (v := (Int32.toUInt32 (xs (i + 3).toNatClampNeg) % 65536).toInt32) C.1 C.2.1 dL_law_1020 rfl ?_
  refine lv_aload_n C.1 C.2.1 dL_law_1021 rfl (lv_at hl 4 rfl) ?_
  refine lv_iload C.1 C.2.1 dL_law_1022 (lv_at hl 0 rfl) ?_
  refine lv_iconst (v := 4) C.1 C.2.1 dL_law_1024 (by decide) ?_
  refine lv_iadd C.1 C.2.1 dL_law_1025 ?_
  refine va_sld C.1 C.2.1 hX hbl hbA hs.2.2 hi4 dL_law_1026 ?_
  refine lv_aload_n C.1 C.2.1 dL_law_1027 rfl (lv_at hl 1 rfl) ?_
  obtain ⟨k1, σ2, z3, r4, σ5, g1, g2, g3, g4, g5, g6, hI⟩ := A (xs (i + 1).toNatClampNeg) (xs (i + 2).toNatClampNeg) ((Int32.toUInt32 (xs (i + 3).toNatClampNeg) % 65536).toInt32) (xs (i + 4).toNatClampNeg) _ _ _ hn hI (HS.fr hs)
  have g1 : f_L_round N σ sz xb (xs (i + 1).toNatClampNeg) (xs (i + 2).toNatClampNeg) ((Int32.toUInt32 (xs (i + 3).toNatClampNeg) % 65536).toInt32) (xs (i + 4).toNatClampNeg) ob = some (k1, σ2, z3) := g1
  refine sx_callSW (As := [.ref xb, .int (xs (i + 1).toNatClampNeg), .int (xs (i + 2).toNatClampNeg), .int ((Int32.toUInt32 (xs (i + 3).toNatClampNeg) % 65536).toInt32), .int (xs (i + 4).toNatClampNeg), .ref ob]) (rest := []) C hs (c_L_round hfl g1) mo_L_round q731 rfl hl.1 ⟨⟨(Nat.le_of_ble_eq_true rfl), (Nat.le_of_ble_eq_true rfl)⟩, by omega, by omega⟩ rfl (Nat.le_of_ble_eq_true rfl) dL_law_1028 (fun z6 _ H locs hs => ?_)
  refine W.eq (g2 := F0 m 1031 ls [.int k1]) rfl ?_
  refine lv_istore (lv' := [(5, .int k1), (4, .int i), (3, .ref ob), (2, .ref mb), (1, .ref xb), (0, .ref b)]) C.1 C.2.1 dL_law_1031 hl (by decide) rfl (fun ls hl => ?_)
  refine lv_aload_n C.1 C.2.1 dL_law_1033 rfl (lv_at hl 3 rfl) ?_
  refine lv_aload_n C.1 C.2.1 dL_law_1034 rfl (lv_at hl 5 rfl) ?_
  refine lv_iload C.1 C.2.1 dL_law_1035 (lv_at hl 1 rfl) ?_
  refine lv_iconst (v := 1) C.1 C.2.1 dL_law_1037 (by decide) ?_
  refine lv_iadd C.1 C.2.1 dL_law_1038 ?_
  refine va_sld C.1 C.2.1 hX hbl hbA hs.2.2 hi1 dL_law_1039 ?_
  refine lv_aload_n C.1 C.2.1 dL_law_1040 rfl (lv_at hl 5 rfl) ?_
  refine lv_iload C.1 C.2.1 dL_law_1041 (lv_at hl 1 rfl) ?_
  refine lv_iconst (v := 2) C.1 C.2.1 dL_law_1043 (by decide) ?_
  refine lv_iadd C.1 C.2.1 dL_law_1044 ?_
  refine va_sld C.1 C.2.1 hX hbl hbA hs.2.2 hi2 dL_law_1045 ?_
  refine lv_aload_n C.1 C.2.1 dL_law_1046 rfl (lv_at hl 5 rfl) ?_
  refine lv_iload C.1 C.2.1 dL_law_1047 (lv_at hl 1 rfl) ?_
  refine lv_iconst (v := 3) C.1 C.2.1 dL_law_1049 (by decide) ?_
  refine lv_iadd C.1 C.2.1 dL_law_1050 ?_
  refine va_sld C.1 C.2.1 hX hbl hbA hs.2.2 hi3 dL_law_1051 ?_
  refine lv_i2c (v := (Int32.toUInt32 (xs (i + 3).toNatClampNeg) % 65536).toInt32) C.1 C.2.1 dL_law_1052 rfl ?_
  refine lv_aload_n C.1 C.2.1 dL_law_1053 rfl (lv_at hl 5 rfl) ?_
  refine lv_iload C.1 C.2.1 dL_law_1054 (lv_at hl 1 rfl) ?_
  refine lv_iconst (v := 4) C.1 C.2.1 dL_law_1056 (by decide) ?_
  refine lv_iadd C.1 C.2.1 dL_law_1057 ?_
  refine va_sld C.1 C.2.1 hX hbl hbA hs.2.2 hi4 dL_law_1058 ?_
  have g3 : f_X12_round N σ2 mb (xs (i + 1).toNatClampNeg) (xs (i + 2).toNatClampNeg) ((Int32.toUInt32 (xs (i + 3).toNatClampNeg) % 65536).toInt32) (xs (i + 4).toNatClampNeg) = some (r4, σ5) := g3
  refine sx_callV (As := [.int (xs (i + 1).toNatClampNeg), .int (xs (i + 2).toNatClampNeg), .int ((Int32.toUInt32 (xs (i + 3).toNatClampNeg) % 65536).toInt32), .int (xs (i + 4).toNatClampNeg)]) (rest := []) C hs (c_X12_round g3) mo_X12_round q1691 g2 rfl rfl hl.1 ⟨⟨(Nat.le_of_ble_eq_true rfl), (Nat.le_of_ble_eq_true rfl)⟩, by omega, by omega⟩ rfl (Nat.le_of_ble_eq_true rfl) dL_law_1059 (fun H locs hs => ?_)
  refine W.eq (g2 := F0 m 1062 ls [.int r4]) rfl ?_
  refine lv_istore (lv' := [(6, .int r4), (5, .int k1), (4, .int i), (3, .ref ob), (2, .ref mb), (1, .ref xb), (0, .ref b)]) C.1 C.2.1 dL_law_1062 hl (by decide) rfl (fun ls hl => ?_)
  refine lv_aload_n C.1 C.2.1 dL_law_1064 rfl (lv_at hl 4 rfl) ?_
  refine sx_callV (As := []) (rest := []) C hs (c_X12_thrown g5) mo_X12_thrown q1511 g4 rfl rfl hl.1 ⟨⟨(Nat.le_of_ble_eq_true rfl), (Nat.le_of_ble_eq_true rfl)⟩, by omega, by omega⟩ rfl (Nat.le_of_ble_eq_true rfl) dL_law_1065 (fun H locs hs => ?_)
  refine W.eq (g2 := F0 m 1068 ls [.int k1]) rfl ?_
  refine lv_iload C.1 C.2.1 dL_law_1068 (lv_at hl 1 rfl) ?_
  refine lv_icmp_eq (tgt := 1075) C.1 C.2.1 dL_law_1070 (by decide) (fun c7 => ?_) (fun c7 => absurd rfl c7)
  refine lv_iload C.1 C.2.1 dL_law_1075 (lv_at hl 1 rfl) ?_
  refine lv_if_ne (tgt := 1092) C.1 C.2.1 dL_law_1077 (by decide) (fun c8 => ?_) (fun c8 => ?_)
  · refine lv_goto (tgt := 3547) C.1 C.2.1 dL_law_1092 (by decide) ?_
    refine W.widen (k := cells + 5) (n := slots + 2048) (by omega) (by omega) ?_
    exact kk _ _ _ _ _ hs hI (lv_sub hl [2, 3, 4, 5, 6] rfl)
  · refine lv_aload_n C.1 C.2.1 dL_law_1080 rfl (lv_at hl 3 rfl) ?_
    refine lv_iconst (v := 0) C.1 C.2.1 dL_law_1081 (by decide) ?_
    have g7 : aL σ5 ob 2 0 = some (Int32.toInt64 r4) := g6 c8
    refine sx_lald C hs g7 dL_law_1082 ?_
    refine lv_iload C.1 C.2.1 dL_law_1083 (lv_at hl 0 rfl) ?_
    refine lv_i2l (v := Int32.toInt64 r4) C.1 C.2.1 dL_law_1085 rfl ?_
    refine W.lcmp C.1 C.2.1 dL_law_1086 ?_
    refine lv_if_eq (tgt := 1092) C.1 C.2.1 dL_law_1087 (by decide) (fun c9 => ?_) (fun c9 => absurd ((lg_cmp_eq _ _).mpr rfl) c9)
    refine lv_goto (tgt := 3547) C.1 C.2.1 dL_law_1092 (by decide) ?_
    refine W.widen (k := cells + 5) (n := slots + 2048) (by omega) (by omega) ?_
    exact kk _ _ _ _ _ hs hI (lv_sub hl [2, 3, 4, 5, 6] rfl)
def A_divide (I : Nat → Sto → Prop) (N xb mb ob : Nat) : Prop := ∀ (v1 : Int32) (v2 : Int32) (v3 : Int32) (v4 : Int32) (v5 : Int32), Ag I mb ob (fun x : Int32 => x.toInt64) (fun σ sz => f_L_divide N σ sz xb v1 v2 v3 v4 v5 ob) (fun σ => f_X12_divide N σ mb v1 v2 v3 v4 v5)
set_option maxHeartbeats 4000000 in
set_option maxRecDepth 100000 in
theorem lc_divide {l : Launch} (hfl : l.stackTraces = false) {g : PP} {p : Program} {e : Env} {s : State} {m : MethodId} {args : Array Value} {below : List Frame} {meth : Method} {c : Code} {N : Nat} {I : Nat → Sto → Prop} {n : Nat} (hn : n < 512) {xs : Nat → Int32} {b L xb mb ob : Nat} {i : Int32} (C : Cx g p s m meth c cL_law 8 "TillhouseLaw") (hX : va_X b L xs s s.heap) (hbl : b < s.heap.size) (hbA : ¬ Aw g b) (hi0 : vp_in i L) (hi1 : vp_in (i + 1) L) (hi2 : vp_in (i + 2) L) (hi3 : vp_in (i + 3) L) (hi4 : vp_in (i + 4) L) (hi5 : vp_in (i + 5) L) (hi6 : vp_in (i + 6) L)
    (A : A_divide I N xb mb ob) {σ : Sto} {sz : Nat} {H : Heap} {locs : List Loc} {ls : Array Slot} {cells slots : Nat} (hs : HS g s σ sz H locs) (hI : I n σ) (hl : lv_has ls 8 [(4, .int i), (3, .ref ob), (2, .ref mb), (1, .ref xb), (0, .ref b)]) (hc : cells + 5 ≤ room_1.cells) (hS : slots + 2048 ≤ room_1.slots) {Q : State → Prop}
    (kk : ∀ (σ : Sto) (sz : Nat) (H : Heap) (locs : List Loc) (ls : Array Slot), HS g s σ sz H locs → I (n + 1) σ → lv_has ls 8 [(4, .int i), (3, .ref ob), (2, .ref mb), (1, .ref xb), (0, .ref b)] → W p l e room_1 s m args below meth c H locs (cells + 5) (slots + 2048) Q (F0 m 3547 ls [])) : W p l e room_1 s m args below meth c H locs cells slots Q (F0 m 1095 ls []) := by
  refine lv_aload_n C.1 C.2.1 dL_law_1095 rfl (lv_at hl 3 rfl) ?_
  refine lv_aload_n C.1 C.2.1 dL_law_1096 rfl (lv_at hl 4 rfl) ?_
  refine lv_iload C.1 C.2.1 dL_law_1097 (lv_at hl 0 rfl) ?_
  refine lv_iconst (v := 1) C.1 C.2.1 dL_law_1099 (by decide) ?_
  refine lv_iadd C.1 C.2.1 dL_law_1100 ?_
  refine va_sld C.1 C.2.1 hX hbl hbA hs.2.2 hi1 dL_law_1101 ?_
  refine lv_aload_n C.1 C.2.1 dL_law_1102 rfl (lv_at hl 4 rfl) ?_
  refine lv_iload C.1 C.2.1 dL_law_1103 (lv_at hl 0 rfl) ?_
  refine lv_iconst (v := 2) C.1 C.2.1 dL_law_1105 (by decide) ?_
  refine lv_iadd C.1 C.2.1 dL_law_1106 ?_
  refine va_sld C.1 C.2.1 hX hbl hbA hs.2.2 hi2 dL_law_1107 ?_
  refine lv_aload_n C.1 C.2.1 dL_law_1108 rfl (lv_at hl 4 rfl) ?_
  refine lv_iload C.1 C.2.1 dL_law_1109 (lv_at hl 0 rfl) ?_
  refine lv_iconst (v := 3) C.1 C.2.1 dL_law_1111 (by decide) ?_
  refine lv_iadd C.1 C.2.1 dL_law_1112 ?_
  refine va_sld C.1 C.2.1 hX hbl hbA hs.2.2 hi3 dL_law_1113 ?_
  refine lv_aload_n C.1 C.2.1 dL_law_1114 rfl (lv_at hl 4 rfl) ?_
  refine lv_iload C.1 C.2.1 dL_law_1115 (lv_at hl 0 rfl) ?_
  refine lv_iconst (v := 4) C.1 C.2.1 dL_law_1117 (by decide) ?_
  refine lv_iadd C.1 C.2.1 dL_law_1118 ?_
  refine va_sld C.1 C.2.1 hX hbl hbA hs.2.2 hi4 dL_law_1119 ?_
  refine lv_i2c (v := (Int32.toUInt32 (xs (i + 4).toNatClampNeg) % 65536).toInt32) C.1 C.2.1 dL_law_1120 rfl ?_
  refine lv_aload_n C.1 C.2.1 dL_law_1121 rfl (lv_at hl 4 rfl) ?_
  refine lv_iload C.1 C.2.1 dL_law_1122 (lv_at hl 0 rfl) ?_
  refine lv_iconst (v := 5) C.1 C.2.1 dL_law_1124 (by decide) ?_
  refine lv_iadd C.1 C.2.1 dL_law_1125 ?_
  refine va_sld C.1 C.2.1 hX hbl hbA hs.2.2 hi5 dL_law_1126 ?_
  refine lv_aload_n C.1 C.2.1 dL_law_1127 rfl (lv_at hl 1 rfl) ?_
  obtain ⟨k1, σ2, z3, r4, σ5, g1, g2, g3, g4, g5, g6, hI⟩ := A (xs (i + 1).toNatClampNeg) (xs (i + 2).toNatClampNeg) (xs (i + 3).toNatClampNeg) ((Int32.toUInt32 (xs (i + 4).toNatClampNeg) % 65536).toInt32) (xs (i + 5).toNatClampNeg) _ _ _ hn hI (HS.fr hs)
  have g1 : f_L_divide N σ sz xb (xs (i + 1).toNatClampNeg) (xs (i + 2).toNatClampNeg) (xs (i + 3).toNatClampNeg) ((Int32.toUInt32 (xs (i + 4).toNatClampNeg) % 65536).toInt32) (xs (i + 5).toNatClampNeg) ob = some (k1, σ2, z3) := g1
  refine sx_callSW (As := [.ref xb, .int (xs (i + 1).toNatClampNeg), .int (xs (i + 2).toNatClampNeg), .int (xs (i + 3).toNatClampNeg), .int ((Int32.toUInt32 (xs (i + 4).toNatClampNeg) % 65536).toInt32), .int (xs (i + 5).toNatClampNeg), .ref ob]) (rest := []) C hs (c_L_divide hfl g1) mo_L_divide q743 rfl hl.1 ⟨⟨(Nat.le_of_ble_eq_true rfl), (Nat.le_of_ble_eq_true rfl)⟩, by omega, by omega⟩ rfl (Nat.le_of_ble_eq_true rfl) dL_law_1128 (fun z6 _ H locs hs => ?_)
  refine W.eq (g2 := F0 m 1131 ls [.int k1]) rfl ?_
  refine lv_istore (lv' := [(5, .int k1), (4, .int i), (3, .ref ob), (2, .ref mb), (1, .ref xb), (0, .ref b)]) C.1 C.2.1 dL_law_1131 hl (by decide) rfl (fun ls hl => ?_)
  refine lv_aload_n C.1 C.2.1 dL_law_1133 rfl (lv_at hl 3 rfl) ?_
  refine lv_aload_n C.1 C.2.1 dL_law_1134 rfl (lv_at hl 5 rfl) ?_
  refine lv_iload C.1 C.2.1 dL_law_1135 (lv_at hl 1 rfl) ?_
  refine lv_iconst (v := 1) C.1 C.2.1 dL_law_1137 (by decide) ?_
  refine lv_iadd C.1 C.2.1 dL_law_1138 ?_
  refine va_sld C.1 C.2.1 hX hbl hbA hs.2.2 hi1 dL_law_1139 ?_
  refine lv_aload_n C.1 C.2.1 dL_law_1140 rfl (lv_at hl 5 rfl) ?_
  refine lv_iload C.1 C.2.1 dL_law_1141 (lv_at hl 1 rfl) ?_
  refine lv_iconst (v := 2) C.1 C.2.1 dL_law_1143 (by decide) ?_
  refine lv_iadd C.1 C.2.1 dL_law_1144 ?_
  refine va_sld C.1 C.2.1 hX hbl hbA hs.2.2 hi2 dL_law_1145 ?_
  refine lv_aload_n C.1 C.2.1 dL_law_1146 rfl (lv_at hl 5 rfl) ?_
  refine lv_iload C.1 C.2.1 dL_law_1147 (lv_at hl 1 rfl) ?_
  refine lv_iconst (v := 3) C.1 C.2.1 dL_law_1149 (by decide) ?_
  refine lv_iadd C.1 C.2.1 dL_law_1150 ?_
  refine va_sld C.1 C.2.1 hX hbl hbA hs.2.2 hi3 dL_law_1151 ?_
  refine lv_aload_n C.1 C.2.1 dL_law_1152 rfl (lv_at hl 5 rfl) ?_
  refine lv_iload C.1 C.2.1 dL_law_1153 (lv_at hl 1 rfl) ?_
  refine lv_iconst (v := 4) C.1 C.2.1 dL_law_1155 (by decide) ?_
  refine lv_iadd C.1 C.2.1 dL_law_1156 ?_
  refine va_sld C.1 C.2.1 hX hbl hbA hs.2.2 hi4 dL_law_1157 ?_
  refine lv_i2c (v := (Int32.toUInt32 (xs (i + 4).toNatClampNeg) % 65536).toInt32) C.1 C.2.1 dL_law_1158 rfl ?_
  refine lv_aload_n C.1 C.2.1 dL_law_1159 rfl (lv_at hl 5 rfl) ?_
  refine lv_iload C.1 C.2.1 dL_law_1160 (lv_at hl 1 rfl) ?_
  refine lv_iconst (v := 5) C.1 C.2.1 dL_law_1162 (by decide) ?_
  refine lv_iadd C.1 C.2.1 dL_law_1163 ?_
  refine va_sld C.1 C.2.1 hX hbl hbA hs.2.2 hi5 dL_law_1164 ?_
  have g3 : f_X12_divide N σ2 mb (xs (i + 1).toNatClampNeg) (xs (i + 2).toNatClampNeg) (xs (i + 3).toNatClampNeg) ((Int32.toUInt32 (xs (i + 4).toNatClampNeg) % 65536).toInt32) (xs (i + 5).toNatClampNeg) = some (r4, σ5) := g3
  refine sx_callV (As := [.int (xs (i + 1).toNatClampNeg), .int (xs (i + 2).toNatClampNeg), .int (xs (i + 3).toNatClampNeg), .int ((Int32.toUInt32 (xs (i + 4).toNatClampNeg) % 65536).toInt32), .int (xs (i + 5).toNatClampNeg)]) (rest := []) C hs (c_X12_divide g3) mo_X12_divide q1696 g2 rfl rfl hl.1 ⟨⟨(Nat.le_of_ble_eq_true rfl), (Nat.le_of_ble_eq_true rfl)⟩, by omega, by omega⟩ rfl (Nat.le_of_ble_eq_true rfl) dL_law_1165 (fun H locs hs => ?_)
  refine W.eq (g2 := F0 m 1168 ls [.int r4]) rfl ?_
  refine lv_istore (lv' := [(6, .int r4), (5, .int k1), (4, .int i), (3, .ref ob), (2, .ref mb), (1, .ref xb), (0, .ref b)]) C.1 C.2.1 dL_law_1168 hl (by decide) rfl (fun ls hl => ?_)
  refine lv_aload_n C.1 C.2.1 dL_law_1170 rfl (lv_at hl 4 rfl) ?_
  refine sx_callV (As := []) (rest := []) C hs (c_X12_thrown g5) mo_X12_thrown q1511 g4 rfl rfl hl.1 ⟨⟨(Nat.le_of_ble_eq_true rfl), (Nat.le_of_ble_eq_true rfl)⟩, by omega, by omega⟩ rfl (Nat.le_of_ble_eq_true rfl) dL_law_1171 (fun H locs hs => ?_)
  refine W.eq (g2 := F0 m 1174 ls [.int k1]) rfl ?_
  refine lv_iload C.1 C.2.1 dL_law_1174 (lv_at hl 1 rfl) ?_
  refine lv_icmp_eq (tgt := 1181) C.1 C.2.1 dL_law_1176 (by decide) (fun c7 => ?_) (fun c7 => absurd rfl c7)
  refine lv_iload C.1 C.2.1 dL_law_1181 (lv_at hl 1 rfl) ?_
  refine lv_if_ne (tgt := 1198) C.1 C.2.1 dL_law_1183 (by decide) (fun c8 => ?_) (fun c8 => ?_)
  · refine lv_goto (tgt := 3547) C.1 C.2.1 dL_law_1198 (by decide) ?_
    refine W.widen (k := cells + 5) (n := slots + 2048) (by omega) (by omega) ?_
    exact kk _ _ _ _ _ hs hI (lv_sub hl [2, 3, 4, 5, 6] rfl)
  · refine lv_aload_n C.1 C.2.1 dL_law_1186 rfl (lv_at hl 3 rfl) ?_
    refine lv_iconst (v := 0) C.1 C.2.1 dL_law_1187 (by decide) ?_
    have g7 : aL σ5 ob 2 0 = some (Int32.toInt64 r4) := g6 c8
    refine sx_lald C hs g7 dL_law_1188 ?_
    refine lv_iload C.1 C.2.1 dL_law_1189 (lv_at hl 0 rfl) ?_
    refine lv_i2l (v := Int32.toInt64 r4) C.1 C.2.1 dL_law_1191 rfl ?_
    refine W.lcmp C.1 C.2.1 dL_law_1192 ?_
    refine lv_if_eq (tgt := 1198) C.1 C.2.1 dL_law_1193 (by decide) (fun c9 => ?_) (fun c9 => absurd ((lg_cmp_eq _ _).mpr rfl) c9)
    refine lv_goto (tgt := 3547) C.1 C.2.1 dL_law_1198 (by decide) ?_
    refine W.widen (k := cells + 5) (n := slots + 2048) (by omega) (by omega) ?_
    exact kk _ _ _ _ _ hs hI (lv_sub hl [2, 3, 4, 5, 6] rfl)
def A_divideExactly (I : Nat → Sto → Prop) (N xb mb ob : Nat) : Prop := ∀ (v1 : Int32) (v2 : Int32) (v3 : Int32), Ag I mb ob (fun x : Int32 => x.toInt64) (fun σ sz => f_L_divideExactly N σ sz xb v1 v2 v3 ob) (fun σ => f_X12_divideExactly N σ mb v1 v2 v3)
set_option maxHeartbeats 4000000 in
set_option maxRecDepth 100000 in
theorem lc_divideExactly {l : Launch} (hfl : l.stackTraces = false) {g : PP} {p : Program} {e : Env} {s : State} {m : MethodId} {args : Array Value} {below : List Frame} {meth : Method} {c : Code} {N : Nat} {I : Nat → Sto → Prop} {n : Nat} (hn : n < 512) {xs : Nat → Int32} {b L xb mb ob : Nat} {i : Int32} (C : Cx g p s m meth c cL_law 8 "TillhouseLaw") (hX : va_X b L xs s s.heap) (hbl : b < s.heap.size) (hbA : ¬ Aw g b) (hi0 : vp_in i L) (hi1 : vp_in (i + 1) L) (hi2 : vp_in (i + 2) L) (hi3 : vp_in (i + 3) L) (hi4 : vp_in (i + 4) L) (hi5 : vp_in (i + 5) L) (hi6 : vp_in (i + 6) L)
    (A : A_divideExactly I N xb mb ob) {σ : Sto} {sz : Nat} {H : Heap} {locs : List Loc} {ls : Array Slot} {cells slots : Nat} (hs : HS g s σ sz H locs) (hI : I n σ) (hl : lv_has ls 8 [(4, .int i), (3, .ref ob), (2, .ref mb), (1, .ref xb), (0, .ref b)]) (hc : cells + 5 ≤ room_1.cells) (hS : slots + 2048 ≤ room_1.slots) {Q : State → Prop}
    (kk : ∀ (σ : Sto) (sz : Nat) (H : Heap) (locs : List Loc) (ls : Array Slot), HS g s σ sz H locs → I (n + 1) σ → lv_has ls 8 [(4, .int i), (3, .ref ob), (2, .ref mb), (1, .ref xb), (0, .ref b)] → W p l e room_1 s m args below meth c H locs (cells + 5) (slots + 2048) Q (F0 m 3547 ls [])) : W p l e room_1 s m args below meth c H locs cells slots Q (F0 m 1201 ls []) := by
  refine lv_aload_n C.1 C.2.1 dL_law_1201 rfl (lv_at hl 3 rfl) ?_
  refine lv_aload_n C.1 C.2.1 dL_law_1202 rfl (lv_at hl 4 rfl) ?_
  refine lv_iload C.1 C.2.1 dL_law_1203 (lv_at hl 0 rfl) ?_
  refine lv_iconst (v := 1) C.1 C.2.1 dL_law_1205 (by decide) ?_
  refine lv_iadd C.1 C.2.1 dL_law_1206 ?_
  refine va_sld C.1 C.2.1 hX hbl hbA hs.2.2 hi1 dL_law_1207 ?_
  refine lv_aload_n C.1 C.2.1 dL_law_1208 rfl (lv_at hl 4 rfl) ?_
  refine lv_iload C.1 C.2.1 dL_law_1209 (lv_at hl 0 rfl) ?_
  refine lv_iconst (v := 2) C.1 C.2.1 dL_law_1211 (by decide) ?_
  refine lv_iadd C.1 C.2.1 dL_law_1212 ?_
  refine va_sld C.1 C.2.1 hX hbl hbA hs.2.2 hi2 dL_law_1213 ?_
  refine lv_aload_n C.1 C.2.1 dL_law_1214 rfl (lv_at hl 4 rfl) ?_
  refine lv_iload C.1 C.2.1 dL_law_1215 (lv_at hl 0 rfl) ?_
  refine lv_iconst (v := 3) C.1 C.2.1 dL_law_1217 (by decide) ?_
  refine lv_iadd C.1 C.2.1 dL_law_1218 ?_
  refine va_sld C.1 C.2.1 hX hbl hbA hs.2.2 hi3 dL_law_1219 ?_
  refine lv_aload_n C.1 C.2.1 dL_law_1220 rfl (lv_at hl 1 rfl) ?_
  obtain ⟨k1, σ2, z3, r4, σ5, g1, g2, g3, g4, g5, g6, hI⟩ := A (xs (i + 1).toNatClampNeg) (xs (i + 2).toNatClampNeg) (xs (i + 3).toNatClampNeg) _ _ _ hn hI (HS.fr hs)
  have g1 : f_L_divideExactly N σ sz xb (xs (i + 1).toNatClampNeg) (xs (i + 2).toNatClampNeg) (xs (i + 3).toNatClampNeg) ob = some (k1, σ2, z3) := g1
  refine sx_callSW (As := [.ref xb, .int (xs (i + 1).toNatClampNeg), .int (xs (i + 2).toNatClampNeg), .int (xs (i + 3).toNatClampNeg), .ref ob]) (rest := []) C hs (c_L_divideExactly hfl g1) mo_L_divideExactly q804 rfl hl.1 ⟨⟨(Nat.le_of_ble_eq_true rfl), (Nat.le_of_ble_eq_true rfl)⟩, by omega, by omega⟩ rfl (Nat.le_of_ble_eq_true rfl) dL_law_1221 (fun z6 _ H locs hs => ?_)
  refine W.eq (g2 := F0 m 1224 ls [.int k1]) rfl ?_
  refine lv_istore (lv' := [(5, .int k1), (4, .int i), (3, .ref ob), (2, .ref mb), (1, .ref xb), (0, .ref b)]) C.1 C.2.1 dL_law_1224 hl (by decide) rfl (fun ls hl => ?_)
  refine lv_aload_n C.1 C.2.1 dL_law_1226 rfl (lv_at hl 3 rfl) ?_
  refine lv_aload_n C.1 C.2.1 dL_law_1227 rfl (lv_at hl 5 rfl) ?_
  refine lv_iload C.1 C.2.1 dL_law_1228 (lv_at hl 1 rfl) ?_
  refine lv_iconst (v := 1) C.1 C.2.1 dL_law_1230 (by decide) ?_
  refine lv_iadd C.1 C.2.1 dL_law_1231 ?_
  refine va_sld C.1 C.2.1 hX hbl hbA hs.2.2 hi1 dL_law_1232 ?_
  refine lv_aload_n C.1 C.2.1 dL_law_1233 rfl (lv_at hl 5 rfl) ?_
  refine lv_iload C.1 C.2.1 dL_law_1234 (lv_at hl 1 rfl) ?_
  refine lv_iconst (v := 2) C.1 C.2.1 dL_law_1236 (by decide) ?_
  refine lv_iadd C.1 C.2.1 dL_law_1237 ?_
  refine va_sld C.1 C.2.1 hX hbl hbA hs.2.2 hi2 dL_law_1238 ?_
  refine lv_aload_n C.1 C.2.1 dL_law_1239 rfl (lv_at hl 5 rfl) ?_
  refine lv_iload C.1 C.2.1 dL_law_1240 (lv_at hl 1 rfl) ?_
  refine lv_iconst (v := 3) C.1 C.2.1 dL_law_1242 (by decide) ?_
  refine lv_iadd C.1 C.2.1 dL_law_1243 ?_
  refine va_sld C.1 C.2.1 hX hbl hbA hs.2.2 hi3 dL_law_1244 ?_
  have g3 : f_X12_divideExactly N σ2 mb (xs (i + 1).toNatClampNeg) (xs (i + 2).toNatClampNeg) (xs (i + 3).toNatClampNeg) = some (r4, σ5) := g3
  refine sx_callV (As := [.int (xs (i + 1).toNatClampNeg), .int (xs (i + 2).toNatClampNeg), .int (xs (i + 3).toNatClampNeg)]) (rest := []) C hs (c_X12_divideExactly g3) mo_X12_divideExactly q1700 g2 rfl rfl hl.1 ⟨⟨(Nat.le_of_ble_eq_true rfl), (Nat.le_of_ble_eq_true rfl)⟩, by omega, by omega⟩ rfl (Nat.le_of_ble_eq_true rfl) dL_law_1245 (fun H locs hs => ?_)
  refine W.eq (g2 := F0 m 1248 ls [.int r4]) rfl ?_
  refine lv_istore (lv' := [(6, .int r4), (5, .int k1), (4, .int i), (3, .ref ob), (2, .ref mb), (1, .ref xb), (0, .ref b)]) C.1 C.2.1 dL_law_1248 hl (by decide) rfl (fun ls hl => ?_)
  refine lv_aload_n C.1 C.2.1 dL_law_1250 rfl (lv_at hl 4 rfl) ?_
  refine sx_callV (As := []) (rest := []) C hs (c_X12_thrown g5) mo_X12_thrown q1511 g4 rfl rfl hl.1 ⟨⟨(Nat.le_of_ble_eq_true rfl), (Nat.le_of_ble_eq_true rfl)⟩, by omega, by omega⟩ rfl (Nat.le_of_ble_eq_true rfl) dL_law_1251 (fun H locs hs => ?_)
  refine W.eq (g2 := F0 m 1254 ls [.int k1]) rfl ?_
  refine lv_iload C.1 C.2.1 dL_law_1254 (lv_at hl 1 rfl) ?_
  refine lv_icmp_eq (tgt := 1261) C.1 C.2.1 dL_law_1256 (by decide) (fun c7 => ?_) (fun c7 => absurd rfl c7)
  refine lv_iload C.1 C.2.1 dL_law_1261 (lv_at hl 1 rfl) ?_
  refine lv_if_ne (tgt := 1278) C.1 C.2.1 dL_law_1263 (by decide) (fun c8 => ?_) (fun c8 => ?_)
  · refine lv_goto (tgt := 3547) C.1 C.2.1 dL_law_1278 (by decide) ?_
    refine W.widen (k := cells + 5) (n := slots + 2048) (by omega) (by omega) ?_
    exact kk _ _ _ _ _ hs hI (lv_sub hl [2, 3, 4, 5, 6] rfl)
  · refine lv_aload_n C.1 C.2.1 dL_law_1266 rfl (lv_at hl 3 rfl) ?_
    refine lv_iconst (v := 0) C.1 C.2.1 dL_law_1267 (by decide) ?_
    have g7 : aL σ5 ob 2 0 = some (Int32.toInt64 r4) := g6 c8
    refine sx_lald C hs g7 dL_law_1268 ?_
    refine lv_iload C.1 C.2.1 dL_law_1269 (lv_at hl 0 rfl) ?_
    refine lv_i2l (v := Int32.toInt64 r4) C.1 C.2.1 dL_law_1271 rfl ?_
    refine W.lcmp C.1 C.2.1 dL_law_1272 ?_
    refine lv_if_eq (tgt := 1278) C.1 C.2.1 dL_law_1273 (by decide) (fun c9 => ?_) (fun c9 => absurd ((lg_cmp_eq _ _).mpr rfl) c9)
    refine lv_goto (tgt := 3547) C.1 C.2.1 dL_law_1278 (by decide) ?_
    refine W.widen (k := cells + 5) (n := slots + 2048) (by omega) (by omega) ?_
    exact kk _ _ _ _ _ hs hI (lv_sub hl [2, 3, 4, 5, 6] rfl)
def A_compare (I : Nat → Sto → Prop) (N xb mb ob : Nat) : Prop := ∀ (v1 : Int32) (v2 : Int32), Ag I mb ob (fun x : Int32 => x.toInt64) (fun σ sz => f_L_compare N σ sz xb v1 v2 ob) (fun σ => f_X12_compare N σ mb v1 v2)
set_option maxHeartbeats 4000000 in
set_option maxRecDepth 100000 in
theorem lc_compare {l : Launch} (hfl : l.stackTraces = false) {g : PP} {p : Program} {e : Env} {s : State} {m : MethodId} {args : Array Value} {below : List Frame} {meth : Method} {c : Code} {N : Nat} {I : Nat → Sto → Prop} {n : Nat} (hn : n < 512) {xs : Nat → Int32} {b L xb mb ob : Nat} {i : Int32} (C : Cx g p s m meth c cL_law 8 "TillhouseLaw") (hX : va_X b L xs s s.heap) (hbl : b < s.heap.size) (hbA : ¬ Aw g b) (hi0 : vp_in i L) (hi1 : vp_in (i + 1) L) (hi2 : vp_in (i + 2) L) (hi3 : vp_in (i + 3) L) (hi4 : vp_in (i + 4) L) (hi5 : vp_in (i + 5) L) (hi6 : vp_in (i + 6) L)
    (A : A_compare I N xb mb ob) {σ : Sto} {sz : Nat} {H : Heap} {locs : List Loc} {ls : Array Slot} {cells slots : Nat} (hs : HS g s σ sz H locs) (hI : I n σ) (hl : lv_has ls 8 [(4, .int i), (3, .ref ob), (2, .ref mb), (1, .ref xb), (0, .ref b)]) (hc : cells + 5 ≤ room_1.cells) (hS : slots + 2048 ≤ room_1.slots) {Q : State → Prop}
    (kk : ∀ (σ : Sto) (sz : Nat) (H : Heap) (locs : List Loc) (ls : Array Slot), HS g s σ sz H locs → I (n + 1) σ → lv_has ls 8 [(4, .int i), (3, .ref ob), (2, .ref mb), (1, .ref xb), (0, .ref b)] → W p l e room_1 s m args below meth c H locs (cells + 5) (slots + 2048) Q (F0 m 3547 ls [])) : W p l e room_1 s m args below meth c H locs cells slots Q (F0 m 1281 ls []) := by
  refine lv_aload_n C.1 C.2.1 dL_law_1281 rfl (lv_at hl 3 rfl) ?_
  refine lv_aload_n C.1 C.2.1 dL_law_1282 rfl (lv_at hl 4 rfl) ?_
  refine lv_iload C.1 C.2.1 dL_law_1283 (lv_at hl 0 rfl) ?_
  refine lv_iconst (v := 1) C.1 C.2.1 dL_law_1285 (by decide) ?_
  refine lv_iadd C.1 C.2.1 dL_law_1286 ?_
  refine va_sld C.1 C.2.1 hX hbl hbA hs.2.2 hi1 dL_law_1287 ?_
  refine lv_aload_n C.1 C.2.1 dL_law_1288 rfl (lv_at hl 4 rfl) ?_
  refine lv_iload C.1 C.2.1 dL_law_1289 (lv_at hl 0 rfl) ?_
  refine lv_iconst (v := 2) C.1 C.2.1 dL_law_1291 (by decide) ?_
  refine lv_iadd C.1 C.2.1 dL_law_1292 ?_
  refine va_sld C.1 C.2.1 hX hbl hbA hs.2.2 hi2 dL_law_1293 ?_
  refine lv_aload_n C.1 C.2.1 dL_law_1294 rfl (lv_at hl 1 rfl) ?_
  obtain ⟨k1, σ2, z3, r4, σ5, g1, g2, g3, g4, g5, g6, hI⟩ := A (xs (i + 1).toNatClampNeg) (xs (i + 2).toNatClampNeg) _ _ _ hn hI (HS.fr hs)
  have g1 : f_L_compare N σ sz xb (xs (i + 1).toNatClampNeg) (xs (i + 2).toNatClampNeg) ob = some (k1, σ2, z3) := g1
  refine sx_callSW (As := [.ref xb, .int (xs (i + 1).toNatClampNeg), .int (xs (i + 2).toNatClampNeg), .ref ob]) (rest := []) C hs (c_L_compare hfl g1) mo_L_compare q816 rfl hl.1 ⟨⟨(Nat.le_of_ble_eq_true rfl), (Nat.le_of_ble_eq_true rfl)⟩, by omega, by omega⟩ rfl (Nat.le_of_ble_eq_true rfl) dL_law_1295 (fun z6 _ H locs hs => ?_)
  refine W.eq (g2 := F0 m 1298 ls [.int k1]) rfl ?_
  refine lv_istore (lv' := [(5, .int k1), (4, .int i), (3, .ref ob), (2, .ref mb), (1, .ref xb), (0, .ref b)]) C.1 C.2.1 dL_law_1298 hl (by decide) rfl (fun ls hl => ?_)
  refine lv_aload_n C.1 C.2.1 dL_law_1300 rfl (lv_at hl 3 rfl) ?_
  refine lv_aload_n C.1 C.2.1 dL_law_1301 rfl (lv_at hl 5 rfl) ?_
  refine lv_iload C.1 C.2.1 dL_law_1302 (lv_at hl 1 rfl) ?_
  refine lv_iconst (v := 1) C.1 C.2.1 dL_law_1304 (by decide) ?_
  refine lv_iadd C.1 C.2.1 dL_law_1305 ?_
  refine va_sld C.1 C.2.1 hX hbl hbA hs.2.2 hi1 dL_law_1306 ?_
  refine lv_aload_n C.1 C.2.1 dL_law_1307 rfl (lv_at hl 5 rfl) ?_
  refine lv_iload C.1 C.2.1 dL_law_1308 (lv_at hl 1 rfl) ?_
  refine lv_iconst (v := 2) C.1 C.2.1 dL_law_1310 (by decide) ?_
  refine lv_iadd C.1 C.2.1 dL_law_1311 ?_
  refine va_sld C.1 C.2.1 hX hbl hbA hs.2.2 hi2 dL_law_1312 ?_
  have g3 : f_X12_compare N σ2 mb (xs (i + 1).toNatClampNeg) (xs (i + 2).toNatClampNeg) = some (r4, σ5) := g3
  refine sx_callV (As := [.int (xs (i + 1).toNatClampNeg), .int (xs (i + 2).toNatClampNeg)]) (rest := []) C hs (c_X12_compare g3) mo_X12_compare q1710 g2 rfl rfl hl.1 ⟨⟨(Nat.le_of_ble_eq_true rfl), (Nat.le_of_ble_eq_true rfl)⟩, by omega, by omega⟩ rfl (Nat.le_of_ble_eq_true rfl) dL_law_1313 (fun H locs hs => ?_)
  refine W.eq (g2 := F0 m 1316 ls [.int r4]) rfl ?_
  refine lv_istore (lv' := [(6, .int r4), (5, .int k1), (4, .int i), (3, .ref ob), (2, .ref mb), (1, .ref xb), (0, .ref b)]) C.1 C.2.1 dL_law_1316 hl (by decide) rfl (fun ls hl => ?_)
  refine lv_aload_n C.1 C.2.1 dL_law_1318 rfl (lv_at hl 4 rfl) ?_
  refine sx_callV (As := []) (rest := []) C hs (c_X12_thrown g5) mo_X12_thrown q1511 g4 rfl rfl hl.1 ⟨⟨(Nat.le_of_ble_eq_true rfl), (Nat.le_of_ble_eq_true rfl)⟩, by omega, by omega⟩ rfl (Nat.le_of_ble_eq_true rfl) dL_law_1319 (fun H locs hs => ?_)
  refine W.eq (g2 := F0 m 1322 ls [.int k1]) rfl ?_
  refine lv_iload C.1 C.2.1 dL_law_1322 (lv_at hl 1 rfl) ?_
  refine lv_icmp_eq (tgt := 1329) C.1 C.2.1 dL_law_1324 (by decide) (fun c7 => ?_) (fun c7 => absurd rfl c7)
  refine lv_iload C.1 C.2.1 dL_law_1329 (lv_at hl 1 rfl) ?_
  refine lv_if_ne (tgt := 1346) C.1 C.2.1 dL_law_1331 (by decide) (fun c8 => ?_) (fun c8 => ?_)
  · refine lv_goto (tgt := 3547) C.1 C.2.1 dL_law_1346 (by decide) ?_
    refine W.widen (k := cells + 5) (n := slots + 2048) (by omega) (by omega) ?_
    exact kk _ _ _ _ _ hs hI (lv_sub hl [2, 3, 4, 5, 6] rfl)
  · refine lv_aload_n C.1 C.2.1 dL_law_1334 rfl (lv_at hl 3 rfl) ?_
    refine lv_iconst (v := 0) C.1 C.2.1 dL_law_1335 (by decide) ?_
    have g7 : aL σ5 ob 2 0 = some (Int32.toInt64 r4) := g6 c8
    refine sx_lald C hs g7 dL_law_1336 ?_
    refine lv_iload C.1 C.2.1 dL_law_1337 (lv_at hl 0 rfl) ?_
    refine lv_i2l (v := Int32.toInt64 r4) C.1 C.2.1 dL_law_1339 rfl ?_
    refine W.lcmp C.1 C.2.1 dL_law_1340 ?_
    refine lv_if_eq (tgt := 1346) C.1 C.2.1 dL_law_1341 (by decide) (fun c9 => ?_) (fun c9 => absurd ((lg_cmp_eq _ _).mpr rfl) c9)
    refine lv_goto (tgt := 3547) C.1 C.2.1 dL_law_1346 (by decide) ?_
    refine W.widen (k := cells + 5) (n := slots + 2048) (by omega) (by omega) ?_
    exact kk _ _ _ _ _ hs hI (lv_sub hl [2, 3, 4, 5, 6] rfl)
def A_isEqual (I : Nat → Sto → Prop) (N xb mb ob : Nat) : Prop := ∀ (v1 : Int32) (v2 : Int32), Ag I mb ob (fun x : Int32 => if x = 0 then 0 else 1) (fun σ sz => f_L_isEqual σ sz xb v1 v2 ob) (fun σ => f_X12_isEqual σ mb v1 v2)
set_option maxHeartbeats 4000000 in
set_option maxRecDepth 100000 in
theorem lc_isEqual {l : Launch} (hfl : l.stackTraces = false) {g : PP} {p : Program} {e : Env} {s : State} {m : MethodId} {args : Array Value} {below : List Frame} {meth : Method} {c : Code} {N : Nat} {I : Nat → Sto → Prop} {n : Nat} (hn : n < 512) {xs : Nat → Int32} {b L xb mb ob : Nat} {i : Int32} (C : Cx g p s m meth c cL_law 8 "TillhouseLaw") (hX : va_X b L xs s s.heap) (hbl : b < s.heap.size) (hbA : ¬ Aw g b) (hi0 : vp_in i L) (hi1 : vp_in (i + 1) L) (hi2 : vp_in (i + 2) L) (hi3 : vp_in (i + 3) L) (hi4 : vp_in (i + 4) L) (hi5 : vp_in (i + 5) L) (hi6 : vp_in (i + 6) L)
    (A : A_isEqual I N xb mb ob) {σ : Sto} {sz : Nat} {H : Heap} {locs : List Loc} {ls : Array Slot} {cells slots : Nat} (hs : HS g s σ sz H locs) (hI : I n σ) (hl : lv_has ls 8 [(4, .int i), (3, .ref ob), (2, .ref mb), (1, .ref xb), (0, .ref b)]) (hc : cells + 5 ≤ room_1.cells) (hS : slots + 2048 ≤ room_1.slots) {Q : State → Prop}
    (kk : ∀ (σ : Sto) (sz : Nat) (H : Heap) (locs : List Loc) (ls : Array Slot), HS g s σ sz H locs → I (n + 1) σ → lv_has ls 8 [(4, .int i), (3, .ref ob), (2, .ref mb), (1, .ref xb), (0, .ref b)] → W p l e room_1 s m args below meth c H locs (cells + 5) (slots + 2048) Q (F0 m 3547 ls [])) : W p l e room_1 s m args below meth c H locs cells slots Q (F0 m 1349 ls []) := by
  refine lv_aload_n C.1 C.2.1 dL_law_1349 rfl (lv_at hl 3 rfl) ?_
  refine lv_aload_n C.1 C.2.1 dL_law_1350 rfl (lv_at hl 4 rfl) ?_
  refine lv_iload C.1 C.2.1 dL_law_1351 (lv_at hl 0 rfl) ?_
  refine lv_iconst (v := 1) C.1 C.2.1 dL_law_1353 (by decide) ?_
  refine lv_iadd C.1 C.2.1 dL_law_1354 ?_
  refine va_sld C.1 C.2.1 hX hbl hbA hs.2.2 hi1 dL_law_1355 ?_
  refine lv_aload_n C.1 C.2.1 dL_law_1356 rfl (lv_at hl 4 rfl) ?_
  refine lv_iload C.1 C.2.1 dL_law_1357 (lv_at hl 0 rfl) ?_
  refine lv_iconst (v := 2) C.1 C.2.1 dL_law_1359 (by decide) ?_
  refine lv_iadd C.1 C.2.1 dL_law_1360 ?_
  refine va_sld C.1 C.2.1 hX hbl hbA hs.2.2 hi2 dL_law_1361 ?_
  refine lv_aload_n C.1 C.2.1 dL_law_1362 rfl (lv_at hl 1 rfl) ?_
  obtain ⟨k1, σ2, z3, r4, σ5, g1, g2, g3, g4, g5, g6, hI⟩ := A (xs (i + 1).toNatClampNeg) (xs (i + 2).toNatClampNeg) _ _ _ hn hI (HS.fr hs)
  have g1 : f_L_isEqual σ sz xb (xs (i + 1).toNatClampNeg) (xs (i + 2).toNatClampNeg) ob = some (k1, σ2, z3) := g1
  refine sx_callSW (As := [.ref xb, .int (xs (i + 1).toNatClampNeg), .int (xs (i + 2).toNatClampNeg), .ref ob]) (rest := []) C hs (c_L_isEqual hfl g1) mo_L_isEqual q823 rfl hl.1 ⟨⟨(Nat.le_of_ble_eq_true rfl), (Nat.le_of_ble_eq_true rfl)⟩, by omega, by omega⟩ rfl (Nat.le_of_ble_eq_true rfl) dL_law_1363 (fun z6 _ H locs hs => ?_)
  refine W.eq (g2 := F0 m 1366 ls [.int k1]) rfl ?_
  refine lv_istore (lv' := [(5, .int k1), (4, .int i), (3, .ref ob), (2, .ref mb), (1, .ref xb), (0, .ref b)]) C.1 C.2.1 dL_law_1366 hl (by decide) rfl (fun ls hl => ?_)
  refine lv_aload_n C.1 C.2.1 dL_law_1368 rfl (lv_at hl 3 rfl) ?_
  refine lv_aload_n C.1 C.2.1 dL_law_1369 rfl (lv_at hl 5 rfl) ?_
  refine lv_iload C.1 C.2.1 dL_law_1370 (lv_at hl 1 rfl) ?_
  refine lv_iconst (v := 1) C.1 C.2.1 dL_law_1372 (by decide) ?_
  refine lv_iadd C.1 C.2.1 dL_law_1373 ?_
  refine va_sld C.1 C.2.1 hX hbl hbA hs.2.2 hi1 dL_law_1374 ?_
  refine lv_aload_n C.1 C.2.1 dL_law_1375 rfl (lv_at hl 5 rfl) ?_
  refine lv_iload C.1 C.2.1 dL_law_1376 (lv_at hl 1 rfl) ?_
  refine lv_iconst (v := 2) C.1 C.2.1 dL_law_1378 (by decide) ?_
  refine lv_iadd C.1 C.2.1 dL_law_1379 ?_
  refine va_sld C.1 C.2.1 hX hbl hbA hs.2.2 hi2 dL_law_1380 ?_
  have g3 : f_X12_isEqual σ2 mb (xs (i + 1).toNatClampNeg) (xs (i + 2).toNatClampNeg) = some (r4, σ5) := g3
  refine sx_callV (As := [.int (xs (i + 1).toNatClampNeg), .int (xs (i + 2).toNatClampNeg)]) (rest := []) C hs (c_X12_isEqual g3) mo_X12_isEqual q1714 g2 rfl rfl hl.1 ⟨⟨(Nat.le_of_ble_eq_true rfl), (Nat.le_of_ble_eq_true rfl)⟩, by omega, by omega⟩ rfl (Nat.le_of_ble_eq_true rfl) dL_law_1381 (fun H locs hs => ?_)
  refine W.eq (g2 := F0 m 1384 ls [.int r4]) rfl ?_
  refine lv_istore (lv' := [(6, .int r4), (5, .int k1), (4, .int i), (3, .ref ob), (2, .ref mb), (1, .ref xb), (0, .ref b)]) C.1 C.2.1 dL_law_1384 hl (by decide) rfl (fun ls hl => ?_)
  refine lv_aload_n C.1 C.2.1 dL_law_1386 rfl (lv_at hl 4 rfl) ?_
  refine sx_callV (As := []) (rest := []) C hs (c_X12_thrown g5) mo_X12_thrown q1511 g4 rfl rfl hl.1 ⟨⟨(Nat.le_of_ble_eq_true rfl), (Nat.le_of_ble_eq_true rfl)⟩, by omega, by omega⟩ rfl (Nat.le_of_ble_eq_true rfl) dL_law_1387 (fun H locs hs => ?_)
  refine W.eq (g2 := F0 m 1390 ls [.int k1]) rfl ?_
  refine lv_iload C.1 C.2.1 dL_law_1390 (lv_at hl 1 rfl) ?_
  refine lv_icmp_eq (tgt := 1397) C.1 C.2.1 dL_law_1392 (by decide) (fun c7 => ?_) (fun c7 => absurd rfl c7)
  refine lv_iload C.1 C.2.1 dL_law_1397 (lv_at hl 1 rfl) ?_
  refine lv_if_ne (tgt := 1421) C.1 C.2.1 dL_law_1399 (by decide) (fun c8 => ?_) (fun c8 => ?_)
  · refine lv_goto (tgt := 3547) C.1 C.2.1 dL_law_1421 (by decide) ?_
    refine W.widen (k := cells + 5) (n := slots + 2048) (by omega) (by omega) ?_
    exact kk _ _ _ _ _ hs hI (lv_sub hl [2, 3, 4, 5, 6] rfl)
  · refine lv_aload_n C.1 C.2.1 dL_law_1402 rfl (lv_at hl 3 rfl) ?_
    refine lv_iconst (v := 0) C.1 C.2.1 dL_law_1403 (by decide) ?_
    have g7 : aL σ5 ob 2 0 = some ((if r4 = 0 then 0 else 1)) := g6 c8
    refine sx_lald C hs g7 dL_law_1404 ?_
    refine lv_iload C.1 C.2.1 dL_law_1405 (lv_at hl 0 rfl) ?_
    refine lv_if_eq (tgt := 1414) C.1 C.2.1 dL_law_1407 (by decide) (fun c9 => ?_) (fun c9 => ?_)
    · refine lv_lconst (v := 0) C.1 C.2.1 dL_law_1414 (by decide) ?_
      rw [if_pos c9]
      refine W.lcmp C.1 C.2.1 dL_law_1415 ?_
      refine lv_if_eq (tgt := 1421) C.1 C.2.1 dL_law_1416 (by decide) (fun c10 => ?_) (fun c10 => absurd ((lg_cmp_eq _ _).mpr rfl) c10)
      refine lv_goto (tgt := 3547) C.1 C.2.1 dL_law_1421 (by decide) ?_
      refine W.widen (k := cells + 5) (n := slots + 2048) (by omega) (by omega) ?_
      exact kk _ _ _ _ _ hs hI (lv_sub hl [2, 3, 4, 5, 6] rfl)
    · refine lv_lconst (v := 1) C.1 C.2.1 dL_law_1410 (by decide) ?_
      refine lv_goto (tgt := 1415) C.1 C.2.1 dL_law_1411 (by decide) ?_
      rw [if_neg c9]
      refine W.lcmp C.1 C.2.1 dL_law_1415 ?_
      refine lv_if_eq (tgt := 1421) C.1 C.2.1 dL_law_1416 (by decide) (fun c11 => ?_) (fun c11 => absurd ((lg_cmp_eq _ _).mpr rfl) c11)
      refine lv_goto (tgt := 3547) C.1 C.2.1 dL_law_1421 (by decide) ?_
      refine W.widen (k := cells + 5) (n := slots + 2048) (by omega) (by omega) ?_
      exact kk _ _ _ _ _ hs hI (lv_sub hl [2, 3, 4, 5, 6] rfl)
def A_setCurrency (I : Nat → Sto → Prop) (N xb mb ob : Nat) : Prop := ∀ (v1 : Int32) (v2 : Int32) (v3 : Int32) (v4 : Int32), Ag I mb ob (fun x : Int32 => x.toInt64) (fun σ sz => f_L_setCurrency σ sz xb v1 v2 v3 v4 ob) (fun σ => f_X12_setCurrency σ mb v1 v2 v3 v4)
set_option maxHeartbeats 4000000 in
set_option maxRecDepth 100000 in
theorem lc_setCurrency {l : Launch} (hfl : l.stackTraces = false) {g : PP} {p : Program} {e : Env} {s : State} {m : MethodId} {args : Array Value} {below : List Frame} {meth : Method} {c : Code} {N : Nat} {I : Nat → Sto → Prop} {n : Nat} (hn : n < 512) {xs : Nat → Int32} {b L xb mb ob : Nat} {i : Int32} (C : Cx g p s m meth c cL_law 8 "TillhouseLaw") (hX : va_X b L xs s s.heap) (hbl : b < s.heap.size) (hbA : ¬ Aw g b) (hi0 : vp_in i L) (hi1 : vp_in (i + 1) L) (hi2 : vp_in (i + 2) L) (hi3 : vp_in (i + 3) L) (hi4 : vp_in (i + 4) L) (hi5 : vp_in (i + 5) L) (hi6 : vp_in (i + 6) L)
    (A : A_setCurrency I N xb mb ob) {σ : Sto} {sz : Nat} {H : Heap} {locs : List Loc} {ls : Array Slot} {cells slots : Nat} (hs : HS g s σ sz H locs) (hI : I n σ) (hl : lv_has ls 8 [(4, .int i), (3, .ref ob), (2, .ref mb), (1, .ref xb), (0, .ref b)]) (hc : cells + 5 ≤ room_1.cells) (hS : slots + 2048 ≤ room_1.slots) {Q : State → Prop}
    (kk : ∀ (σ : Sto) (sz : Nat) (H : Heap) (locs : List Loc) (ls : Array Slot), HS g s σ sz H locs → I (n + 1) σ → lv_has ls 8 [(4, .int i), (3, .ref ob), (2, .ref mb), (1, .ref xb), (0, .ref b)] → W p l e room_1 s m args below meth c H locs (cells + 5) (slots + 2048) Q (F0 m 3547 ls [])) : W p l e room_1 s m args below meth c H locs cells slots Q (F0 m 1424 ls []) := by
  refine lv_aload_n C.1 C.2.1 dL_law_1424 rfl (lv_at hl 3 rfl) ?_
  refine lv_aload_n C.1 C.2.1 dL_law_1425 rfl (lv_at hl 4 rfl) ?_
  refine lv_iload C.1 C.2.1 dL_law_1426 (lv_at hl 0 rfl) ?_
  refine lv_iconst (v := 1) C.1 C.2.1 dL_law_1428 (by decide) ?_
  refine lv_iadd C.1 C.2.1 dL_law_1429 ?_
  refine va_sld C.1 C.2.1 hX hbl hbA hs.2.2 hi1 dL_law_1430 ?_
  refine lv_aload_n C.1 C.2.1 dL_law_1431 rfl (lv_at hl 4 rfl) ?_
  refine lv_iload C.1 C.2.1 dL_law_1432 (lv_at hl 0 rfl) ?_
  refine lv_iconst (v := 2) C.1 C.2.1 dL_law_1434 (by decide) ?_
  refine lv_iadd C.1 C.2.1 dL_law_1435 ?_
  refine va_sld C.1 C.2.1 hX hbl hbA hs.2.2 hi2 dL_law_1436 ?_
  refine lv_aload_n C.1 C.2.1 dL_law_1437 rfl (lv_at hl 4 rfl) ?_
  refine lv_iload C.1 C.2.1 dL_law_1438 (lv_at hl 0 rfl) ?_
  refine lv_iconst (v := 3) C.1 C.2.1 dL_law_1440 (by decide) ?_
  refine lv_iadd C.1 C.2.1 dL_law_1441 ?_
  refine va_sld C.1 C.2.1 hX hbl hbA hs.2.2 hi3 dL_law_1442 ?_
  refine lv_i2c (v := (Int32.toUInt32 (xs (i + 3).toNatClampNeg) % 65536).toInt32) C.1 C.2.1 dL_law_1443 rfl ?_
  refine lv_aload_n C.1 C.2.1 dL_law_1444 rfl (lv_at hl 4 rfl) ?_
  refine lv_iload C.1 C.2.1 dL_law_1445 (lv_at hl 0 rfl) ?_
  refine lv_iconst (v := 4) C.1 C.2.1 dL_law_1447 (by decide) ?_
  refine lv_iadd C.1 C.2.1 dL_law_1448 ?_
  refine va_sld C.1 C.2.1 hX hbl hbA hs.2.2 hi4 dL_law_1449 ?_
  refine lv_aload_n C.1 C.2.1 dL_law_1450 rfl (lv_at hl 1 rfl) ?_
  obtain ⟨k1, σ2, z3, r4, σ5, g1, g2, g3, g4, g5, g6, hI⟩ := A (xs (i + 1).toNatClampNeg) (xs (i + 2).toNatClampNeg) ((Int32.toUInt32 (xs (i + 3).toNatClampNeg) % 65536).toInt32) (xs (i + 4).toNatClampNeg) _ _ _ hn hI (HS.fr hs)
  have g1 : f_L_setCurrency σ sz xb (xs (i + 1).toNatClampNeg) (xs (i + 2).toNatClampNeg) ((Int32.toUInt32 (xs (i + 3).toNatClampNeg) % 65536).toInt32) (xs (i + 4).toNatClampNeg) ob = some (k1, σ2, z3) := g1
  refine sx_callSW (As := [.ref xb, .int (xs (i + 1).toNatClampNeg), .int (xs (i + 2).toNatClampNeg), .int ((Int32.toUInt32 (xs (i + 3).toNatClampNeg) % 65536).toInt32), .int (xs (i + 4).toNatClampNeg), .ref ob]) (rest := []) C hs (c_L_setCurrency hfl g1) mo_L_setCurrency q830 rfl hl.1 ⟨⟨(Nat.le_of_ble_eq_true rfl), (Nat.le_of_ble_eq_true rfl)⟩, by omega, by omega⟩ rfl (Nat.le_of_ble_eq_true rfl) dL_law_1451 (fun z6 _ H locs hs => ?_)
  refine W.eq (g2 := F0 m 1454 ls [.int k1]) rfl ?_
  refine lv_istore (lv' := [(5, .int k1), (4, .int i), (3, .ref ob), (2, .ref mb), (1, .ref xb), (0, .ref b)]) C.1 C.2.1 dL_law_1454 hl (by decide) rfl (fun ls hl => ?_)
  refine lv_aload_n C.1 C.2.1 dL_law_1456 rfl (lv_at hl 3 rfl) ?_
  refine lv_aload_n C.1 C.2.1 dL_law_1457 rfl (lv_at hl 5 rfl) ?_
  refine lv_iload C.1 C.2.1 dL_law_1458 (lv_at hl 1 rfl) ?_
  refine lv_iconst (v := 1) C.1 C.2.1 dL_law_1460 (by decide) ?_
  refine lv_iadd C.1 C.2.1 dL_law_1461 ?_
  refine va_sld C.1 C.2.1 hX hbl hbA hs.2.2 hi1 dL_law_1462 ?_
  refine lv_aload_n C.1 C.2.1 dL_law_1463 rfl (lv_at hl 5 rfl) ?_
  refine lv_iload C.1 C.2.1 dL_law_1464 (lv_at hl 1 rfl) ?_
  refine lv_iconst (v := 2) C.1 C.2.1 dL_law_1466 (by decide) ?_
  refine lv_iadd C.1 C.2.1 dL_law_1467 ?_
  refine va_sld C.1 C.2.1 hX hbl hbA hs.2.2 hi2 dL_law_1468 ?_
  refine lv_aload_n C.1 C.2.1 dL_law_1469 rfl (lv_at hl 5 rfl) ?_
  refine lv_iload C.1 C.2.1 dL_law_1470 (lv_at hl 1 rfl) ?_
  refine lv_iconst (v := 3) C.1 C.2.1 dL_law_1472 (by decide) ?_
  refine lv_iadd C.1 C.2.1 dL_law_1473 ?_
  refine va_sld C.1 C.2.1 hX hbl hbA hs.2.2 hi3 dL_law_1474 ?_
  refine lv_i2c (v := (Int32.toUInt32 (xs (i + 3).toNatClampNeg) % 65536).toInt32) C.1 C.2.1 dL_law_1475 rfl ?_
  refine lv_aload_n C.1 C.2.1 dL_law_1476 rfl (lv_at hl 5 rfl) ?_
  refine lv_iload C.1 C.2.1 dL_law_1477 (lv_at hl 1 rfl) ?_
  refine lv_iconst (v := 4) C.1 C.2.1 dL_law_1479 (by decide) ?_
  refine lv_iadd C.1 C.2.1 dL_law_1480 ?_
  refine va_sld C.1 C.2.1 hX hbl hbA hs.2.2 hi4 dL_law_1481 ?_
  have g3 : f_X12_setCurrency σ2 mb (xs (i + 1).toNatClampNeg) (xs (i + 2).toNatClampNeg) ((Int32.toUInt32 (xs (i + 3).toNatClampNeg) % 65536).toInt32) (xs (i + 4).toNatClampNeg) = some (r4, σ5) := g3
  refine sx_callV (As := [.int (xs (i + 1).toNatClampNeg), .int (xs (i + 2).toNatClampNeg), .int ((Int32.toUInt32 (xs (i + 3).toNatClampNeg) % 65536).toInt32), .int (xs (i + 4).toNatClampNeg)]) (rest := []) C hs (c_X12_setCurrency g3) mo_X12_setCurrency q1718 g2 rfl rfl hl.1 ⟨⟨(Nat.le_of_ble_eq_true rfl), (Nat.le_of_ble_eq_true rfl)⟩, by omega, by omega⟩ rfl (Nat.le_of_ble_eq_true rfl) dL_law_1482 (fun H locs hs => ?_)
  refine W.eq (g2 := F0 m 1485 ls [.int r4]) rfl ?_
  refine lv_istore (lv' := [(6, .int r4), (5, .int k1), (4, .int i), (3, .ref ob), (2, .ref mb), (1, .ref xb), (0, .ref b)]) C.1 C.2.1 dL_law_1485 hl (by decide) rfl (fun ls hl => ?_)
  refine lv_aload_n C.1 C.2.1 dL_law_1487 rfl (lv_at hl 4 rfl) ?_
  refine sx_callV (As := []) (rest := []) C hs (c_X12_thrown g5) mo_X12_thrown q1511 g4 rfl rfl hl.1 ⟨⟨(Nat.le_of_ble_eq_true rfl), (Nat.le_of_ble_eq_true rfl)⟩, by omega, by omega⟩ rfl (Nat.le_of_ble_eq_true rfl) dL_law_1488 (fun H locs hs => ?_)
  refine W.eq (g2 := F0 m 1491 ls [.int k1]) rfl ?_
  refine lv_iload C.1 C.2.1 dL_law_1491 (lv_at hl 1 rfl) ?_
  refine lv_icmp_eq (tgt := 1498) C.1 C.2.1 dL_law_1493 (by decide) (fun c7 => ?_) (fun c7 => absurd rfl c7)
  refine lv_iload C.1 C.2.1 dL_law_1498 (lv_at hl 1 rfl) ?_
  refine lv_if_ne (tgt := 1515) C.1 C.2.1 dL_law_1500 (by decide) (fun c8 => ?_) (fun c8 => ?_)
  · refine lv_goto (tgt := 3547) C.1 C.2.1 dL_law_1515 (by decide) ?_
    refine W.widen (k := cells + 5) (n := slots + 2048) (by omega) (by omega) ?_
    exact kk _ _ _ _ _ hs hI (lv_sub hl [2, 3, 4, 5, 6] rfl)
  · refine lv_aload_n C.1 C.2.1 dL_law_1503 rfl (lv_at hl 3 rfl) ?_
    refine lv_iconst (v := 0) C.1 C.2.1 dL_law_1504 (by decide) ?_
    have g7 : aL σ5 ob 2 0 = some (Int32.toInt64 r4) := g6 c8
    refine sx_lald C hs g7 dL_law_1505 ?_
    refine lv_iload C.1 C.2.1 dL_law_1506 (lv_at hl 0 rfl) ?_
    refine lv_i2l (v := Int32.toInt64 r4) C.1 C.2.1 dL_law_1508 rfl ?_
    refine W.lcmp C.1 C.2.1 dL_law_1509 ?_
    refine lv_if_eq (tgt := 1515) C.1 C.2.1 dL_law_1510 (by decide) (fun c9 => ?_) (fun c9 => absurd ((lg_cmp_eq _ _).mpr rfl) c9)
    refine lv_goto (tgt := 3547) C.1 C.2.1 dL_law_1515 (by decide) ?_
    refine W.widen (k := cells + 5) (n := slots + 2048) (by omega) (by omega) ?_
    exact kk _ _ _ _ _ hs hI (lv_sub hl [2, 3, 4, 5, 6] rfl)
def A_setRate (I : Nat → Sto → Prop) (N xb mb ob : Nat) : Prop := ∀ (v1 : Int32) (v2 : Int32) (v3 : Int32), Ag I mb ob (fun x : Int32 => if x = 0 then 0 else 1) (fun σ sz => f_L_setRate σ sz xb v1 v2 v3 ob) (fun σ => f_X12_setRate σ mb v1 v2 v3)
set_option maxHeartbeats 4000000 in
set_option maxRecDepth 100000 in
theorem lc_setRate {l : Launch} (hfl : l.stackTraces = false) {g : PP} {p : Program} {e : Env} {s : State} {m : MethodId} {args : Array Value} {below : List Frame} {meth : Method} {c : Code} {N : Nat} {I : Nat → Sto → Prop} {n : Nat} (hn : n < 512) {xs : Nat → Int32} {b L xb mb ob : Nat} {i : Int32} (C : Cx g p s m meth c cL_law 8 "TillhouseLaw") (hX : va_X b L xs s s.heap) (hbl : b < s.heap.size) (hbA : ¬ Aw g b) (hi0 : vp_in i L) (hi1 : vp_in (i + 1) L) (hi2 : vp_in (i + 2) L) (hi3 : vp_in (i + 3) L) (hi4 : vp_in (i + 4) L) (hi5 : vp_in (i + 5) L) (hi6 : vp_in (i + 6) L)
    (A : A_setRate I N xb mb ob) {σ : Sto} {sz : Nat} {H : Heap} {locs : List Loc} {ls : Array Slot} {cells slots : Nat} (hs : HS g s σ sz H locs) (hI : I n σ) (hl : lv_has ls 8 [(4, .int i), (3, .ref ob), (2, .ref mb), (1, .ref xb), (0, .ref b)]) (hc : cells + 5 ≤ room_1.cells) (hS : slots + 2048 ≤ room_1.slots) {Q : State → Prop}
    (kk : ∀ (σ : Sto) (sz : Nat) (H : Heap) (locs : List Loc) (ls : Array Slot), HS g s σ sz H locs → I (n + 1) σ → lv_has ls 8 [(4, .int i), (3, .ref ob), (2, .ref mb), (1, .ref xb), (0, .ref b)] → W p l e room_1 s m args below meth c H locs (cells + 5) (slots + 2048) Q (F0 m 3547 ls [])) : W p l e room_1 s m args below meth c H locs cells slots Q (F0 m 1518 ls []) := by
  refine lv_aload_n C.1 C.2.1 dL_law_1518 rfl (lv_at hl 3 rfl) ?_
  refine lv_aload_n C.1 C.2.1 dL_law_1519 rfl (lv_at hl 4 rfl) ?_
  refine lv_iload C.1 C.2.1 dL_law_1520 (lv_at hl 0 rfl) ?_
  refine lv_iconst (v := 1) C.1 C.2.1 dL_law_1522 (by decide) ?_
  refine lv_iadd C.1 C.2.1 dL_law_1523 ?_
  refine va_sld C.1 C.2.1 hX hbl hbA hs.2.2 hi1 dL_law_1524 ?_
  refine lv_aload_n C.1 C.2.1 dL_law_1525 rfl (lv_at hl 4 rfl) ?_
  refine lv_iload C.1 C.2.1 dL_law_1526 (lv_at hl 0 rfl) ?_
  refine lv_iconst (v := 2) C.1 C.2.1 dL_law_1528 (by decide) ?_
  refine lv_iadd C.1 C.2.1 dL_law_1529 ?_
  refine va_sld C.1 C.2.1 hX hbl hbA hs.2.2 hi2 dL_law_1530 ?_
  refine lv_aload_n C.1 C.2.1 dL_law_1531 rfl (lv_at hl 4 rfl) ?_
  refine lv_iload C.1 C.2.1 dL_law_1532 (lv_at hl 0 rfl) ?_
  refine lv_iconst (v := 3) C.1 C.2.1 dL_law_1534 (by decide) ?_
  refine lv_iadd C.1 C.2.1 dL_law_1535 ?_
  refine va_sld C.1 C.2.1 hX hbl hbA hs.2.2 hi3 dL_law_1536 ?_
  refine lv_aload_n C.1 C.2.1 dL_law_1537 rfl (lv_at hl 1 rfl) ?_
  obtain ⟨k1, σ2, z3, r4, σ5, g1, g2, g3, g4, g5, g6, hI⟩ := A (xs (i + 1).toNatClampNeg) (xs (i + 2).toNatClampNeg) (xs (i + 3).toNatClampNeg) _ _ _ hn hI (HS.fr hs)
  have g1 : f_L_setRate σ sz xb (xs (i + 1).toNatClampNeg) (xs (i + 2).toNatClampNeg) (xs (i + 3).toNatClampNeg) ob = some (k1, σ2, z3) := g1
  refine sx_callSW (As := [.ref xb, .int (xs (i + 1).toNatClampNeg), .int (xs (i + 2).toNatClampNeg), .int (xs (i + 3).toNatClampNeg), .ref ob]) (rest := []) C hs (c_L_setRate hfl g1) mo_L_setRate q847 rfl hl.1 ⟨⟨(Nat.le_of_ble_eq_true rfl), (Nat.le_of_ble_eq_true rfl)⟩, by omega, by omega⟩ rfl (Nat.le_of_ble_eq_true rfl) dL_law_1538 (fun z6 _ H locs hs => ?_)
  refine W.eq (g2 := F0 m 1541 ls [.int k1]) rfl ?_
  refine lv_istore (lv' := [(5, .int k1), (4, .int i), (3, .ref ob), (2, .ref mb), (1, .ref xb), (0, .ref b)]) C.1 C.2.1 dL_law_1541 hl (by decide) rfl (fun ls hl => ?_)
  refine lv_aload_n C.1 C.2.1 dL_law_1543 rfl (lv_at hl 3 rfl) ?_
  refine lv_aload_n C.1 C.2.1 dL_law_1544 rfl (lv_at hl 5 rfl) ?_
  refine lv_iload C.1 C.2.1 dL_law_1545 (lv_at hl 1 rfl) ?_
  refine lv_iconst (v := 1) C.1 C.2.1 dL_law_1547 (by decide) ?_
  refine lv_iadd C.1 C.2.1 dL_law_1548 ?_
  refine va_sld C.1 C.2.1 hX hbl hbA hs.2.2 hi1 dL_law_1549 ?_
  refine lv_aload_n C.1 C.2.1 dL_law_1550 rfl (lv_at hl 5 rfl) ?_
  refine lv_iload C.1 C.2.1 dL_law_1551 (lv_at hl 1 rfl) ?_
  refine lv_iconst (v := 2) C.1 C.2.1 dL_law_1553 (by decide) ?_
  refine lv_iadd C.1 C.2.1 dL_law_1554 ?_
  refine va_sld C.1 C.2.1 hX hbl hbA hs.2.2 hi2 dL_law_1555 ?_
  refine lv_aload_n C.1 C.2.1 dL_law_1556 rfl (lv_at hl 5 rfl) ?_
  refine lv_iload C.1 C.2.1 dL_law_1557 (lv_at hl 1 rfl) ?_
  refine lv_iconst (v := 3) C.1 C.2.1 dL_law_1559 (by decide) ?_
  refine lv_iadd C.1 C.2.1 dL_law_1560 ?_
  refine va_sld C.1 C.2.1 hX hbl hbA hs.2.2 hi3 dL_law_1561 ?_
  have g3 : f_X12_setRate σ2 mb (xs (i + 1).toNatClampNeg) (xs (i + 2).toNatClampNeg) (xs (i + 3).toNatClampNeg) = some (r4, σ5) := g3
  refine sx_callV (As := [.int (xs (i + 1).toNatClampNeg), .int (xs (i + 2).toNatClampNeg), .int (xs (i + 3).toNatClampNeg)]) (rest := []) C hs (c_X12_setRate g3) mo_X12_setRate q1727 g2 rfl rfl hl.1 ⟨⟨(Nat.le_of_ble_eq_true rfl), (Nat.le_of_ble_eq_true rfl)⟩, by omega, by omega⟩ rfl (Nat.le_of_ble_eq_true rfl) dL_law_1562 (fun H locs hs => ?_)
  refine W.eq (g2 := F0 m 1565 ls [.int r4]) rfl ?_
  refine lv_istore (lv' := [(6, .int r4), (5, .int k1), (4, .int i), (3, .ref ob), (2, .ref mb), (1, .ref xb), (0, .ref b)]) C.1 C.2.1 dL_law_1565 hl (by decide) rfl (fun ls hl => ?_)
  refine lv_aload_n C.1 C.2.1 dL_law_1567 rfl (lv_at hl 4 rfl) ?_
  refine sx_callV (As := []) (rest := []) C hs (c_X12_thrown g5) mo_X12_thrown q1511 g4 rfl rfl hl.1 ⟨⟨(Nat.le_of_ble_eq_true rfl), (Nat.le_of_ble_eq_true rfl)⟩, by omega, by omega⟩ rfl (Nat.le_of_ble_eq_true rfl) dL_law_1568 (fun H locs hs => ?_)
  refine W.eq (g2 := F0 m 1571 ls [.int k1]) rfl ?_
  refine lv_iload C.1 C.2.1 dL_law_1571 (lv_at hl 1 rfl) ?_
  refine lv_icmp_eq (tgt := 1578) C.1 C.2.1 dL_law_1573 (by decide) (fun c7 => ?_) (fun c7 => absurd rfl c7)
  refine lv_iload C.1 C.2.1 dL_law_1578 (lv_at hl 1 rfl) ?_
  refine lv_if_ne (tgt := 1602) C.1 C.2.1 dL_law_1580 (by decide) (fun c8 => ?_) (fun c8 => ?_)
  · refine lv_goto (tgt := 3547) C.1 C.2.1 dL_law_1602 (by decide) ?_
    refine W.widen (k := cells + 5) (n := slots + 2048) (by omega) (by omega) ?_
    exact kk _ _ _ _ _ hs hI (lv_sub hl [2, 3, 4, 5, 6] rfl)
  · refine lv_aload_n C.1 C.2.1 dL_law_1583 rfl (lv_at hl 3 rfl) ?_
    refine lv_iconst (v := 0) C.1 C.2.1 dL_law_1584 (by decide) ?_
    have g7 : aL σ5 ob 2 0 = some ((if r4 = 0 then 0 else 1)) := g6 c8
    refine sx_lald C hs g7 dL_law_1585 ?_
    refine lv_iload C.1 C.2.1 dL_law_1586 (lv_at hl 0 rfl) ?_
    refine lv_if_eq (tgt := 1595) C.1 C.2.1 dL_law_1588 (by decide) (fun c9 => ?_) (fun c9 => ?_)
    · refine lv_lconst (v := 0) C.1 C.2.1 dL_law_1595 (by decide) ?_
      rw [if_pos c9]
      refine W.lcmp C.1 C.2.1 dL_law_1596 ?_
      refine lv_if_eq (tgt := 1602) C.1 C.2.1 dL_law_1597 (by decide) (fun c10 => ?_) (fun c10 => absurd ((lg_cmp_eq _ _).mpr rfl) c10)
      refine lv_goto (tgt := 3547) C.1 C.2.1 dL_law_1602 (by decide) ?_
      refine W.widen (k := cells + 5) (n := slots + 2048) (by omega) (by omega) ?_
      exact kk _ _ _ _ _ hs hI (lv_sub hl [2, 3, 4, 5, 6] rfl)
    · refine lv_lconst (v := 1) C.1 C.2.1 dL_law_1591 (by decide) ?_
      refine lv_goto (tgt := 1596) C.1 C.2.1 dL_law_1592 (by decide) ?_
      rw [if_neg c9]
      refine W.lcmp C.1 C.2.1 dL_law_1596 ?_
      refine lv_if_eq (tgt := 1602) C.1 C.2.1 dL_law_1597 (by decide) (fun c11 => ?_) (fun c11 => absurd ((lg_cmp_eq _ _).mpr rfl) c11)
      refine lv_goto (tgt := 3547) C.1 C.2.1 dL_law_1602 (by decide) ?_
      refine W.widen (k := cells + 5) (n := slots + 2048) (by omega) (by omega) ?_
      exact kk _ _ _ _ _ hs hI (lv_sub hl [2, 3, 4, 5, 6] rfl)
def A_change (I : Nat → Sto → Prop) (N xb mb ob : Nat) : Prop := ∀ (v1 : Int32) (v2 : Int32) (v3 : Int64), Ag I mb ob (fun x : Int64 => x) (fun σ sz => f_L_change σ sz xb v1 v2 v3 ob) (fun σ => f_X12_change N σ mb v1 v2 v3)
set_option maxHeartbeats 4000000 in
set_option maxRecDepth 100000 in
theorem lc_change {l : Launch} (hfl : l.stackTraces = false) {g : PP} {p : Program} {e : Env} {s : State} {m : MethodId} {args : Array Value} {below : List Frame} {meth : Method} {c : Code} {N : Nat} {I : Nat → Sto → Prop} {n : Nat} (hn : n < 512) {xs : Nat → Int32} {b L xb mb ob : Nat} {i : Int32} (C : Cx g p s m meth c cL_law 8 "TillhouseLaw") (hX : va_X b L xs s s.heap) (hbl : b < s.heap.size) (hbA : ¬ Aw g b) (hi0 : vp_in i L) (hi1 : vp_in (i + 1) L) (hi2 : vp_in (i + 2) L) (hi3 : vp_in (i + 3) L) (hi4 : vp_in (i + 4) L) (hi5 : vp_in (i + 5) L) (hi6 : vp_in (i + 6) L)
    (A : A_change I N xb mb ob) {σ : Sto} {sz : Nat} {H : Heap} {locs : List Loc} {ls : Array Slot} {cells slots : Nat} (hs : HS g s σ sz H locs) (hI : I n σ) (hl : lv_has ls 8 [(4, .int i), (3, .ref ob), (2, .ref mb), (1, .ref xb), (0, .ref b)]) (hc : cells + 5 ≤ room_1.cells) (hS : slots + 2048 ≤ room_1.slots) {Q : State → Prop}
    (kk : ∀ (σ : Sto) (sz : Nat) (H : Heap) (locs : List Loc) (ls : Array Slot), HS g s σ sz H locs → I (n + 1) σ → lv_has ls 8 [(4, .int i), (3, .ref ob), (2, .ref mb), (1, .ref xb), (0, .ref b)] → W p l e room_1 s m args below meth c H locs (cells + 5) (slots + 2048) Q (F0 m 3547 ls [])) : W p l e room_1 s m args below meth c H locs cells slots Q (F0 m 1605 ls []) := by
  refine lv_aload_n C.1 C.2.1 dL_law_1605 rfl (lv_at hl 3 rfl) ?_
  refine lv_aload_n C.1 C.2.1 dL_law_1606 rfl (lv_at hl 4 rfl) ?_
  refine lv_iload C.1 C.2.1 dL_law_1607 (lv_at hl 0 rfl) ?_
  refine lv_iconst (v := 1) C.1 C.2.1 dL_law_1609 (by decide) ?_
  refine lv_iadd C.1 C.2.1 dL_law_1610 ?_
  refine va_sld C.1 C.2.1 hX hbl hbA hs.2.2 hi1 dL_law_1611 ?_
  refine lv_aload_n C.1 C.2.1 dL_law_1612 rfl (lv_at hl 4 rfl) ?_
  refine lv_iload C.1 C.2.1 dL_law_1613 (lv_at hl 0 rfl) ?_
  refine lv_iconst (v := 2) C.1 C.2.1 dL_law_1615 (by decide) ?_
  refine lv_iadd C.1 C.2.1 dL_law_1616 ?_
  refine va_sld C.1 C.2.1 hX hbl hbA hs.2.2 hi2 dL_law_1617 ?_
  refine lv_aload_n C.1 C.2.1 dL_law_1618 rfl (lv_at hl 4 rfl) ?_
  refine lv_iload C.1 C.2.1 dL_law_1619 (lv_at hl 0 rfl) ?_
  refine lv_iconst (v := 3) C.1 C.2.1 dL_law_1621 (by decide) ?_
  refine lv_iadd C.1 C.2.1 dL_law_1622 ?_
  refine va_sld C.1 C.2.1 hX hbl hbA hs.2.2 hi3 dL_law_1623 ?_
  refine lv_i2l (v := Int32.toInt64 (xs (i + 3).toNatClampNeg)) C.1 C.2.1 dL_law_1624 rfl ?_
  refine lv_bipush (v := 32) C.1 C.2.1 dL_law_1625 (by decide) ?_
  refine lv_lshl (v := (Int32.toInt64 (xs (i + 3).toNatClampNeg)) <<< (Int32.toInt64 32 &&& 63)) C.1 C.2.1 dL_law_1627 rfl ?_
  refine lv_aload_n C.1 C.2.1 dL_law_1628 rfl (lv_at hl 4 rfl) ?_
  refine lv_iload C.1 C.2.1 dL_law_1629 (lv_at hl 0 rfl) ?_
  refine lv_iconst (v := 4) C.1 C.2.1 dL_law_1631 (by decide) ?_
  refine lv_iadd C.1 C.2.1 dL_law_1632 ?_
  refine va_sld C.1 C.2.1 hX hbl hbA hs.2.2 hi4 dL_law_1633 ?_
  refine lv_i2l (v := Int32.toInt64 (xs (i + 4).toNatClampNeg)) C.1 C.2.1 dL_law_1634 rfl ?_
  refine lv_ldc2 (v := 4294967295) C.1 C.2.1 C.2.2.2.1 (C.2.2.2.2.1.1 _ q1898 _) dL_law_1635 ?_
  refine lv_land C.1 C.2.1 dL_law_1638 ?_
  refine lv_lor C.1 C.2.1 dL_law_1639 ?_
  refine lv_aload_n C.1 C.2.1 dL_law_1640 rfl (lv_at hl 1 rfl) ?_
  obtain ⟨k1, σ2, z3, r4, σ5, g1, g2, g3, g4, g5, g6, hI⟩ := A (xs (i + 1).toNatClampNeg) (xs (i + 2).toNatClampNeg) (((Int32.toInt64 (xs (i + 3).toNatClampNeg)) <<< (Int32.toInt64 32 &&& 63)) ||| ((Int32.toInt64 (xs (i + 4).toNatClampNeg)) &&& 4294967295)) _ _ _ hn hI (HS.fr hs)
  have g1 : f_L_change σ sz xb (xs (i + 1).toNatClampNeg) (xs (i + 2).toNatClampNeg) (((Int32.toInt64 (xs (i + 3).toNatClampNeg)) <<< (Int32.toInt64 32 &&& 63)) ||| ((Int32.toInt64 (xs (i + 4).toNatClampNeg)) &&& 4294967295)) ob = some (k1, σ2, z3) := g1
  refine sx_callSW (As := [.ref xb, .int (xs (i + 1).toNatClampNeg), .int (xs (i + 2).toNatClampNeg), .long (((Int32.toInt64 (xs (i + 3).toNatClampNeg)) <<< (Int32.toInt64 32 &&& 63)) ||| ((Int32.toInt64 (xs (i + 4).toNatClampNeg)) &&& 4294967295)), .ref ob]) (rest := []) C hs (c_L_change hfl g1) mo_L_change q865 rfl hl.1 ⟨⟨(Nat.le_of_ble_eq_true rfl), (Nat.le_of_ble_eq_true rfl)⟩, by omega, by omega⟩ rfl (Nat.le_of_ble_eq_true rfl) dL_law_1641 (fun z6 _ H locs hs => ?_)
  refine W.eq (g2 := F0 m 1644 ls [.int k1]) rfl ?_
  refine lv_istore (lv' := [(5, .int k1), (4, .int i), (3, .ref ob), (2, .ref mb), (1, .ref xb), (0, .ref b)]) C.1 C.2.1 dL_law_1644 hl (by decide) rfl (fun ls hl => ?_)
  refine lv_aload_n C.1 C.2.1 dL_law_1646 rfl (lv_at hl 3 rfl) ?_
  refine lv_aload_n C.1 C.2.1 dL_law_1647 rfl (lv_at hl 5 rfl) ?_
  refine lv_iload C.1 C.2.1 dL_law_1648 (lv_at hl 1 rfl) ?_
  refine lv_iconst (v := 1) C.1 C.2.1 dL_law_1650 (by decide) ?_
  refine lv_iadd C.1 C.2.1 dL_law_1651 ?_
  refine va_sld C.1 C.2.1 hX hbl hbA hs.2.2 hi1 dL_law_1652 ?_
  refine lv_aload_n C.1 C.2.1 dL_law_1653 rfl (lv_at hl 5 rfl) ?_
  refine lv_iload C.1 C.2.1 dL_law_1654 (lv_at hl 1 rfl) ?_
  refine lv_iconst (v := 2) C.1 C.2.1 dL_law_1656 (by decide) ?_
  refine lv_iadd C.1 C.2.1 dL_law_1657 ?_
  refine va_sld C.1 C.2.1 hX hbl hbA hs.2.2 hi2 dL_law_1658 ?_
  refine lv_aload_n C.1 C.2.1 dL_law_1659 rfl (lv_at hl 5 rfl) ?_
  refine lv_iload C.1 C.2.1 dL_law_1660 (lv_at hl 1 rfl) ?_
  refine lv_iconst (v := 3) C.1 C.2.1 dL_law_1662 (by decide) ?_
  refine lv_iadd C.1 C.2.1 dL_law_1663 ?_
  refine va_sld C.1 C.2.1 hX hbl hbA hs.2.2 hi3 dL_law_1664 ?_
  refine lv_i2l (v := Int32.toInt64 (xs (i + 3).toNatClampNeg)) C.1 C.2.1 dL_law_1665 rfl ?_
  refine lv_bipush (v := 32) C.1 C.2.1 dL_law_1666 (by decide) ?_
  refine lv_lshl (v := (Int32.toInt64 (xs (i + 3).toNatClampNeg)) <<< (Int32.toInt64 32 &&& 63)) C.1 C.2.1 dL_law_1668 rfl ?_
  refine lv_aload_n C.1 C.2.1 dL_law_1669 rfl (lv_at hl 5 rfl) ?_
  refine lv_iload C.1 C.2.1 dL_law_1670 (lv_at hl 1 rfl) ?_
  refine lv_iconst (v := 4) C.1 C.2.1 dL_law_1672 (by decide) ?_
  refine lv_iadd C.1 C.2.1 dL_law_1673 ?_
  refine va_sld C.1 C.2.1 hX hbl hbA hs.2.2 hi4 dL_law_1674 ?_
  refine lv_i2l (v := Int32.toInt64 (xs (i + 4).toNatClampNeg)) C.1 C.2.1 dL_law_1675 rfl ?_
  refine lv_ldc2 (v := 4294967295) C.1 C.2.1 C.2.2.2.1 (C.2.2.2.2.1.1 _ q1898 _) dL_law_1676 ?_
  refine lv_land C.1 C.2.1 dL_law_1679 ?_
  refine lv_lor C.1 C.2.1 dL_law_1680 ?_
  have g3 : f_X12_change N σ2 mb (xs (i + 1).toNatClampNeg) (xs (i + 2).toNatClampNeg) (((Int32.toInt64 (xs (i + 3).toNatClampNeg)) <<< (Int32.toInt64 32 &&& 63)) ||| ((Int32.toInt64 (xs (i + 4).toNatClampNeg)) &&& 4294967295)) = some (r4, σ5) := g3
  refine sx_callV (As := [.int (xs (i + 1).toNatClampNeg), .int (xs (i + 2).toNatClampNeg), .long (((Int32.toInt64 (xs (i + 3).toNatClampNeg)) <<< (Int32.toInt64 32 &&& 63)) ||| ((Int32.toInt64 (xs (i + 4).toNatClampNeg)) &&& 4294967295))]) (rest := []) C hs (c_X12_change g3) mo_X12_change q1731 g2 rfl rfl hl.1 ⟨⟨(Nat.le_of_ble_eq_true rfl), (Nat.le_of_ble_eq_true rfl)⟩, by omega, by omega⟩ rfl (Nat.le_of_ble_eq_true rfl) dL_law_1681 (fun H locs hs => ?_)
  refine W.eq (g2 := F0 m 1684 ls [.long r4]) rfl ?_
  refine lv_lstore (lv' := [(6, .long r4), (5, .int k1), (4, .int i), (3, .ref ob), (2, .ref mb), (1, .ref xb), (0, .ref b)]) C.1 C.2.1 dL_law_1684 hl (by decide) rfl (fun ls hl => ?_)
  refine lv_aload_n C.1 C.2.1 dL_law_1686 rfl (lv_at hl 4 rfl) ?_
  refine sx_callV (As := []) (rest := []) C hs (c_X12_thrown g5) mo_X12_thrown q1511 g4 rfl rfl hl.1 ⟨⟨(Nat.le_of_ble_eq_true rfl), (Nat.le_of_ble_eq_true rfl)⟩, by omega, by omega⟩ rfl (Nat.le_of_ble_eq_true rfl) dL_law_1687 (fun H locs hs => ?_)
  refine W.eq (g2 := F0 m 1690 ls [.int k1]) rfl ?_
  refine lv_iload C.1 C.2.1 dL_law_1690 (lv_at hl 1 rfl) ?_
  refine lv_icmp_eq (tgt := 1697) C.1 C.2.1 dL_law_1692 (by decide) (fun c7 => ?_) (fun c7 => absurd rfl c7)
  refine lv_iload C.1 C.2.1 dL_law_1697 (lv_at hl 1 rfl) ?_
  refine lv_if_ne (tgt := 1713) C.1 C.2.1 dL_law_1699 (by decide) (fun c8 => ?_) (fun c8 => ?_)
  · refine lv_goto (tgt := 3547) C.1 C.2.1 dL_law_1713 (by decide) ?_
    refine W.widen (k := cells + 5) (n := slots + 2048) (by omega) (by omega) ?_
    exact kk _ _ _ _ _ hs hI (lv_sub hl [2, 3, 4, 5, 6] rfl)
  · refine lv_aload_n C.1 C.2.1 dL_law_1702 rfl (lv_at hl 3 rfl) ?_
    refine lv_iconst (v := 0) C.1 C.2.1 dL_law_1703 (by decide) ?_
    have g7 : aL σ5 ob 2 0 = some (r4) := g6 c8
    refine sx_lald C hs g7 dL_law_1704 ?_
    refine lv_lload C.1 C.2.1 dL_law_1705 (lv_at hl 0 rfl) ?_
    refine W.lcmp C.1 C.2.1 dL_law_1707 ?_
    refine lv_if_eq (tgt := 1713) C.1 C.2.1 dL_law_1708 (by decide) (fun c9 => ?_) (fun c9 => absurd ((lg_cmp_eq _ _).mpr rfl) c9)
    refine lv_goto (tgt := 3547) C.1 C.2.1 dL_law_1713 (by decide) ?_
    refine W.widen (k := cells + 5) (n := slots + 2048) (by omega) (by omega) ?_
    exact kk _ _ _ _ _ hs hI (lv_sub hl [2, 3, 4, 5, 6] rfl)
def A_lost (I : Nat → Sto → Prop) (N xb mb ob : Nat) : Prop := ∀ (v1 : Int32) (v2 : Int32) (v3 : Int64), Ag I mb ob (fun x : Int64 => x) (fun σ sz => f_L_lost σ sz xb v1 v2 v3 ob) (fun σ => f_X12_lost N σ mb v1 v2 v3)
set_option maxHeartbeats 4000000 in
set_option maxRecDepth 100000 in
theorem lc_lost {l : Launch} (hfl : l.stackTraces = false) {g : PP} {p : Program} {e : Env} {s : State} {m : MethodId} {args : Array Value} {below : List Frame} {meth : Method} {c : Code} {N : Nat} {I : Nat → Sto → Prop} {n : Nat} (hn : n < 512) {xs : Nat → Int32} {b L xb mb ob : Nat} {i : Int32} (C : Cx g p s m meth c cL_law 8 "TillhouseLaw") (hX : va_X b L xs s s.heap) (hbl : b < s.heap.size) (hbA : ¬ Aw g b) (hi0 : vp_in i L) (hi1 : vp_in (i + 1) L) (hi2 : vp_in (i + 2) L) (hi3 : vp_in (i + 3) L) (hi4 : vp_in (i + 4) L) (hi5 : vp_in (i + 5) L) (hi6 : vp_in (i + 6) L)
    (A : A_lost I N xb mb ob) {σ : Sto} {sz : Nat} {H : Heap} {locs : List Loc} {ls : Array Slot} {cells slots : Nat} (hs : HS g s σ sz H locs) (hI : I n σ) (hl : lv_has ls 8 [(4, .int i), (3, .ref ob), (2, .ref mb), (1, .ref xb), (0, .ref b)]) (hc : cells + 5 ≤ room_1.cells) (hS : slots + 2048 ≤ room_1.slots) {Q : State → Prop}
    (kk : ∀ (σ : Sto) (sz : Nat) (H : Heap) (locs : List Loc) (ls : Array Slot), HS g s σ sz H locs → I (n + 1) σ → lv_has ls 8 [(4, .int i), (3, .ref ob), (2, .ref mb), (1, .ref xb), (0, .ref b)] → W p l e room_1 s m args below meth c H locs (cells + 5) (slots + 2048) Q (F0 m 3547 ls [])) : W p l e room_1 s m args below meth c H locs cells slots Q (F0 m 1716 ls []) := by
  refine lv_aload_n C.1 C.2.1 dL_law_1716 rfl (lv_at hl 3 rfl) ?_
  refine lv_aload_n C.1 C.2.1 dL_law_1717 rfl (lv_at hl 4 rfl) ?_
  refine lv_iload C.1 C.2.1 dL_law_1718 (lv_at hl 0 rfl) ?_
  refine lv_iconst (v := 1) C.1 C.2.1 dL_law_1720 (by decide) ?_
  refine lv_iadd C.1 C.2.1 dL_law_1721 ?_
  refine va_sld C.1 C.2.1 hX hbl hbA hs.2.2 hi1 dL_law_1722 ?_
  refine lv_aload_n C.1 C.2.1 dL_law_1723 rfl (lv_at hl 4 rfl) ?_
  refine lv_iload C.1 C.2.1 dL_law_1724 (lv_at hl 0 rfl) ?_
  refine lv_iconst (v := 2) C.1 C.2.1 dL_law_1726 (by decide) ?_
  refine lv_iadd C.1 C.2.1 dL_law_1727 ?_
  refine va_sld C.1 C.2.1 hX hbl hbA hs.2.2 hi2 dL_law_1728 ?_
  refine lv_aload_n C.1 C.2.1 dL_law_1729 rfl (lv_at hl 4 rfl) ?_
  refine lv_iload C.1 C.2.1 dL_law_1730 (lv_at hl 0 rfl) ?_
  refine lv_iconst (v := 3) C.1 C.2.1 dL_law_1732 (by decide) ?_
  refine lv_iadd C.1 C.2.1 dL_law_1733 ?_
  refine va_sld C.1 C.2.1 hX hbl hbA hs.2.2 hi3 dL_law_1734 ?_
  refine lv_i2l (v := Int32.toInt64 (xs (i + 3).toNatClampNeg)) C.1 C.2.1 dL_law_1735 rfl ?_
  refine lv_bipush (v := 32) C.1 C.2.1 dL_law_1736 (by decide) ?_
  refine lv_lshl (v := (Int32.toInt64 (xs (i + 3).toNatClampNeg)) <<< (Int32.toInt64 32 &&& 63)) C.1 C.2.1 dL_law_1738 rfl ?_
  refine lv_aload_n C.1 C.2.1 dL_law_1739 rfl (lv_at hl 4 rfl) ?_
  refine lv_iload C.1 C.2.1 dL_law_1740 (lv_at hl 0 rfl) ?_
  refine lv_iconst (v := 4) C.1 C.2.1 dL_law_1742 (by decide) ?_
  refine lv_iadd C.1 C.2.1 dL_law_1743 ?_
  refine va_sld C.1 C.2.1 hX hbl hbA hs.2.2 hi4 dL_law_1744 ?_
  refine lv_i2l (v := Int32.toInt64 (xs (i + 4).toNatClampNeg)) C.1 C.2.1 dL_law_1745 rfl ?_
  refine lv_ldc2 (v := 4294967295) C.1 C.2.1 C.2.2.2.1 (C.2.2.2.2.1.1 _ q1898 _) dL_law_1746 ?_
  refine lv_land C.1 C.2.1 dL_law_1749 ?_
  refine lv_lor C.1 C.2.1 dL_law_1750 ?_
  refine lv_aload_n C.1 C.2.1 dL_law_1751 rfl (lv_at hl 1 rfl) ?_
  obtain ⟨k1, σ2, z3, r4, σ5, g1, g2, g3, g4, g5, g6, hI⟩ := A (xs (i + 1).toNatClampNeg) (xs (i + 2).toNatClampNeg) (((Int32.toInt64 (xs (i + 3).toNatClampNeg)) <<< (Int32.toInt64 32 &&& 63)) ||| ((Int32.toInt64 (xs (i + 4).toNatClampNeg)) &&& 4294967295)) _ _ _ hn hI (HS.fr hs)
  have g1 : f_L_lost σ sz xb (xs (i + 1).toNatClampNeg) (xs (i + 2).toNatClampNeg) (((Int32.toInt64 (xs (i + 3).toNatClampNeg)) <<< (Int32.toInt64 32 &&& 63)) ||| ((Int32.toInt64 (xs (i + 4).toNatClampNeg)) &&& 4294967295)) ob = some (k1, σ2, z3) := g1
  refine sx_callSW (As := [.ref xb, .int (xs (i + 1).toNatClampNeg), .int (xs (i + 2).toNatClampNeg), .long (((Int32.toInt64 (xs (i + 3).toNatClampNeg)) <<< (Int32.toInt64 32 &&& 63)) ||| ((Int32.toInt64 (xs (i + 4).toNatClampNeg)) &&& 4294967295)), .ref ob]) (rest := []) C hs (c_L_lost hfl g1) mo_L_lost q921 rfl hl.1 ⟨⟨(Nat.le_of_ble_eq_true rfl), (Nat.le_of_ble_eq_true rfl)⟩, by omega, by omega⟩ rfl (Nat.le_of_ble_eq_true rfl) dL_law_1752 (fun z6 _ H locs hs => ?_)
  refine W.eq (g2 := F0 m 1755 ls [.int k1]) rfl ?_
  refine lv_istore (lv' := [(5, .int k1), (4, .int i), (3, .ref ob), (2, .ref mb), (1, .ref xb), (0, .ref b)]) C.1 C.2.1 dL_law_1755 hl (by decide) rfl (fun ls hl => ?_)
  refine lv_aload_n C.1 C.2.1 dL_law_1757 rfl (lv_at hl 3 rfl) ?_
  refine lv_aload_n C.1 C.2.1 dL_law_1758 rfl (lv_at hl 5 rfl) ?_
  refine lv_iload C.1 C.2.1 dL_law_1759 (lv_at hl 1 rfl) ?_
  refine lv_iconst (v := 1) C.1 C.2.1 dL_law_1761 (by decide) ?_
  refine lv_iadd C.1 C.2.1 dL_law_1762 ?_
  refine va_sld C.1 C.2.1 hX hbl hbA hs.2.2 hi1 dL_law_1763 ?_
  refine lv_aload_n C.1 C.2.1 dL_law_1764 rfl (lv_at hl 5 rfl) ?_
  refine lv_iload C.1 C.2.1 dL_law_1765 (lv_at hl 1 rfl) ?_
  refine lv_iconst (v := 2) C.1 C.2.1 dL_law_1767 (by decide) ?_
  refine lv_iadd C.1 C.2.1 dL_law_1768 ?_
  refine va_sld C.1 C.2.1 hX hbl hbA hs.2.2 hi2 dL_law_1769 ?_
  refine lv_aload_n C.1 C.2.1 dL_law_1770 rfl (lv_at hl 5 rfl) ?_
  refine lv_iload C.1 C.2.1 dL_law_1771 (lv_at hl 1 rfl) ?_
  refine lv_iconst (v := 3) C.1 C.2.1 dL_law_1773 (by decide) ?_
  refine lv_iadd C.1 C.2.1 dL_law_1774 ?_
  refine va_sld C.1 C.2.1 hX hbl hbA hs.2.2 hi3 dL_law_1775 ?_
  refine lv_i2l (v := Int32.toInt64 (xs (i + 3).toNatClampNeg)) C.1 C.2.1 dL_law_1776 rfl ?_
  refine lv_bipush (v := 32) C.1 C.2.1 dL_law_1777 (by decide) ?_
  refine lv_lshl (v := (Int32.toInt64 (xs (i + 3).toNatClampNeg)) <<< (Int32.toInt64 32 &&& 63)) C.1 C.2.1 dL_law_1779 rfl ?_
  refine lv_aload_n C.1 C.2.1 dL_law_1780 rfl (lv_at hl 5 rfl) ?_
  refine lv_iload C.1 C.2.1 dL_law_1781 (lv_at hl 1 rfl) ?_
  refine lv_iconst (v := 4) C.1 C.2.1 dL_law_1783 (by decide) ?_
  refine lv_iadd C.1 C.2.1 dL_law_1784 ?_
  refine va_sld C.1 C.2.1 hX hbl hbA hs.2.2 hi4 dL_law_1785 ?_
  refine lv_i2l (v := Int32.toInt64 (xs (i + 4).toNatClampNeg)) C.1 C.2.1 dL_law_1786 rfl ?_
  refine lv_ldc2 (v := 4294967295) C.1 C.2.1 C.2.2.2.1 (C.2.2.2.2.1.1 _ q1898 _) dL_law_1787 ?_
  refine lv_land C.1 C.2.1 dL_law_1790 ?_
  refine lv_lor C.1 C.2.1 dL_law_1791 ?_
  have g3 : f_X12_lost N σ2 mb (xs (i + 1).toNatClampNeg) (xs (i + 2).toNatClampNeg) (((Int32.toInt64 (xs (i + 3).toNatClampNeg)) <<< (Int32.toInt64 32 &&& 63)) ||| ((Int32.toInt64 (xs (i + 4).toNatClampNeg)) &&& 4294967295)) = some (r4, σ5) := g3
  refine sx_callV (As := [.int (xs (i + 1).toNatClampNeg), .int (xs (i + 2).toNatClampNeg), .long (((Int32.toInt64 (xs (i + 3).toNatClampNeg)) <<< (Int32.toInt64 32 &&& 63)) ||| ((Int32.toInt64 (xs (i + 4).toNatClampNeg)) &&& 4294967295))]) (rest := []) C hs (c_X12_lost g3) mo_X12_lost q1744 g2 rfl rfl hl.1 ⟨⟨(Nat.le_of_ble_eq_true rfl), (Nat.le_of_ble_eq_true rfl)⟩, by omega, by omega⟩ rfl (Nat.le_of_ble_eq_true rfl) dL_law_1792 (fun H locs hs => ?_)
  refine W.eq (g2 := F0 m 1795 ls [.long r4]) rfl ?_
  refine lv_lstore (lv' := [(6, .long r4), (5, .int k1), (4, .int i), (3, .ref ob), (2, .ref mb), (1, .ref xb), (0, .ref b)]) C.1 C.2.1 dL_law_1795 hl (by decide) rfl (fun ls hl => ?_)
  refine lv_aload_n C.1 C.2.1 dL_law_1797 rfl (lv_at hl 4 rfl) ?_
  refine sx_callV (As := []) (rest := []) C hs (c_X12_thrown g5) mo_X12_thrown q1511 g4 rfl rfl hl.1 ⟨⟨(Nat.le_of_ble_eq_true rfl), (Nat.le_of_ble_eq_true rfl)⟩, by omega, by omega⟩ rfl (Nat.le_of_ble_eq_true rfl) dL_law_1798 (fun H locs hs => ?_)
  refine W.eq (g2 := F0 m 1801 ls [.int k1]) rfl ?_
  refine lv_iload C.1 C.2.1 dL_law_1801 (lv_at hl 1 rfl) ?_
  refine lv_icmp_eq (tgt := 1808) C.1 C.2.1 dL_law_1803 (by decide) (fun c7 => ?_) (fun c7 => absurd rfl c7)
  refine lv_iload C.1 C.2.1 dL_law_1808 (lv_at hl 1 rfl) ?_
  refine lv_if_ne (tgt := 1824) C.1 C.2.1 dL_law_1810 (by decide) (fun c8 => ?_) (fun c8 => ?_)
  · refine lv_goto (tgt := 3547) C.1 C.2.1 dL_law_1824 (by decide) ?_
    refine W.widen (k := cells + 5) (n := slots + 2048) (by omega) (by omega) ?_
    exact kk _ _ _ _ _ hs hI (lv_sub hl [2, 3, 4, 5, 6] rfl)
  · refine lv_aload_n C.1 C.2.1 dL_law_1813 rfl (lv_at hl 3 rfl) ?_
    refine lv_iconst (v := 0) C.1 C.2.1 dL_law_1814 (by decide) ?_
    have g7 : aL σ5 ob 2 0 = some (r4) := g6 c8
    refine sx_lald C hs g7 dL_law_1815 ?_
    refine lv_lload C.1 C.2.1 dL_law_1816 (lv_at hl 0 rfl) ?_
    refine W.lcmp C.1 C.2.1 dL_law_1818 ?_
    refine lv_if_eq (tgt := 1824) C.1 C.2.1 dL_law_1819 (by decide) (fun c9 => ?_) (fun c9 => absurd ((lg_cmp_eq _ _).mpr rfl) c9)
    refine lv_goto (tgt := 3547) C.1 C.2.1 dL_law_1824 (by decide) ?_
    refine W.widen (k := cells + 5) (n := slots + 2048) (by omega) (by omega) ?_
    exact kk _ _ _ _ _ hs hI (lv_sub hl [2, 3, 4, 5, 6] rfl)
def A_setTax (I : Nat → Sto → Prop) (N xb mb ob : Nat) : Prop := ∀ (v1 : Int32) (v2 : Int32) (v3 : Int32), Ag I mb ob (fun x : Int32 => x.toInt64) (fun σ sz => f_L_setTax N σ sz xb v1 v2 v3 ob) (fun σ => f_X12_setTax N σ mb v1 v2 v3)
set_option maxHeartbeats 4000000 in
set_option maxRecDepth 100000 in
theorem lc_setTax {l : Launch} (hfl : l.stackTraces = false) {g : PP} {p : Program} {e : Env} {s : State} {m : MethodId} {args : Array Value} {below : List Frame} {meth : Method} {c : Code} {N : Nat} {I : Nat → Sto → Prop} {n : Nat} (hn : n < 512) {xs : Nat → Int32} {b L xb mb ob : Nat} {i : Int32} (C : Cx g p s m meth c cL_law 8 "TillhouseLaw") (hX : va_X b L xs s s.heap) (hbl : b < s.heap.size) (hbA : ¬ Aw g b) (hi0 : vp_in i L) (hi1 : vp_in (i + 1) L) (hi2 : vp_in (i + 2) L) (hi3 : vp_in (i + 3) L) (hi4 : vp_in (i + 4) L) (hi5 : vp_in (i + 5) L) (hi6 : vp_in (i + 6) L)
    (A : A_setTax I N xb mb ob) {σ : Sto} {sz : Nat} {H : Heap} {locs : List Loc} {ls : Array Slot} {cells slots : Nat} (hs : HS g s σ sz H locs) (hI : I n σ) (hl : lv_has ls 8 [(4, .int i), (3, .ref ob), (2, .ref mb), (1, .ref xb), (0, .ref b)]) (hc : cells + 5 ≤ room_1.cells) (hS : slots + 2048 ≤ room_1.slots) {Q : State → Prop}
    (kk : ∀ (σ : Sto) (sz : Nat) (H : Heap) (locs : List Loc) (ls : Array Slot), HS g s σ sz H locs → I (n + 1) σ → lv_has ls 8 [(4, .int i), (3, .ref ob), (2, .ref mb), (1, .ref xb), (0, .ref b)] → W p l e room_1 s m args below meth c H locs (cells + 5) (slots + 2048) Q (F0 m 3547 ls [])) : W p l e room_1 s m args below meth c H locs cells slots Q (F0 m 1827 ls []) := by
  refine lv_aload_n C.1 C.2.1 dL_law_1827 rfl (lv_at hl 3 rfl) ?_
  refine lv_aload_n C.1 C.2.1 dL_law_1828 rfl (lv_at hl 4 rfl) ?_
  refine lv_iload C.1 C.2.1 dL_law_1829 (lv_at hl 0 rfl) ?_
  refine lv_iconst (v := 1) C.1 C.2.1 dL_law_1831 (by decide) ?_
  refine lv_iadd C.1 C.2.1 dL_law_1832 ?_
  refine va_sld C.1 C.2.1 hX hbl hbA hs.2.2 hi1 dL_law_1833 ?_
  refine lv_aload_n C.1 C.2.1 dL_law_1834 rfl (lv_at hl 4 rfl) ?_
  refine lv_iload C.1 C.2.1 dL_law_1835 (lv_at hl 0 rfl) ?_
  refine lv_iconst (v := 2) C.1 C.2.1 dL_law_1837 (by decide) ?_
  refine lv_iadd C.1 C.2.1 dL_law_1838 ?_
  refine va_sld C.1 C.2.1 hX hbl hbA hs.2.2 hi2 dL_law_1839 ?_
  refine lv_aload_n C.1 C.2.1 dL_law_1840 rfl (lv_at hl 4 rfl) ?_
  refine lv_iload C.1 C.2.1 dL_law_1841 (lv_at hl 0 rfl) ?_
  refine lv_iconst (v := 3) C.1 C.2.1 dL_law_1843 (by decide) ?_
  refine lv_iadd C.1 C.2.1 dL_law_1844 ?_
  refine va_sld C.1 C.2.1 hX hbl hbA hs.2.2 hi3 dL_law_1845 ?_
  refine lv_aload_n C.1 C.2.1 dL_law_1846 rfl (lv_at hl 1 rfl) ?_
  obtain ⟨k1, σ2, z3, r4, σ5, g1, g2, g3, g4, g5, g6, hI⟩ := A (xs (i + 1).toNatClampNeg) (xs (i + 2).toNatClampNeg) (xs (i + 3).toNatClampNeg) _ _ _ hn hI (HS.fr hs)
  have g1 : f_L_setTax N σ sz xb (xs (i + 1).toNatClampNeg) (xs (i + 2).toNatClampNeg) (xs (i + 3).toNatClampNeg) ob = some (k1, σ2, z3) := g1
  refine sx_callSW (As := [.ref xb, .int (xs (i + 1).toNatClampNeg), .int (xs (i + 2).toNatClampNeg), .int (xs (i + 3).toNatClampNeg), .ref ob]) (rest := []) C hs (c_L_setTax hfl g1) mo_L_setTax q932 rfl hl.1 ⟨⟨(Nat.le_of_ble_eq_true rfl), (Nat.le_of_ble_eq_true rfl)⟩, by omega, by omega⟩ rfl (Nat.le_of_ble_eq_true rfl) dL_law_1847 (fun z6 _ H locs hs => ?_)
  refine W.eq (g2 := F0 m 1850 ls [.int k1]) rfl ?_
  refine lv_istore (lv' := [(5, .int k1), (4, .int i), (3, .ref ob), (2, .ref mb), (1, .ref xb), (0, .ref b)]) C.1 C.2.1 dL_law_1850 hl (by decide) rfl (fun ls hl => ?_)
  refine lv_aload_n C.1 C.2.1 dL_law_1852 rfl (lv_at hl 3 rfl) ?_
  refine lv_aload_n C.1 C.2.1 dL_law_1853 rfl (lv_at hl 5 rfl) ?_
  refine lv_iload C.1 C.2.1 dL_law_1854 (lv_at hl 1 rfl) ?_
  refine lv_iconst (v := 1) C.1 C.2.1 dL_law_1856 (by decide) ?_
  refine lv_iadd C.1 C.2.1 dL_law_1857 ?_
  refine va_sld C.1 C.2.1 hX hbl hbA hs.2.2 hi1 dL_law_1858 ?_
  refine lv_aload_n C.1 C.2.1 dL_law_1859 rfl (lv_at hl 5 rfl) ?_
  refine lv_iload C.1 C.2.1 dL_law_1860 (lv_at hl 1 rfl) ?_
  refine lv_iconst (v := 2) C.1 C.2.1 dL_law_1862 (by decide) ?_
  refine lv_iadd C.1 C.2.1 dL_law_1863 ?_
  refine va_sld C.1 C.2.1 hX hbl hbA hs.2.2 hi2 dL_law_1864 ?_
  refine lv_aload_n C.1 C.2.1 dL_law_1865 rfl (lv_at hl 5 rfl) ?_
  refine lv_iload C.1 C.2.1 dL_law_1866 (lv_at hl 1 rfl) ?_
  refine lv_iconst (v := 3) C.1 C.2.1 dL_law_1868 (by decide) ?_
  refine lv_iadd C.1 C.2.1 dL_law_1869 ?_
  refine va_sld C.1 C.2.1 hX hbl hbA hs.2.2 hi3 dL_law_1870 ?_
  have g3 : f_X12_setTax N σ2 mb (xs (i + 1).toNatClampNeg) (xs (i + 2).toNatClampNeg) (xs (i + 3).toNatClampNeg) = some (r4, σ5) := g3
  refine sx_callV (As := [.int (xs (i + 1).toNatClampNeg), .int (xs (i + 2).toNatClampNeg), .int (xs (i + 3).toNatClampNeg)]) (rest := []) C hs (c_X12_setTax g3) mo_X12_setTax q1748 g2 rfl rfl hl.1 ⟨⟨(Nat.le_of_ble_eq_true rfl), (Nat.le_of_ble_eq_true rfl)⟩, by omega, by omega⟩ rfl (Nat.le_of_ble_eq_true rfl) dL_law_1871 (fun H locs hs => ?_)
  refine W.eq (g2 := F0 m 1874 ls [.int r4]) rfl ?_
  refine lv_istore (lv' := [(6, .int r4), (5, .int k1), (4, .int i), (3, .ref ob), (2, .ref mb), (1, .ref xb), (0, .ref b)]) C.1 C.2.1 dL_law_1874 hl (by decide) rfl (fun ls hl => ?_)
  refine lv_aload_n C.1 C.2.1 dL_law_1876 rfl (lv_at hl 4 rfl) ?_
  refine sx_callV (As := []) (rest := []) C hs (c_X12_thrown g5) mo_X12_thrown q1511 g4 rfl rfl hl.1 ⟨⟨(Nat.le_of_ble_eq_true rfl), (Nat.le_of_ble_eq_true rfl)⟩, by omega, by omega⟩ rfl (Nat.le_of_ble_eq_true rfl) dL_law_1877 (fun H locs hs => ?_)
  refine W.eq (g2 := F0 m 1880 ls [.int k1]) rfl ?_
  refine lv_iload C.1 C.2.1 dL_law_1880 (lv_at hl 1 rfl) ?_
  refine lv_icmp_eq (tgt := 1887) C.1 C.2.1 dL_law_1882 (by decide) (fun c7 => ?_) (fun c7 => absurd rfl c7)
  refine lv_iload C.1 C.2.1 dL_law_1887 (lv_at hl 1 rfl) ?_
  refine lv_if_ne (tgt := 1904) C.1 C.2.1 dL_law_1889 (by decide) (fun c8 => ?_) (fun c8 => ?_)
  · refine lv_goto (tgt := 3547) C.1 C.2.1 dL_law_1904 (by decide) ?_
    refine W.widen (k := cells + 5) (n := slots + 2048) (by omega) (by omega) ?_
    exact kk _ _ _ _ _ hs hI (lv_sub hl [2, 3, 4, 5, 6] rfl)
  · refine lv_aload_n C.1 C.2.1 dL_law_1892 rfl (lv_at hl 3 rfl) ?_
    refine lv_iconst (v := 0) C.1 C.2.1 dL_law_1893 (by decide) ?_
    have g7 : aL σ5 ob 2 0 = some (Int32.toInt64 r4) := g6 c8
    refine sx_lald C hs g7 dL_law_1894 ?_
    refine lv_iload C.1 C.2.1 dL_law_1895 (lv_at hl 0 rfl) ?_
    refine lv_i2l (v := Int32.toInt64 r4) C.1 C.2.1 dL_law_1897 rfl ?_
    refine W.lcmp C.1 C.2.1 dL_law_1898 ?_
    refine lv_if_eq (tgt := 1904) C.1 C.2.1 dL_law_1899 (by decide) (fun c9 => ?_) (fun c9 => absurd ((lg_cmp_eq _ _).mpr rfl) c9)
    refine lv_goto (tgt := 3547) C.1 C.2.1 dL_law_1904 (by decide) ?_
    refine W.widen (k := cells + 5) (n := slots + 2048) (by omega) (by omega) ?_
    exact kk _ _ _ _ _ hs hI (lv_sub hl [2, 3, 4, 5, 6] rfl)
def A_tax (I : Nat → Sto → Prop) (N xb mb ob : Nat) : Prop := ∀ (v1 : Int32) (v2 : Int32), Ag I mb ob (fun x : Int32 => x.toInt64) (fun σ sz => f_L_tax N σ sz xb v1 v2 ob) (fun σ => f_X12_tax N σ mb v1 v2)
set_option maxHeartbeats 4000000 in
set_option maxRecDepth 100000 in
theorem lc_tax {l : Launch} (hfl : l.stackTraces = false) {g : PP} {p : Program} {e : Env} {s : State} {m : MethodId} {args : Array Value} {below : List Frame} {meth : Method} {c : Code} {N : Nat} {I : Nat → Sto → Prop} {n : Nat} (hn : n < 512) {xs : Nat → Int32} {b L xb mb ob : Nat} {i : Int32} (C : Cx g p s m meth c cL_law 8 "TillhouseLaw") (hX : va_X b L xs s s.heap) (hbl : b < s.heap.size) (hbA : ¬ Aw g b) (hi0 : vp_in i L) (hi1 : vp_in (i + 1) L) (hi2 : vp_in (i + 2) L) (hi3 : vp_in (i + 3) L) (hi4 : vp_in (i + 4) L) (hi5 : vp_in (i + 5) L) (hi6 : vp_in (i + 6) L)
    (A : A_tax I N xb mb ob) {σ : Sto} {sz : Nat} {H : Heap} {locs : List Loc} {ls : Array Slot} {cells slots : Nat} (hs : HS g s σ sz H locs) (hI : I n σ) (hl : lv_has ls 8 [(4, .int i), (3, .ref ob), (2, .ref mb), (1, .ref xb), (0, .ref b)]) (hc : cells + 5 ≤ room_1.cells) (hS : slots + 2048 ≤ room_1.slots) {Q : State → Prop}
    (kk : ∀ (σ : Sto) (sz : Nat) (H : Heap) (locs : List Loc) (ls : Array Slot), HS g s σ sz H locs → I (n + 1) σ → lv_has ls 8 [(4, .int i), (3, .ref ob), (2, .ref mb), (1, .ref xb), (0, .ref b)] → W p l e room_1 s m args below meth c H locs (cells + 5) (slots + 2048) Q (F0 m 3547 ls [])) : W p l e room_1 s m args below meth c H locs cells slots Q (F0 m 1907 ls []) := by
  refine lv_aload_n C.1 C.2.1 dL_law_1907 rfl (lv_at hl 3 rfl) ?_
  refine lv_aload_n C.1 C.2.1 dL_law_1908 rfl (lv_at hl 4 rfl) ?_
  refine lv_iload C.1 C.2.1 dL_law_1909 (lv_at hl 0 rfl) ?_
  refine lv_iconst (v := 1) C.1 C.2.1 dL_law_1911 (by decide) ?_
  refine lv_iadd C.1 C.2.1 dL_law_1912 ?_
  refine va_sld C.1 C.2.1 hX hbl hbA hs.2.2 hi1 dL_law_1913 ?_
  refine lv_aload_n C.1 C.2.1 dL_law_1914 rfl (lv_at hl 4 rfl) ?_
  refine lv_iload C.1 C.2.1 dL_law_1915 (lv_at hl 0 rfl) ?_
  refine lv_iconst (v := 2) C.1 C.2.1 dL_law_1917 (by decide) ?_
  refine lv_iadd C.1 C.2.1 dL_law_1918 ?_
  refine va_sld C.1 C.2.1 hX hbl hbA hs.2.2 hi2 dL_law_1919 ?_
  refine lv_aload_n C.1 C.2.1 dL_law_1920 rfl (lv_at hl 1 rfl) ?_
  obtain ⟨k1, σ2, z3, r4, σ5, g1, g2, g3, g4, g5, g6, hI⟩ := A (xs (i + 1).toNatClampNeg) (xs (i + 2).toNatClampNeg) _ _ _ hn hI (HS.fr hs)
  have g1 : f_L_tax N σ sz xb (xs (i + 1).toNatClampNeg) (xs (i + 2).toNatClampNeg) ob = some (k1, σ2, z3) := g1
  refine sx_callSW (As := [.ref xb, .int (xs (i + 1).toNatClampNeg), .int (xs (i + 2).toNatClampNeg), .ref ob]) (rest := []) C hs (c_L_tax hfl g1) mo_L_tax q973 rfl hl.1 ⟨⟨(Nat.le_of_ble_eq_true rfl), (Nat.le_of_ble_eq_true rfl)⟩, by omega, by omega⟩ rfl (Nat.le_of_ble_eq_true rfl) dL_law_1921 (fun z6 _ H locs hs => ?_)
  refine W.eq (g2 := F0 m 1924 ls [.int k1]) rfl ?_
  refine lv_istore (lv' := [(5, .int k1), (4, .int i), (3, .ref ob), (2, .ref mb), (1, .ref xb), (0, .ref b)]) C.1 C.2.1 dL_law_1924 hl (by decide) rfl (fun ls hl => ?_)
  refine lv_aload_n C.1 C.2.1 dL_law_1926 rfl (lv_at hl 3 rfl) ?_
  refine lv_aload_n C.1 C.2.1 dL_law_1927 rfl (lv_at hl 5 rfl) ?_
  refine lv_iload C.1 C.2.1 dL_law_1928 (lv_at hl 1 rfl) ?_
  refine lv_iconst (v := 1) C.1 C.2.1 dL_law_1930 (by decide) ?_
  refine lv_iadd C.1 C.2.1 dL_law_1931 ?_
  refine va_sld C.1 C.2.1 hX hbl hbA hs.2.2 hi1 dL_law_1932 ?_
  refine lv_aload_n C.1 C.2.1 dL_law_1933 rfl (lv_at hl 5 rfl) ?_
  refine lv_iload C.1 C.2.1 dL_law_1934 (lv_at hl 1 rfl) ?_
  refine lv_iconst (v := 2) C.1 C.2.1 dL_law_1936 (by decide) ?_
  refine lv_iadd C.1 C.2.1 dL_law_1937 ?_
  refine va_sld C.1 C.2.1 hX hbl hbA hs.2.2 hi2 dL_law_1938 ?_
  have g3 : f_X12_tax N σ2 mb (xs (i + 1).toNatClampNeg) (xs (i + 2).toNatClampNeg) = some (r4, σ5) := g3
  refine sx_callV (As := [.int (xs (i + 1).toNatClampNeg), .int (xs (i + 2).toNatClampNeg)]) (rest := []) C hs (c_X12_tax g3) mo_X12_tax q1760 g2 rfl rfl hl.1 ⟨⟨(Nat.le_of_ble_eq_true rfl), (Nat.le_of_ble_eq_true rfl)⟩, by omega, by omega⟩ rfl (Nat.le_of_ble_eq_true rfl) dL_law_1939 (fun H locs hs => ?_)
  refine W.eq (g2 := F0 m 1942 ls [.int r4]) rfl ?_
  refine lv_istore (lv' := [(6, .int r4), (5, .int k1), (4, .int i), (3, .ref ob), (2, .ref mb), (1, .ref xb), (0, .ref b)]) C.1 C.2.1 dL_law_1942 hl (by decide) rfl (fun ls hl => ?_)
  refine lv_aload_n C.1 C.2.1 dL_law_1944 rfl (lv_at hl 4 rfl) ?_
  refine sx_callV (As := []) (rest := []) C hs (c_X12_thrown g5) mo_X12_thrown q1511 g4 rfl rfl hl.1 ⟨⟨(Nat.le_of_ble_eq_true rfl), (Nat.le_of_ble_eq_true rfl)⟩, by omega, by omega⟩ rfl (Nat.le_of_ble_eq_true rfl) dL_law_1945 (fun H locs hs => ?_)
  refine W.eq (g2 := F0 m 1948 ls [.int k1]) rfl ?_
  refine lv_iload C.1 C.2.1 dL_law_1948 (lv_at hl 1 rfl) ?_
  refine lv_icmp_eq (tgt := 1955) C.1 C.2.1 dL_law_1950 (by decide) (fun c7 => ?_) (fun c7 => absurd rfl c7)
  refine lv_iload C.1 C.2.1 dL_law_1955 (lv_at hl 1 rfl) ?_
  refine lv_if_ne (tgt := 1972) C.1 C.2.1 dL_law_1957 (by decide) (fun c8 => ?_) (fun c8 => ?_)
  · refine lv_goto (tgt := 3547) C.1 C.2.1 dL_law_1972 (by decide) ?_
    refine W.widen (k := cells + 5) (n := slots + 2048) (by omega) (by omega) ?_
    exact kk _ _ _ _ _ hs hI (lv_sub hl [2, 3, 4, 5, 6] rfl)
  · refine lv_aload_n C.1 C.2.1 dL_law_1960 rfl (lv_at hl 3 rfl) ?_
    refine lv_iconst (v := 0) C.1 C.2.1 dL_law_1961 (by decide) ?_
    have g7 : aL σ5 ob 2 0 = some (Int32.toInt64 r4) := g6 c8
    refine sx_lald C hs g7 dL_law_1962 ?_
    refine lv_iload C.1 C.2.1 dL_law_1963 (lv_at hl 0 rfl) ?_
    refine lv_i2l (v := Int32.toInt64 r4) C.1 C.2.1 dL_law_1965 rfl ?_
    refine W.lcmp C.1 C.2.1 dL_law_1966 ?_
    refine lv_if_eq (tgt := 1972) C.1 C.2.1 dL_law_1967 (by decide) (fun c9 => ?_) (fun c9 => absurd ((lg_cmp_eq _ _).mpr rfl) c9)
    refine lv_goto (tgt := 3547) C.1 C.2.1 dL_law_1972 (by decide) ?_
    refine W.widen (k := cells + 5) (n := slots + 2048) (by omega) (by omega) ?_
    exact kk _ _ _ _ _ hs hI (lv_sub hl [2, 3, 4, 5, 6] rfl)
def A_setDiscount (I : Nat → Sto → Prop) (N xb mb ob : Nat) : Prop := ∀ (v1 : Int32) (v2 : Int32) (v3 : Int32), Ag I mb ob (fun x : Int32 => x.toInt64) (fun σ sz => f_L_setDiscount N σ sz xb v1 v2 v3 ob) (fun σ => f_X12_setDiscount N σ mb v1 v2 v3)
set_option maxHeartbeats 4000000 in
set_option maxRecDepth 100000 in
theorem lc_setDiscount {l : Launch} (hfl : l.stackTraces = false) {g : PP} {p : Program} {e : Env} {s : State} {m : MethodId} {args : Array Value} {below : List Frame} {meth : Method} {c : Code} {N : Nat} {I : Nat → Sto → Prop} {n : Nat} (hn : n < 512) {xs : Nat → Int32} {b L xb mb ob : Nat} {i : Int32} (C : Cx g p s m meth c cL_law 8 "TillhouseLaw") (hX : va_X b L xs s s.heap) (hbl : b < s.heap.size) (hbA : ¬ Aw g b) (hi0 : vp_in i L) (hi1 : vp_in (i + 1) L) (hi2 : vp_in (i + 2) L) (hi3 : vp_in (i + 3) L) (hi4 : vp_in (i + 4) L) (hi5 : vp_in (i + 5) L) (hi6 : vp_in (i + 6) L)
    (A : A_setDiscount I N xb mb ob) {σ : Sto} {sz : Nat} {H : Heap} {locs : List Loc} {ls : Array Slot} {cells slots : Nat} (hs : HS g s σ sz H locs) (hI : I n σ) (hl : lv_has ls 8 [(4, .int i), (3, .ref ob), (2, .ref mb), (1, .ref xb), (0, .ref b)]) (hc : cells + 5 ≤ room_1.cells) (hS : slots + 2048 ≤ room_1.slots) {Q : State → Prop}
    (kk : ∀ (σ : Sto) (sz : Nat) (H : Heap) (locs : List Loc) (ls : Array Slot), HS g s σ sz H locs → I (n + 1) σ → lv_has ls 8 [(4, .int i), (3, .ref ob), (2, .ref mb), (1, .ref xb), (0, .ref b)] → W p l e room_1 s m args below meth c H locs (cells + 5) (slots + 2048) Q (F0 m 3547 ls [])) : W p l e room_1 s m args below meth c H locs cells slots Q (F0 m 1975 ls []) := by
  refine lv_aload_n C.1 C.2.1 dL_law_1975 rfl (lv_at hl 3 rfl) ?_
  refine lv_aload_n C.1 C.2.1 dL_law_1976 rfl (lv_at hl 4 rfl) ?_
  refine lv_iload C.1 C.2.1 dL_law_1977 (lv_at hl 0 rfl) ?_
  refine lv_iconst (v := 1) C.1 C.2.1 dL_law_1979 (by decide) ?_
  refine lv_iadd C.1 C.2.1 dL_law_1980 ?_
  refine va_sld C.1 C.2.1 hX hbl hbA hs.2.2 hi1 dL_law_1981 ?_
  refine lv_aload_n C.1 C.2.1 dL_law_1982 rfl (lv_at hl 4 rfl) ?_
  refine lv_iload C.1 C.2.1 dL_law_1983 (lv_at hl 0 rfl) ?_
  refine lv_iconst (v := 2) C.1 C.2.1 dL_law_1985 (by decide) ?_
  refine lv_iadd C.1 C.2.1 dL_law_1986 ?_
  refine va_sld C.1 C.2.1 hX hbl hbA hs.2.2 hi2 dL_law_1987 ?_
  refine lv_aload_n C.1 C.2.1 dL_law_1988 rfl (lv_at hl 4 rfl) ?_
  refine lv_iload C.1 C.2.1 dL_law_1989 (lv_at hl 0 rfl) ?_
  refine lv_iconst (v := 3) C.1 C.2.1 dL_law_1991 (by decide) ?_
  refine lv_iadd C.1 C.2.1 dL_law_1992 ?_
  refine va_sld C.1 C.2.1 hX hbl hbA hs.2.2 hi3 dL_law_1993 ?_
  refine lv_aload_n C.1 C.2.1 dL_law_1994 rfl (lv_at hl 1 rfl) ?_
  obtain ⟨k1, σ2, z3, r4, σ5, g1, g2, g3, g4, g5, g6, hI⟩ := A (xs (i + 1).toNatClampNeg) (xs (i + 2).toNatClampNeg) (xs (i + 3).toNatClampNeg) _ _ _ hn hI (HS.fr hs)
  have g1 : f_L_setDiscount N σ sz xb (xs (i + 1).toNatClampNeg) (xs (i + 2).toNatClampNeg) (xs (i + 3).toNatClampNeg) ob = some (k1, σ2, z3) := g1
  refine sx_callSW (As := [.ref xb, .int (xs (i + 1).toNatClampNeg), .int (xs (i + 2).toNatClampNeg), .int (xs (i + 3).toNatClampNeg), .ref ob]) (rest := []) C hs (c_L_setDiscount hfl g1) mo_L_setDiscount q984 rfl hl.1 ⟨⟨(Nat.le_of_ble_eq_true rfl), (Nat.le_of_ble_eq_true rfl)⟩, by omega, by omega⟩ rfl (Nat.le_of_ble_eq_true rfl) dL_law_1995 (fun z6 _ H locs hs => ?_)
  refine W.eq (g2 := F0 m 1998 ls [.int k1]) rfl ?_
  refine lv_istore (lv' := [(5, .int k1), (4, .int i), (3, .ref ob), (2, .ref mb), (1, .ref xb), (0, .ref b)]) C.1 C.2.1 dL_law_1998 hl (by decide) rfl (fun ls hl => ?_)
  refine lv_aload_n C.1 C.2.1 dL_law_2000 rfl (lv_at hl 3 rfl) ?_
  refine lv_aload_n C.1 C.2.1 dL_law_2001 rfl (lv_at hl 5 rfl) ?_
  refine lv_iload C.1 C.2.1 dL_law_2002 (lv_at hl 1 rfl) ?_
  refine lv_iconst (v := 1) C.1 C.2.1 dL_law_2004 (by decide) ?_
  refine lv_iadd C.1 C.2.1 dL_law_2005 ?_
  refine va_sld C.1 C.2.1 hX hbl hbA hs.2.2 hi1 dL_law_2006 ?_
  refine lv_aload_n C.1 C.2.1 dL_law_2007 rfl (lv_at hl 5 rfl) ?_
  refine lv_iload C.1 C.2.1 dL_law_2008 (lv_at hl 1 rfl) ?_
  refine lv_iconst (v := 2) C.1 C.2.1 dL_law_2010 (by decide) ?_
  refine lv_iadd C.1 C.2.1 dL_law_2011 ?_
  refine va_sld C.1 C.2.1 hX hbl hbA hs.2.2 hi2 dL_law_2012 ?_
  refine lv_aload_n C.1 C.2.1 dL_law_2013 rfl (lv_at hl 5 rfl) ?_
  refine lv_iload C.1 C.2.1 dL_law_2014 (lv_at hl 1 rfl) ?_
  refine lv_iconst (v := 3) C.1 C.2.1 dL_law_2016 (by decide) ?_
  refine lv_iadd C.1 C.2.1 dL_law_2017 ?_
  refine va_sld C.1 C.2.1 hX hbl hbA hs.2.2 hi3 dL_law_2018 ?_
  have g3 : f_X12_setDiscount N σ2 mb (xs (i + 1).toNatClampNeg) (xs (i + 2).toNatClampNeg) (xs (i + 3).toNatClampNeg) = some (r4, σ5) := g3
  refine sx_callV (As := [.int (xs (i + 1).toNatClampNeg), .int (xs (i + 2).toNatClampNeg), .int (xs (i + 3).toNatClampNeg)]) (rest := []) C hs (c_X12_setDiscount g3) mo_X12_setDiscount q1771 g2 rfl rfl hl.1 ⟨⟨(Nat.le_of_ble_eq_true rfl), (Nat.le_of_ble_eq_true rfl)⟩, by omega, by omega⟩ rfl (Nat.le_of_ble_eq_true rfl) dL_law_2019 (fun H locs hs => ?_)
  refine W.eq (g2 := F0 m 2022 ls [.int r4]) rfl ?_
  refine lv_istore (lv' := [(6, .int r4), (5, .int k1), (4, .int i), (3, .ref ob), (2, .ref mb), (1, .ref xb), (0, .ref b)]) C.1 C.2.1 dL_law_2022 hl (by decide) rfl (fun ls hl => ?_)
  refine lv_aload_n C.1 C.2.1 dL_law_2024 rfl (lv_at hl 4 rfl) ?_
  refine sx_callV (As := []) (rest := []) C hs (c_X12_thrown g5) mo_X12_thrown q1511 g4 rfl rfl hl.1 ⟨⟨(Nat.le_of_ble_eq_true rfl), (Nat.le_of_ble_eq_true rfl)⟩, by omega, by omega⟩ rfl (Nat.le_of_ble_eq_true rfl) dL_law_2025 (fun H locs hs => ?_)
  refine W.eq (g2 := F0 m 2028 ls [.int k1]) rfl ?_
  refine lv_iload C.1 C.2.1 dL_law_2028 (lv_at hl 1 rfl) ?_
  refine lv_icmp_eq (tgt := 2035) C.1 C.2.1 dL_law_2030 (by decide) (fun c7 => ?_) (fun c7 => absurd rfl c7)
  refine lv_iload C.1 C.2.1 dL_law_2035 (lv_at hl 1 rfl) ?_
  refine lv_if_ne (tgt := 2052) C.1 C.2.1 dL_law_2037 (by decide) (fun c8 => ?_) (fun c8 => ?_)
  · refine lv_goto (tgt := 3547) C.1 C.2.1 dL_law_2052 (by decide) ?_
    refine W.widen (k := cells + 5) (n := slots + 2048) (by omega) (by omega) ?_
    exact kk _ _ _ _ _ hs hI (lv_sub hl [2, 3, 4, 5, 6] rfl)
  · refine lv_aload_n C.1 C.2.1 dL_law_2040 rfl (lv_at hl 3 rfl) ?_
    refine lv_iconst (v := 0) C.1 C.2.1 dL_law_2041 (by decide) ?_
    have g7 : aL σ5 ob 2 0 = some (Int32.toInt64 r4) := g6 c8
    refine sx_lald C hs g7 dL_law_2042 ?_
    refine lv_iload C.1 C.2.1 dL_law_2043 (lv_at hl 0 rfl) ?_
    refine lv_i2l (v := Int32.toInt64 r4) C.1 C.2.1 dL_law_2045 rfl ?_
    refine W.lcmp C.1 C.2.1 dL_law_2046 ?_
    refine lv_if_eq (tgt := 2052) C.1 C.2.1 dL_law_2047 (by decide) (fun c9 => ?_) (fun c9 => absurd ((lg_cmp_eq _ _).mpr rfl) c9)
    refine lv_goto (tgt := 3547) C.1 C.2.1 dL_law_2052 (by decide) ?_
    refine W.widen (k := cells + 5) (n := slots + 2048) (by omega) (by omega) ?_
    exact kk _ _ _ _ _ hs hI (lv_sub hl [2, 3, 4, 5, 6] rfl)
def A_open (I : Nat → Sto → Prop) (N xb mb ob : Nat) : Prop := ∀ (v1 : Int32) (v2 : Int32) (v3 : Int32), (v3 = 0 ∨ v3 = 1) → Ag I mb ob (fun x : Int32 => x.toInt64) (fun σ sz => f_L_open σ sz xb v1 v2 v3 ob) (fun σ => f_X12_open σ mb v1 v2 v3)
set_option maxHeartbeats 4000000 in
set_option maxRecDepth 100000 in
theorem lc_open {l : Launch} (hfl : l.stackTraces = false) {g : PP} {p : Program} {e : Env} {s : State} {m : MethodId} {args : Array Value} {below : List Frame} {meth : Method} {c : Code} {N : Nat} {I : Nat → Sto → Prop} {n : Nat} (hn : n < 512) {xs : Nat → Int32} {b L xb mb ob : Nat} {i : Int32} (C : Cx g p s m meth c cL_law 8 "TillhouseLaw") (hX : va_X b L xs s s.heap) (hbl : b < s.heap.size) (hbA : ¬ Aw g b) (hi0 : vp_in i L) (hi1 : vp_in (i + 1) L) (hi2 : vp_in (i + 2) L) (hi3 : vp_in (i + 3) L) (hi4 : vp_in (i + 4) L) (hi5 : vp_in (i + 5) L) (hi6 : vp_in (i + 6) L)
    (A : A_open I N xb mb ob) {σ : Sto} {sz : Nat} {H : Heap} {locs : List Loc} {ls : Array Slot} {cells slots : Nat} (hs : HS g s σ sz H locs) (hI : I n σ) (hl : lv_has ls 8 [(4, .int i), (3, .ref ob), (2, .ref mb), (1, .ref xb), (0, .ref b)]) (hc : cells + 5 ≤ room_1.cells) (hS : slots + 2048 ≤ room_1.slots) {Q : State → Prop}
    (kk : ∀ (σ : Sto) (sz : Nat) (H : Heap) (locs : List Loc) (ls : Array Slot), HS g s σ sz H locs → I (n + 1) σ → lv_has ls 8 [(4, .int i), (3, .ref ob), (2, .ref mb), (1, .ref xb), (0, .ref b)] → W p l e room_1 s m args below meth c H locs (cells + 5) (slots + 2048) Q (F0 m 3547 ls [])) : W p l e room_1 s m args below meth c H locs cells slots Q (F0 m 2055 ls []) := by
  refine lv_aload_n C.1 C.2.1 dL_law_2055 rfl (lv_at hl 3 rfl) ?_
  refine lv_aload_n C.1 C.2.1 dL_law_2056 rfl (lv_at hl 4 rfl) ?_
  refine lv_iload C.1 C.2.1 dL_law_2057 (lv_at hl 0 rfl) ?_
  refine lv_iconst (v := 1) C.1 C.2.1 dL_law_2059 (by decide) ?_
  refine lv_iadd C.1 C.2.1 dL_law_2060 ?_
  refine va_sld C.1 C.2.1 hX hbl hbA hs.2.2 hi1 dL_law_2061 ?_
  refine lv_aload_n C.1 C.2.1 dL_law_2062 rfl (lv_at hl 4 rfl) ?_
  refine lv_iload C.1 C.2.1 dL_law_2063 (lv_at hl 0 rfl) ?_
  refine lv_iconst (v := 2) C.1 C.2.1 dL_law_2065 (by decide) ?_
  refine lv_iadd C.1 C.2.1 dL_law_2066 ?_
  refine va_sld C.1 C.2.1 hX hbl hbA hs.2.2 hi2 dL_law_2067 ?_
  refine lv_aload_n C.1 C.2.1 dL_law_2068 rfl (lv_at hl 4 rfl) ?_
  refine lv_iload C.1 C.2.1 dL_law_2069 (lv_at hl 0 rfl) ?_
  refine lv_iconst (v := 3) C.1 C.2.1 dL_law_2071 (by decide) ?_
  refine lv_iadd C.1 C.2.1 dL_law_2072 ?_
  refine va_sld C.1 C.2.1 hX hbl hbA hs.2.2 hi3 dL_law_2073 ?_
  refine lv_if_eq (tgt := 2081) C.1 C.2.1 dL_law_2074 (by decide) (fun c1 => ?_) (fun c1 => ?_)
  · refine lv_iconst (v := 0) C.1 C.2.1 dL_law_2081 (by decide) ?_
    refine lv_aload_n C.1 C.2.1 dL_law_2082 rfl (lv_at hl 1 rfl) ?_
    obtain ⟨k2, σ3, z4, r5, σ6, g1, g2, g3, g4, g5, g6, hI⟩ := A (xs (i + 1).toNatClampNeg) (xs (i + 2).toNatClampNeg) 0 (Or.inl rfl) _ _ _ hn hI (HS.fr hs)
    have g1 : f_L_open σ sz xb (xs (i + 1).toNatClampNeg) (xs (i + 2).toNatClampNeg) 0 ob = some (k2, σ3, z4) := g1
    refine sx_callSW (As := [.ref xb, .int (xs (i + 1).toNatClampNeg), .int (xs (i + 2).toNatClampNeg), .int 0, .ref ob]) (rest := []) C hs (c_L_open hfl g1) mo_L_open q993 rfl hl.1 ⟨⟨(Nat.le_of_ble_eq_true rfl), (Nat.le_of_ble_eq_true rfl)⟩, by omega, by omega⟩ rfl (Nat.le_of_ble_eq_true rfl) dL_law_2083 (fun z7 _ H locs hs => ?_)
    refine W.eq (g2 := F0 m 2086 ls [.int k2]) rfl ?_
    refine lv_istore (lv' := [(5, .int k2), (4, .int i), (3, .ref ob), (2, .ref mb), (1, .ref xb), (0, .ref b)]) C.1 C.2.1 dL_law_2086 hl (by decide) rfl (fun ls hl => ?_)
    refine lv_aload_n C.1 C.2.1 dL_law_2088 rfl (lv_at hl 3 rfl) ?_
    refine lv_aload_n C.1 C.2.1 dL_law_2089 rfl (lv_at hl 5 rfl) ?_
    refine lv_iload C.1 C.2.1 dL_law_2090 (lv_at hl 1 rfl) ?_
    refine lv_iconst (v := 1) C.1 C.2.1 dL_law_2092 (by decide) ?_
    refine lv_iadd C.1 C.2.1 dL_law_2093 ?_
    refine va_sld C.1 C.2.1 hX hbl hbA hs.2.2 hi1 dL_law_2094 ?_
    refine lv_aload_n C.1 C.2.1 dL_law_2095 rfl (lv_at hl 5 rfl) ?_
    refine lv_iload C.1 C.2.1 dL_law_2096 (lv_at hl 1 rfl) ?_
    refine lv_iconst (v := 2) C.1 C.2.1 dL_law_2098 (by decide) ?_
    refine lv_iadd C.1 C.2.1 dL_law_2099 ?_
    refine va_sld C.1 C.2.1 hX hbl hbA hs.2.2 hi2 dL_law_2100 ?_
    refine lv_aload_n C.1 C.2.1 dL_law_2101 rfl (lv_at hl 5 rfl) ?_
    refine lv_iload C.1 C.2.1 dL_law_2102 (lv_at hl 1 rfl) ?_
    refine lv_iconst (v := 3) C.1 C.2.1 dL_law_2104 (by decide) ?_
    refine lv_iadd C.1 C.2.1 dL_law_2105 ?_
    refine va_sld C.1 C.2.1 hX hbl hbA hs.2.2 hi3 dL_law_2106 ?_
    refine lv_if_eq (tgt := 2114) C.1 C.2.1 dL_law_2107 (by decide) (fun c8 => ?_) (fun c8 => absurd c1 c8)
    refine lv_iconst (v := 0) C.1 C.2.1 dL_law_2114 (by decide) ?_
    have g3 : f_X12_open σ3 mb (xs (i + 1).toNatClampNeg) (xs (i + 2).toNatClampNeg) 0 = some (r5, σ6) := g3
    refine sx_callV (As := [.int (xs (i + 1).toNatClampNeg), .int (xs (i + 2).toNatClampNeg), .int 0]) (rest := []) C hs (c_X12_open g3) mo_X12_open q1777 g2 rfl rfl hl.1 ⟨⟨(Nat.le_of_ble_eq_true rfl), (Nat.le_of_ble_eq_true rfl)⟩, by omega, by omega⟩ rfl (Nat.le_of_ble_eq_true rfl) dL_law_2115 (fun H locs hs => ?_)
    refine W.eq (g2 := F0 m 2118 ls [.int r5]) rfl ?_
    refine lv_istore (lv' := [(6, .int r5), (5, .int k2), (4, .int i), (3, .ref ob), (2, .ref mb), (1, .ref xb), (0, .ref b)]) C.1 C.2.1 dL_law_2118 hl (by decide) rfl (fun ls hl => ?_)
    refine lv_aload_n C.1 C.2.1 dL_law_2120 rfl (lv_at hl 4 rfl) ?_
    refine sx_callV (As := []) (rest := []) C hs (c_X12_thrown g5) mo_X12_thrown q1511 g4 rfl rfl hl.1 ⟨⟨(Nat.le_of_ble_eq_true rfl), (Nat.le_of_ble_eq_true rfl)⟩, by omega, by omega⟩ rfl (Nat.le_of_ble_eq_true rfl) dL_law_2121 (fun H locs hs => ?_)
    refine W.eq (g2 := F0 m 2124 ls [.int k2]) rfl ?_
    refine lv_iload C.1 C.2.1 dL_law_2124 (lv_at hl 1 rfl) ?_
    refine lv_icmp_eq (tgt := 2131) C.1 C.2.1 dL_law_2126 (by decide) (fun c9 => ?_) (fun c9 => absurd rfl c9)
    refine lv_iload C.1 C.2.1 dL_law_2131 (lv_at hl 1 rfl) ?_
    refine lv_if_ne (tgt := 2148) C.1 C.2.1 dL_law_2133 (by decide) (fun c10 => ?_) (fun c10 => ?_)
    · refine lv_goto (tgt := 3547) C.1 C.2.1 dL_law_2148 (by decide) ?_
      refine W.widen (k := cells + 5) (n := slots + 2048) (by omega) (by omega) ?_
      exact kk _ _ _ _ _ hs hI (lv_sub hl [2, 3, 4, 5, 6] rfl)
    · refine lv_aload_n C.1 C.2.1 dL_law_2136 rfl (lv_at hl 3 rfl) ?_
      refine lv_iconst (v := 0) C.1 C.2.1 dL_law_2137 (by decide) ?_
      have g7 : aL σ6 ob 2 0 = some (Int32.toInt64 r5) := g6 c10
      refine sx_lald C hs g7 dL_law_2138 ?_
      refine lv_iload C.1 C.2.1 dL_law_2139 (lv_at hl 0 rfl) ?_
      refine lv_i2l (v := Int32.toInt64 r5) C.1 C.2.1 dL_law_2141 rfl ?_
      refine W.lcmp C.1 C.2.1 dL_law_2142 ?_
      refine lv_if_eq (tgt := 2148) C.1 C.2.1 dL_law_2143 (by decide) (fun c11 => ?_) (fun c11 => absurd ((lg_cmp_eq _ _).mpr rfl) c11)
      refine lv_goto (tgt := 3547) C.1 C.2.1 dL_law_2148 (by decide) ?_
      refine W.widen (k := cells + 5) (n := slots + 2048) (by omega) (by omega) ?_
      exact kk _ _ _ _ _ hs hI (lv_sub hl [2, 3, 4, 5, 6] rfl)
  · refine lv_iconst (v := 1) C.1 C.2.1 dL_law_2077 (by decide) ?_
    refine lv_goto (tgt := 2082) C.1 C.2.1 dL_law_2078 (by decide) ?_
    refine lv_aload_n C.1 C.2.1 dL_law_2082 rfl (lv_at hl 1 rfl) ?_
    obtain ⟨k12, σ13, z14, r15, σ16, g1, g2, g3, g4, g5, g6, hI⟩ := A (xs (i + 1).toNatClampNeg) (xs (i + 2).toNatClampNeg) 1 (Or.inr rfl) _ _ _ hn hI (HS.fr hs)
    have g1 : f_L_open σ sz xb (xs (i + 1).toNatClampNeg) (xs (i + 2).toNatClampNeg) 1 ob = some (k12, σ13, z14) := g1
    refine sx_callSW (As := [.ref xb, .int (xs (i + 1).toNatClampNeg), .int (xs (i + 2).toNatClampNeg), .int 1, .ref ob]) (rest := []) C hs (c_L_open hfl g1) mo_L_open q993 rfl hl.1 ⟨⟨(Nat.le_of_ble_eq_true rfl), (Nat.le_of_ble_eq_true rfl)⟩, by omega, by omega⟩ rfl (Nat.le_of_ble_eq_true rfl) dL_law_2083 (fun z17 _ H locs hs => ?_)
    refine W.eq (g2 := F0 m 2086 ls [.int k12]) rfl ?_
    refine lv_istore (lv' := [(5, .int k12), (4, .int i), (3, .ref ob), (2, .ref mb), (1, .ref xb), (0, .ref b)]) C.1 C.2.1 dL_law_2086 hl (by decide) rfl (fun ls hl => ?_)
    refine lv_aload_n C.1 C.2.1 dL_law_2088 rfl (lv_at hl 3 rfl) ?_
    refine lv_aload_n C.1 C.2.1 dL_law_2089 rfl (lv_at hl 5 rfl) ?_
    refine lv_iload C.1 C.2.1 dL_law_2090 (lv_at hl 1 rfl) ?_
    refine lv_iconst (v := 1) C.1 C.2.1 dL_law_2092 (by decide) ?_
    refine lv_iadd C.1 C.2.1 dL_law_2093 ?_
    refine va_sld C.1 C.2.1 hX hbl hbA hs.2.2 hi1 dL_law_2094 ?_
    refine lv_aload_n C.1 C.2.1 dL_law_2095 rfl (lv_at hl 5 rfl) ?_
    refine lv_iload C.1 C.2.1 dL_law_2096 (lv_at hl 1 rfl) ?_
    refine lv_iconst (v := 2) C.1 C.2.1 dL_law_2098 (by decide) ?_
    refine lv_iadd C.1 C.2.1 dL_law_2099 ?_
    refine va_sld C.1 C.2.1 hX hbl hbA hs.2.2 hi2 dL_law_2100 ?_
    refine lv_aload_n C.1 C.2.1 dL_law_2101 rfl (lv_at hl 5 rfl) ?_
    refine lv_iload C.1 C.2.1 dL_law_2102 (lv_at hl 1 rfl) ?_
    refine lv_iconst (v := 3) C.1 C.2.1 dL_law_2104 (by decide) ?_
    refine lv_iadd C.1 C.2.1 dL_law_2105 ?_
    refine va_sld C.1 C.2.1 hX hbl hbA hs.2.2 hi3 dL_law_2106 ?_
    refine lv_if_eq (tgt := 2114) C.1 C.2.1 dL_law_2107 (by decide) (fun c18 => absurd c18 c1) (fun c18 => ?_)
    refine lv_iconst (v := 1) C.1 C.2.1 dL_law_2110 (by decide) ?_
    refine lv_goto (tgt := 2115) C.1 C.2.1 dL_law_2111 (by decide) ?_
    have g3 : f_X12_open σ13 mb (xs (i + 1).toNatClampNeg) (xs (i + 2).toNatClampNeg) 1 = some (r15, σ16) := g3
    refine sx_callV (As := [.int (xs (i + 1).toNatClampNeg), .int (xs (i + 2).toNatClampNeg), .int 1]) (rest := []) C hs (c_X12_open g3) mo_X12_open q1777 g2 rfl rfl hl.1 ⟨⟨(Nat.le_of_ble_eq_true rfl), (Nat.le_of_ble_eq_true rfl)⟩, by omega, by omega⟩ rfl (Nat.le_of_ble_eq_true rfl) dL_law_2115 (fun H locs hs => ?_)
    refine W.eq (g2 := F0 m 2118 ls [.int r15]) rfl ?_
    refine lv_istore (lv' := [(6, .int r15), (5, .int k12), (4, .int i), (3, .ref ob), (2, .ref mb), (1, .ref xb), (0, .ref b)]) C.1 C.2.1 dL_law_2118 hl (by decide) rfl (fun ls hl => ?_)
    refine lv_aload_n C.1 C.2.1 dL_law_2120 rfl (lv_at hl 4 rfl) ?_
    refine sx_callV (As := []) (rest := []) C hs (c_X12_thrown g5) mo_X12_thrown q1511 g4 rfl rfl hl.1 ⟨⟨(Nat.le_of_ble_eq_true rfl), (Nat.le_of_ble_eq_true rfl)⟩, by omega, by omega⟩ rfl (Nat.le_of_ble_eq_true rfl) dL_law_2121 (fun H locs hs => ?_)
    refine W.eq (g2 := F0 m 2124 ls [.int k12]) rfl ?_
    refine lv_iload C.1 C.2.1 dL_law_2124 (lv_at hl 1 rfl) ?_
    refine lv_icmp_eq (tgt := 2131) C.1 C.2.1 dL_law_2126 (by decide) (fun c19 => ?_) (fun c19 => absurd rfl c19)
    refine lv_iload C.1 C.2.1 dL_law_2131 (lv_at hl 1 rfl) ?_
    refine lv_if_ne (tgt := 2148) C.1 C.2.1 dL_law_2133 (by decide) (fun c20 => ?_) (fun c20 => ?_)
    · refine lv_goto (tgt := 3547) C.1 C.2.1 dL_law_2148 (by decide) ?_
      refine W.widen (k := cells + 5) (n := slots + 2048) (by omega) (by omega) ?_
      exact kk _ _ _ _ _ hs hI (lv_sub hl [2, 3, 4, 5, 6] rfl)
    · refine lv_aload_n C.1 C.2.1 dL_law_2136 rfl (lv_at hl 3 rfl) ?_
      refine lv_iconst (v := 0) C.1 C.2.1 dL_law_2137 (by decide) ?_
      have g7 : aL σ16 ob 2 0 = some (Int32.toInt64 r15) := g6 c20
      refine sx_lald C hs g7 dL_law_2138 ?_
      refine lv_iload C.1 C.2.1 dL_law_2139 (lv_at hl 0 rfl) ?_
      refine lv_i2l (v := Int32.toInt64 r15) C.1 C.2.1 dL_law_2141 rfl ?_
      refine W.lcmp C.1 C.2.1 dL_law_2142 ?_
      refine lv_if_eq (tgt := 2148) C.1 C.2.1 dL_law_2143 (by decide) (fun c21 => ?_) (fun c21 => absurd ((lg_cmp_eq _ _).mpr rfl) c21)
      refine lv_goto (tgt := 3547) C.1 C.2.1 dL_law_2148 (by decide) ?_
      refine W.widen (k := cells + 5) (n := slots + 2048) (by omega) (by omega) ?_
      exact kk _ _ _ _ _ hs hI (lv_sub hl [2, 3, 4, 5, 6] rfl)
def A_line (I : Nat → Sto → Prop) (N xb mb ob : Nat) : Prop := ∀ (v1 : Int32) (v2 : Int32) (v3 : Int32) (v4 : Int32), Ag I mb ob (fun x : Int32 => x.toInt64) (fun σ sz => f_L_line N σ sz xb v1 v2 v3 v4 ob) (fun σ => f_X12_line N σ mb v1 v2 v3 v4)
set_option maxHeartbeats 4000000 in
set_option maxRecDepth 100000 in
theorem lc_line {l : Launch} (hfl : l.stackTraces = false) {g : PP} {p : Program} {e : Env} {s : State} {m : MethodId} {args : Array Value} {below : List Frame} {meth : Method} {c : Code} {N : Nat} {I : Nat → Sto → Prop} {n : Nat} (hn : n < 512) {xs : Nat → Int32} {b L xb mb ob : Nat} {i : Int32} (C : Cx g p s m meth c cL_law 8 "TillhouseLaw") (hX : va_X b L xs s s.heap) (hbl : b < s.heap.size) (hbA : ¬ Aw g b) (hi0 : vp_in i L) (hi1 : vp_in (i + 1) L) (hi2 : vp_in (i + 2) L) (hi3 : vp_in (i + 3) L) (hi4 : vp_in (i + 4) L) (hi5 : vp_in (i + 5) L) (hi6 : vp_in (i + 6) L)
    (A : A_line I N xb mb ob) {σ : Sto} {sz : Nat} {H : Heap} {locs : List Loc} {ls : Array Slot} {cells slots : Nat} (hs : HS g s σ sz H locs) (hI : I n σ) (hl : lv_has ls 8 [(4, .int i), (3, .ref ob), (2, .ref mb), (1, .ref xb), (0, .ref b)]) (hc : cells + 5 ≤ room_1.cells) (hS : slots + 2048 ≤ room_1.slots) {Q : State → Prop}
    (kk : ∀ (σ : Sto) (sz : Nat) (H : Heap) (locs : List Loc) (ls : Array Slot), HS g s σ sz H locs → I (n + 1) σ → lv_has ls 8 [(4, .int i), (3, .ref ob), (2, .ref mb), (1, .ref xb), (0, .ref b)] → W p l e room_1 s m args below meth c H locs (cells + 5) (slots + 2048) Q (F0 m 3547 ls [])) : W p l e room_1 s m args below meth c H locs cells slots Q (F0 m 2151 ls []) := by
  refine lv_aload_n C.1 C.2.1 dL_law_2151 rfl (lv_at hl 3 rfl) ?_
  refine lv_aload_n C.1 C.2.1 dL_law_2152 rfl (lv_at hl 4 rfl) ?_
  refine lv_iload C.1 C.2.1 dL_law_2153 (lv_at hl 0 rfl) ?_
  refine lv_iconst (v := 1) C.1 C.2.1 dL_law_2155 (by decide) ?_
  refine lv_iadd C.1 C.2.1 dL_law_2156 ?_
  refine va_sld C.1 C.2.1 hX hbl hbA hs.2.2 hi1 dL_law_2157 ?_
  refine lv_aload_n C.1 C.2.1 dL_law_2158 rfl (lv_at hl 4 rfl) ?_
  refine lv_iload C.1 C.2.1 dL_law_2159 (lv_at hl 0 rfl) ?_
  refine lv_iconst (v := 2) C.1 C.2.1 dL_law_2161 (by decide) ?_
  refine lv_iadd C.1 C.2.1 dL_law_2162 ?_
  refine va_sld C.1 C.2.1 hX hbl hbA hs.2.2 hi2 dL_law_2163 ?_
  refine lv_aload_n C.1 C.2.1 dL_law_2164 rfl (lv_at hl 4 rfl) ?_
  refine lv_iload C.1 C.2.1 dL_law_2165 (lv_at hl 0 rfl) ?_
  refine lv_iconst (v := 3) C.1 C.2.1 dL_law_2167 (by decide) ?_
  refine lv_iadd C.1 C.2.1 dL_law_2168 ?_
  refine va_sld C.1 C.2.1 hX hbl hbA hs.2.2 hi3 dL_law_2169 ?_
  refine lv_aload_n C.1 C.2.1 dL_law_2170 rfl (lv_at hl 4 rfl) ?_
  refine lv_iload C.1 C.2.1 dL_law_2171 (lv_at hl 0 rfl) ?_
  refine lv_iconst (v := 4) C.1 C.2.1 dL_law_2173 (by decide) ?_
  refine lv_iadd C.1 C.2.1 dL_law_2174 ?_
  refine va_sld C.1 C.2.1 hX hbl hbA hs.2.2 hi4 dL_law_2175 ?_
  refine lv_aload_n C.1 C.2.1 dL_law_2176 rfl (lv_at hl 1 rfl) ?_
  obtain ⟨k1, σ2, z3, r4, σ5, g1, g2, g3, g4, g5, g6, hI⟩ := A (xs (i + 1).toNatClampNeg) (xs (i + 2).toNatClampNeg) (xs (i + 3).toNatClampNeg) (xs (i + 4).toNatClampNeg) _ _ _ hn hI (HS.fr hs)
  have g1 : f_L_line N σ sz xb (xs (i + 1).toNatClampNeg) (xs (i + 2).toNatClampNeg) (xs (i + 3).toNatClampNeg) (xs (i + 4).toNatClampNeg) ob = some (k1, σ2, z3) := g1
  refine sx_callSW (As := [.ref xb, .int (xs (i + 1).toNatClampNeg), .int (xs (i + 2).toNatClampNeg), .int (xs (i + 3).toNatClampNeg), .int (xs (i + 4).toNatClampNeg), .ref ob]) (rest := []) C hs (c_L_line hfl g1) mo_L_line q1028 rfl hl.1 ⟨⟨(Nat.le_of_ble_eq_true rfl), (Nat.le_of_ble_eq_true rfl)⟩, by omega, by omega⟩ rfl (Nat.le_of_ble_eq_true rfl) dL_law_2177 (fun z6 _ H locs hs => ?_)
  refine W.eq (g2 := F0 m 2180 ls [.int k1]) rfl ?_
  refine lv_istore (lv' := [(5, .int k1), (4, .int i), (3, .ref ob), (2, .ref mb), (1, .ref xb), (0, .ref b)]) C.1 C.2.1 dL_law_2180 hl (by decide) rfl (fun ls hl => ?_)
  refine lv_aload_n C.1 C.2.1 dL_law_2182 rfl (lv_at hl 3 rfl) ?_
  refine lv_aload_n C.1 C.2.1 dL_law_2183 rfl (lv_at hl 5 rfl) ?_
  refine lv_iload C.1 C.2.1 dL_law_2184 (lv_at hl 1 rfl) ?_
  refine lv_iconst (v := 1) C.1 C.2.1 dL_law_2186 (by decide) ?_
  refine lv_iadd C.1 C.2.1 dL_law_2187 ?_
  refine va_sld C.1 C.2.1 hX hbl hbA hs.2.2 hi1 dL_law_2188 ?_
  refine lv_aload_n C.1 C.2.1 dL_law_2189 rfl (lv_at hl 5 rfl) ?_
  refine lv_iload C.1 C.2.1 dL_law_2190 (lv_at hl 1 rfl) ?_
  refine lv_iconst (v := 2) C.1 C.2.1 dL_law_2192 (by decide) ?_
  refine lv_iadd C.1 C.2.1 dL_law_2193 ?_
  refine va_sld C.1 C.2.1 hX hbl hbA hs.2.2 hi2 dL_law_2194 ?_
  refine lv_aload_n C.1 C.2.1 dL_law_2195 rfl (lv_at hl 5 rfl) ?_
  refine lv_iload C.1 C.2.1 dL_law_2196 (lv_at hl 1 rfl) ?_
  refine lv_iconst (v := 3) C.1 C.2.1 dL_law_2198 (by decide) ?_
  refine lv_iadd C.1 C.2.1 dL_law_2199 ?_
  refine va_sld C.1 C.2.1 hX hbl hbA hs.2.2 hi3 dL_law_2200 ?_
  refine lv_aload_n C.1 C.2.1 dL_law_2201 rfl (lv_at hl 5 rfl) ?_
  refine lv_iload C.1 C.2.1 dL_law_2202 (lv_at hl 1 rfl) ?_
  refine lv_iconst (v := 4) C.1 C.2.1 dL_law_2204 (by decide) ?_
  refine lv_iadd C.1 C.2.1 dL_law_2205 ?_
  refine va_sld C.1 C.2.1 hX hbl hbA hs.2.2 hi4 dL_law_2206 ?_
  have g3 : f_X12_line N σ2 mb (xs (i + 1).toNatClampNeg) (xs (i + 2).toNatClampNeg) (xs (i + 3).toNatClampNeg) (xs (i + 4).toNatClampNeg) = some (r4, σ5) := g3
  refine sx_callV (As := [.int (xs (i + 1).toNatClampNeg), .int (xs (i + 2).toNatClampNeg), .int (xs (i + 3).toNatClampNeg), .int (xs (i + 4).toNatClampNeg)]) (rest := []) C hs (c_X12_line g3) mo_X12_line q1781 g2 rfl rfl hl.1 ⟨⟨(Nat.le_of_ble_eq_true rfl), (Nat.le_of_ble_eq_true rfl)⟩, by omega, by omega⟩ rfl (Nat.le_of_ble_eq_true rfl) dL_law_2207 (fun H locs hs => ?_)
  refine W.eq (g2 := F0 m 2210 ls [.int r4]) rfl ?_
  refine lv_istore (lv' := [(6, .int r4), (5, .int k1), (4, .int i), (3, .ref ob), (2, .ref mb), (1, .ref xb), (0, .ref b)]) C.1 C.2.1 dL_law_2210 hl (by decide) rfl (fun ls hl => ?_)
  refine lv_aload_n C.1 C.2.1 dL_law_2212 rfl (lv_at hl 4 rfl) ?_
  refine sx_callV (As := []) (rest := []) C hs (c_X12_thrown g5) mo_X12_thrown q1511 g4 rfl rfl hl.1 ⟨⟨(Nat.le_of_ble_eq_true rfl), (Nat.le_of_ble_eq_true rfl)⟩, by omega, by omega⟩ rfl (Nat.le_of_ble_eq_true rfl) dL_law_2213 (fun H locs hs => ?_)
  refine W.eq (g2 := F0 m 2216 ls [.int k1]) rfl ?_
  refine lv_iload C.1 C.2.1 dL_law_2216 (lv_at hl 1 rfl) ?_
  refine lv_icmp_eq (tgt := 2223) C.1 C.2.1 dL_law_2218 (by decide) (fun c7 => ?_) (fun c7 => absurd rfl c7)
  refine lv_iload C.1 C.2.1 dL_law_2223 (lv_at hl 1 rfl) ?_
  refine lv_if_ne (tgt := 2240) C.1 C.2.1 dL_law_2225 (by decide) (fun c8 => ?_) (fun c8 => ?_)
  · refine lv_goto (tgt := 3547) C.1 C.2.1 dL_law_2240 (by decide) ?_
    refine W.widen (k := cells + 5) (n := slots + 2048) (by omega) (by omega) ?_
    exact kk _ _ _ _ _ hs hI (lv_sub hl [2, 3, 4, 5, 6] rfl)
  · refine lv_aload_n C.1 C.2.1 dL_law_2228 rfl (lv_at hl 3 rfl) ?_
    refine lv_iconst (v := 0) C.1 C.2.1 dL_law_2229 (by decide) ?_
    have g7 : aL σ5 ob 2 0 = some (Int32.toInt64 r4) := g6 c8
    refine sx_lald C hs g7 dL_law_2230 ?_
    refine lv_iload C.1 C.2.1 dL_law_2231 (lv_at hl 0 rfl) ?_
    refine lv_i2l (v := Int32.toInt64 r4) C.1 C.2.1 dL_law_2233 rfl ?_
    refine W.lcmp C.1 C.2.1 dL_law_2234 ?_
    refine lv_if_eq (tgt := 2240) C.1 C.2.1 dL_law_2235 (by decide) (fun c9 => ?_) (fun c9 => absurd ((lg_cmp_eq _ _).mpr rfl) c9)
    refine lv_goto (tgt := 3547) C.1 C.2.1 dL_law_2240 (by decide) ?_
    refine W.widen (k := cells + 5) (n := slots + 2048) (by omega) (by omega) ?_
    exact kk _ _ _ _ _ hs hI (lv_sub hl [2, 3, 4, 5, 6] rfl)
def A_netOfLine (I : Nat → Sto → Prop) (N xb mb ob : Nat) : Prop := ∀ (v1 : Int32) (v2 : Int32), Ag I mb ob (fun x : Int64 => x) (fun σ sz => f_L_netOfLine σ sz xb v1 v2 ob) (fun σ => f_X12_netOfLine N σ mb v1 v2)
set_option maxHeartbeats 4000000 in
set_option maxRecDepth 100000 in
theorem lc_netOfLine {l : Launch} (hfl : l.stackTraces = false) {g : PP} {p : Program} {e : Env} {s : State} {m : MethodId} {args : Array Value} {below : List Frame} {meth : Method} {c : Code} {N : Nat} {I : Nat → Sto → Prop} {n : Nat} (hn : n < 512) {xs : Nat → Int32} {b L xb mb ob : Nat} {i : Int32} (C : Cx g p s m meth c cL_law 8 "TillhouseLaw") (hX : va_X b L xs s s.heap) (hbl : b < s.heap.size) (hbA : ¬ Aw g b) (hi0 : vp_in i L) (hi1 : vp_in (i + 1) L) (hi2 : vp_in (i + 2) L) (hi3 : vp_in (i + 3) L) (hi4 : vp_in (i + 4) L) (hi5 : vp_in (i + 5) L) (hi6 : vp_in (i + 6) L)
    (A : A_netOfLine I N xb mb ob) {σ : Sto} {sz : Nat} {H : Heap} {locs : List Loc} {ls : Array Slot} {cells slots : Nat} (hs : HS g s σ sz H locs) (hI : I n σ) (hl : lv_has ls 8 [(4, .int i), (3, .ref ob), (2, .ref mb), (1, .ref xb), (0, .ref b)]) (hc : cells + 5 ≤ room_1.cells) (hS : slots + 2048 ≤ room_1.slots) {Q : State → Prop}
    (kk : ∀ (σ : Sto) (sz : Nat) (H : Heap) (locs : List Loc) (ls : Array Slot), HS g s σ sz H locs → I (n + 1) σ → lv_has ls 8 [(4, .int i), (3, .ref ob), (2, .ref mb), (1, .ref xb), (0, .ref b)] → W p l e room_1 s m args below meth c H locs (cells + 5) (slots + 2048) Q (F0 m 3547 ls [])) : W p l e room_1 s m args below meth c H locs cells slots Q (F0 m 2243 ls []) := by
  refine lv_aload_n C.1 C.2.1 dL_law_2243 rfl (lv_at hl 3 rfl) ?_
  refine lv_aload_n C.1 C.2.1 dL_law_2244 rfl (lv_at hl 4 rfl) ?_
  refine lv_iload C.1 C.2.1 dL_law_2245 (lv_at hl 0 rfl) ?_
  refine lv_iconst (v := 1) C.1 C.2.1 dL_law_2247 (by decide) ?_
  refine lv_iadd C.1 C.2.1 dL_law_2248 ?_
  refine va_sld C.1 C.2.1 hX hbl hbA hs.2.2 hi1 dL_law_2249 ?_
  refine lv_aload_n C.1 C.2.1 dL_law_2250 rfl (lv_at hl 4 rfl) ?_
  refine lv_iload C.1 C.2.1 dL_law_2251 (lv_at hl 0 rfl) ?_
  refine lv_iconst (v := 2) C.1 C.2.1 dL_law_2253 (by decide) ?_
  refine lv_iadd C.1 C.2.1 dL_law_2254 ?_
  refine va_sld C.1 C.2.1 hX hbl hbA hs.2.2 hi2 dL_law_2255 ?_
  refine lv_aload_n C.1 C.2.1 dL_law_2256 rfl (lv_at hl 1 rfl) ?_
  obtain ⟨k1, σ2, z3, r4, σ5, g1, g2, g3, g4, g5, g6, hI⟩ := A (xs (i + 1).toNatClampNeg) (xs (i + 2).toNatClampNeg) _ _ _ hn hI (HS.fr hs)
  have g1 : f_L_netOfLine σ sz xb (xs (i + 1).toNatClampNeg) (xs (i + 2).toNatClampNeg) ob = some (k1, σ2, z3) := g1
  refine sx_callSW (As := [.ref xb, .int (xs (i + 1).toNatClampNeg), .int (xs (i + 2).toNatClampNeg), .ref ob]) (rest := []) C hs (c_L_netOfLine hfl g1) mo_L_netOfLine q1071 rfl hl.1 ⟨⟨(Nat.le_of_ble_eq_true rfl), (Nat.le_of_ble_eq_true rfl)⟩, by omega, by omega⟩ rfl (Nat.le_of_ble_eq_true rfl) dL_law_2257 (fun z6 _ H locs hs => ?_)
  refine W.eq (g2 := F0 m 2260 ls [.int k1]) rfl ?_
  refine lv_istore (lv' := [(5, .int k1), (4, .int i), (3, .ref ob), (2, .ref mb), (1, .ref xb), (0, .ref b)]) C.1 C.2.1 dL_law_2260 hl (by decide) rfl (fun ls hl => ?_)
  refine lv_aload_n C.1 C.2.1 dL_law_2262 rfl (lv_at hl 3 rfl) ?_
  refine lv_aload_n C.1 C.2.1 dL_law_2263 rfl (lv_at hl 5 rfl) ?_
  refine lv_iload C.1 C.2.1 dL_law_2264 (lv_at hl 1 rfl) ?_
  refine lv_iconst (v := 1) C.1 C.2.1 dL_law_2266 (by decide) ?_
  refine lv_iadd C.1 C.2.1 dL_law_2267 ?_
  refine va_sld C.1 C.2.1 hX hbl hbA hs.2.2 hi1 dL_law_2268 ?_
  refine lv_aload_n C.1 C.2.1 dL_law_2269 rfl (lv_at hl 5 rfl) ?_
  refine lv_iload C.1 C.2.1 dL_law_2270 (lv_at hl 1 rfl) ?_
  refine lv_iconst (v := 2) C.1 C.2.1 dL_law_2272 (by decide) ?_
  refine lv_iadd C.1 C.2.1 dL_law_2273 ?_
  refine va_sld C.1 C.2.1 hX hbl hbA hs.2.2 hi2 dL_law_2274 ?_
  have g3 : f_X12_netOfLine N σ2 mb (xs (i + 1).toNatClampNeg) (xs (i + 2).toNatClampNeg) = some (r4, σ5) := g3
  refine sx_callV (As := [.int (xs (i + 1).toNatClampNeg), .int (xs (i + 2).toNatClampNeg)]) (rest := []) C hs (c_X12_netOfLine g3) mo_X12_netOfLine q1790 g2 rfl rfl hl.1 ⟨⟨(Nat.le_of_ble_eq_true rfl), (Nat.le_of_ble_eq_true rfl)⟩, by omega, by omega⟩ rfl (Nat.le_of_ble_eq_true rfl) dL_law_2275 (fun H locs hs => ?_)
  refine W.eq (g2 := F0 m 2278 ls [.long r4]) rfl ?_
  refine lv_lstore (lv' := [(6, .long r4), (5, .int k1), (4, .int i), (3, .ref ob), (2, .ref mb), (1, .ref xb), (0, .ref b)]) C.1 C.2.1 dL_law_2278 hl (by decide) rfl (fun ls hl => ?_)
  refine lv_aload_n C.1 C.2.1 dL_law_2280 rfl (lv_at hl 4 rfl) ?_
  refine sx_callV (As := []) (rest := []) C hs (c_X12_thrown g5) mo_X12_thrown q1511 g4 rfl rfl hl.1 ⟨⟨(Nat.le_of_ble_eq_true rfl), (Nat.le_of_ble_eq_true rfl)⟩, by omega, by omega⟩ rfl (Nat.le_of_ble_eq_true rfl) dL_law_2281 (fun H locs hs => ?_)
  refine W.eq (g2 := F0 m 2284 ls [.int k1]) rfl ?_
  refine lv_iload C.1 C.2.1 dL_law_2284 (lv_at hl 1 rfl) ?_
  refine lv_icmp_eq (tgt := 2291) C.1 C.2.1 dL_law_2286 (by decide) (fun c7 => ?_) (fun c7 => absurd rfl c7)
  refine lv_iload C.1 C.2.1 dL_law_2291 (lv_at hl 1 rfl) ?_
  refine lv_if_ne (tgt := 2307) C.1 C.2.1 dL_law_2293 (by decide) (fun c8 => ?_) (fun c8 => ?_)
  · refine lv_goto (tgt := 3547) C.1 C.2.1 dL_law_2307 (by decide) ?_
    refine W.widen (k := cells + 5) (n := slots + 2048) (by omega) (by omega) ?_
    exact kk _ _ _ _ _ hs hI (lv_sub hl [2, 3, 4, 5, 6] rfl)
  · refine lv_aload_n C.1 C.2.1 dL_law_2296 rfl (lv_at hl 3 rfl) ?_
    refine lv_iconst (v := 0) C.1 C.2.1 dL_law_2297 (by decide) ?_
    have g7 : aL σ5 ob 2 0 = some (r4) := g6 c8
    refine sx_lald C hs g7 dL_law_2298 ?_
    refine lv_lload C.1 C.2.1 dL_law_2299 (lv_at hl 0 rfl) ?_
    refine W.lcmp C.1 C.2.1 dL_law_2301 ?_
    refine lv_if_eq (tgt := 2307) C.1 C.2.1 dL_law_2302 (by decide) (fun c9 => ?_) (fun c9 => absurd ((lg_cmp_eq _ _).mpr rfl) c9)
    refine lv_goto (tgt := 3547) C.1 C.2.1 dL_law_2307 (by decide) ?_
    refine W.widen (k := cells + 5) (n := slots + 2048) (by omega) (by omega) ?_
    exact kk _ _ _ _ _ hs hI (lv_sub hl [2, 3, 4, 5, 6] rfl)
def A_net (I : Nat → Sto → Prop) (N xb mb ob : Nat) : Prop := ∀ (v1 : Int32), Ag I mb ob (fun x : Int64 => x) (fun σ sz => f_L_net N σ sz xb v1 ob) (fun σ => f_X12_net N σ mb v1)
set_option maxHeartbeats 4000000 in
set_option maxRecDepth 100000 in
theorem lc_net {l : Launch} (hfl : l.stackTraces = false) {g : PP} {p : Program} {e : Env} {s : State} {m : MethodId} {args : Array Value} {below : List Frame} {meth : Method} {c : Code} {N : Nat} {I : Nat → Sto → Prop} {n : Nat} (hn : n < 512) {xs : Nat → Int32} {b L xb mb ob : Nat} {i : Int32} (C : Cx g p s m meth c cL_law 8 "TillhouseLaw") (hX : va_X b L xs s s.heap) (hbl : b < s.heap.size) (hbA : ¬ Aw g b) (hi0 : vp_in i L) (hi1 : vp_in (i + 1) L) (hi2 : vp_in (i + 2) L) (hi3 : vp_in (i + 3) L) (hi4 : vp_in (i + 4) L) (hi5 : vp_in (i + 5) L) (hi6 : vp_in (i + 6) L)
    (A : A_net I N xb mb ob) {σ : Sto} {sz : Nat} {H : Heap} {locs : List Loc} {ls : Array Slot} {cells slots : Nat} (hs : HS g s σ sz H locs) (hI : I n σ) (hl : lv_has ls 8 [(4, .int i), (3, .ref ob), (2, .ref mb), (1, .ref xb), (0, .ref b)]) (hc : cells + 5 ≤ room_1.cells) (hS : slots + 2048 ≤ room_1.slots) {Q : State → Prop}
    (kk : ∀ (σ : Sto) (sz : Nat) (H : Heap) (locs : List Loc) (ls : Array Slot), HS g s σ sz H locs → I (n + 1) σ → lv_has ls 8 [(4, .int i), (3, .ref ob), (2, .ref mb), (1, .ref xb), (0, .ref b)] → W p l e room_1 s m args below meth c H locs (cells + 5) (slots + 2048) Q (F0 m 3547 ls [])) : W p l e room_1 s m args below meth c H locs cells slots Q (F0 m 2310 ls []) := by
  refine lv_aload_n C.1 C.2.1 dL_law_2310 rfl (lv_at hl 3 rfl) ?_
  refine lv_aload_n C.1 C.2.1 dL_law_2311 rfl (lv_at hl 4 rfl) ?_
  refine lv_iload C.1 C.2.1 dL_law_2312 (lv_at hl 0 rfl) ?_
  refine lv_iconst (v := 1) C.1 C.2.1 dL_law_2314 (by decide) ?_
  refine lv_iadd C.1 C.2.1 dL_law_2315 ?_
  refine va_sld C.1 C.2.1 hX hbl hbA hs.2.2 hi1 dL_law_2316 ?_
  refine lv_aload_n C.1 C.2.1 dL_law_2317 rfl (lv_at hl 1 rfl) ?_
  obtain ⟨k1, σ2, z3, r4, σ5, g1, g2, g3, g4, g5, g6, hI⟩ := A (xs (i + 1).toNatClampNeg) _ _ _ hn hI (HS.fr hs)
  have g1 : f_L_net N σ sz xb (xs (i + 1).toNatClampNeg) ob = some (k1, σ2, z3) := g1
  refine sx_callSW (As := [.ref xb, .int (xs (i + 1).toNatClampNeg), .ref ob]) (rest := []) C hs (c_L_net hfl g1) mo_L_net q1097 rfl hl.1 ⟨⟨(Nat.le_of_ble_eq_true rfl), (Nat.le_of_ble_eq_true rfl)⟩, by omega, by omega⟩ rfl (Nat.le_of_ble_eq_true rfl) dL_law_2318 (fun z6 _ H locs hs => ?_)
  refine W.eq (g2 := F0 m 2321 ls [.int k1]) rfl ?_
  refine lv_istore (lv' := [(5, .int k1), (4, .int i), (3, .ref ob), (2, .ref mb), (1, .ref xb), (0, .ref b)]) C.1 C.2.1 dL_law_2321 hl (by decide) rfl (fun ls hl => ?_)
  refine lv_aload_n C.1 C.2.1 dL_law_2323 rfl (lv_at hl 3 rfl) ?_
  refine lv_aload_n C.1 C.2.1 dL_law_2324 rfl (lv_at hl 5 rfl) ?_
  refine lv_iload C.1 C.2.1 dL_law_2325 (lv_at hl 1 rfl) ?_
  refine lv_iconst (v := 1) C.1 C.2.1 dL_law_2327 (by decide) ?_
  refine lv_iadd C.1 C.2.1 dL_law_2328 ?_
  refine va_sld C.1 C.2.1 hX hbl hbA hs.2.2 hi1 dL_law_2329 ?_
  have g3 : f_X12_net N σ2 mb (xs (i + 1).toNatClampNeg) = some (r4, σ5) := g3
  refine sx_callV (As := [.int (xs (i + 1).toNatClampNeg)]) (rest := []) C hs (c_X12_net g3) mo_X12_net q1803 g2 rfl rfl hl.1 ⟨⟨(Nat.le_of_ble_eq_true rfl), (Nat.le_of_ble_eq_true rfl)⟩, by omega, by omega⟩ rfl (Nat.le_of_ble_eq_true rfl) dL_law_2330 (fun H locs hs => ?_)
  refine W.eq (g2 := F0 m 2333 ls [.long r4]) rfl ?_
  refine lv_lstore (lv' := [(6, .long r4), (5, .int k1), (4, .int i), (3, .ref ob), (2, .ref mb), (1, .ref xb), (0, .ref b)]) C.1 C.2.1 dL_law_2333 hl (by decide) rfl (fun ls hl => ?_)
  refine lv_aload_n C.1 C.2.1 dL_law_2335 rfl (lv_at hl 4 rfl) ?_
  refine sx_callV (As := []) (rest := []) C hs (c_X12_thrown g5) mo_X12_thrown q1511 g4 rfl rfl hl.1 ⟨⟨(Nat.le_of_ble_eq_true rfl), (Nat.le_of_ble_eq_true rfl)⟩, by omega, by omega⟩ rfl (Nat.le_of_ble_eq_true rfl) dL_law_2336 (fun H locs hs => ?_)
  refine W.eq (g2 := F0 m 2339 ls [.int k1]) rfl ?_
  refine lv_iload C.1 C.2.1 dL_law_2339 (lv_at hl 1 rfl) ?_
  refine lv_icmp_eq (tgt := 2346) C.1 C.2.1 dL_law_2341 (by decide) (fun c7 => ?_) (fun c7 => absurd rfl c7)
  refine lv_iload C.1 C.2.1 dL_law_2346 (lv_at hl 1 rfl) ?_
  refine lv_if_ne (tgt := 2362) C.1 C.2.1 dL_law_2348 (by decide) (fun c8 => ?_) (fun c8 => ?_)
  · refine lv_goto (tgt := 3547) C.1 C.2.1 dL_law_2362 (by decide) ?_
    refine W.widen (k := cells + 5) (n := slots + 2048) (by omega) (by omega) ?_
    exact kk _ _ _ _ _ hs hI (lv_sub hl [2, 3, 4, 5, 6] rfl)
  · refine lv_aload_n C.1 C.2.1 dL_law_2351 rfl (lv_at hl 3 rfl) ?_
    refine lv_iconst (v := 0) C.1 C.2.1 dL_law_2352 (by decide) ?_
    have g7 : aL σ5 ob 2 0 = some (r4) := g6 c8
    refine sx_lald C hs g7 dL_law_2353 ?_
    refine lv_lload C.1 C.2.1 dL_law_2354 (lv_at hl 0 rfl) ?_
    refine W.lcmp C.1 C.2.1 dL_law_2356 ?_
    refine lv_if_eq (tgt := 2362) C.1 C.2.1 dL_law_2357 (by decide) (fun c9 => ?_) (fun c9 => absurd ((lg_cmp_eq _ _).mpr rfl) c9)
    refine lv_goto (tgt := 3547) C.1 C.2.1 dL_law_2362 (by decide) ?_
    refine W.widen (k := cells + 5) (n := slots + 2048) (by omega) (by omega) ?_
    exact kk _ _ _ _ _ hs hI (lv_sub hl [2, 3, 4, 5, 6] rfl)
def A_taxOf (I : Nat → Sto → Prop) (N xb mb ob : Nat) : Prop := ∀ (v1 : Int32), Ag I mb ob (fun x : Int64 => x) (fun σ sz => f_L_taxOf N σ sz xb v1 ob) (fun σ => f_X12_taxOf N σ mb v1)
set_option maxHeartbeats 4000000 in
set_option maxRecDepth 100000 in
theorem lc_taxOf {l : Launch} (hfl : l.stackTraces = false) {g : PP} {p : Program} {e : Env} {s : State} {m : MethodId} {args : Array Value} {below : List Frame} {meth : Method} {c : Code} {N : Nat} {I : Nat → Sto → Prop} {n : Nat} (hn : n < 512) {xs : Nat → Int32} {b L xb mb ob : Nat} {i : Int32} (C : Cx g p s m meth c cL_law 8 "TillhouseLaw") (hX : va_X b L xs s s.heap) (hbl : b < s.heap.size) (hbA : ¬ Aw g b) (hi0 : vp_in i L) (hi1 : vp_in (i + 1) L) (hi2 : vp_in (i + 2) L) (hi3 : vp_in (i + 3) L) (hi4 : vp_in (i + 4) L) (hi5 : vp_in (i + 5) L) (hi6 : vp_in (i + 6) L)
    (A : A_taxOf I N xb mb ob) {σ : Sto} {sz : Nat} {H : Heap} {locs : List Loc} {ls : Array Slot} {cells slots : Nat} (hs : HS g s σ sz H locs) (hI : I n σ) (hl : lv_has ls 8 [(4, .int i), (3, .ref ob), (2, .ref mb), (1, .ref xb), (0, .ref b)]) (hc : cells + 5 ≤ room_1.cells) (hS : slots + 2048 ≤ room_1.slots) {Q : State → Prop}
    (kk : ∀ (σ : Sto) (sz : Nat) (H : Heap) (locs : List Loc) (ls : Array Slot), HS g s σ sz H locs → I (n + 1) σ → lv_has ls 8 [(4, .int i), (3, .ref ob), (2, .ref mb), (1, .ref xb), (0, .ref b)] → W p l e room_1 s m args below meth c H locs (cells + 5) (slots + 2048) Q (F0 m 3547 ls [])) : W p l e room_1 s m args below meth c H locs cells slots Q (F0 m 2365 ls []) := by
  refine lv_aload_n C.1 C.2.1 dL_law_2365 rfl (lv_at hl 3 rfl) ?_
  refine lv_aload_n C.1 C.2.1 dL_law_2366 rfl (lv_at hl 4 rfl) ?_
  refine lv_iload C.1 C.2.1 dL_law_2367 (lv_at hl 0 rfl) ?_
  refine lv_iconst (v := 1) C.1 C.2.1 dL_law_2369 (by decide) ?_
  refine lv_iadd C.1 C.2.1 dL_law_2370 ?_
  refine va_sld C.1 C.2.1 hX hbl hbA hs.2.2 hi1 dL_law_2371 ?_
  refine lv_aload_n C.1 C.2.1 dL_law_2372 rfl (lv_at hl 1 rfl) ?_
  obtain ⟨k1, σ2, z3, r4, σ5, g1, g2, g3, g4, g5, g6, hI⟩ := A (xs (i + 1).toNatClampNeg) _ _ _ hn hI (HS.fr hs)
  have g1 : f_L_taxOf N σ sz xb (xs (i + 1).toNatClampNeg) ob = some (k1, σ2, z3) := g1
  refine sx_callSW (As := [.ref xb, .int (xs (i + 1).toNatClampNeg), .ref ob]) (rest := []) C hs (c_L_taxOf hfl g1) mo_L_taxOf q1109 rfl hl.1 ⟨⟨(Nat.le_of_ble_eq_true rfl), (Nat.le_of_ble_eq_true rfl)⟩, by omega, by omega⟩ rfl (Nat.le_of_ble_eq_true rfl) dL_law_2373 (fun z6 _ H locs hs => ?_)
  refine W.eq (g2 := F0 m 2376 ls [.int k1]) rfl ?_
  refine lv_istore (lv' := [(5, .int k1), (4, .int i), (3, .ref ob), (2, .ref mb), (1, .ref xb), (0, .ref b)]) C.1 C.2.1 dL_law_2376 hl (by decide) rfl (fun ls hl => ?_)
  refine lv_aload_n C.1 C.2.1 dL_law_2378 rfl (lv_at hl 3 rfl) ?_
  refine lv_aload_n C.1 C.2.1 dL_law_2379 rfl (lv_at hl 5 rfl) ?_
  refine lv_iload C.1 C.2.1 dL_law_2380 (lv_at hl 1 rfl) ?_
  refine lv_iconst (v := 1) C.1 C.2.1 dL_law_2382 (by decide) ?_
  refine lv_iadd C.1 C.2.1 dL_law_2383 ?_
  refine va_sld C.1 C.2.1 hX hbl hbA hs.2.2 hi1 dL_law_2384 ?_
  have g3 : f_X12_taxOf N σ2 mb (xs (i + 1).toNatClampNeg) = some (r4, σ5) := g3
  refine sx_callV (As := [.int (xs (i + 1).toNatClampNeg)]) (rest := []) C hs (c_X12_taxOf g3) mo_X12_taxOf q1811 g2 rfl rfl hl.1 ⟨⟨(Nat.le_of_ble_eq_true rfl), (Nat.le_of_ble_eq_true rfl)⟩, by omega, by omega⟩ rfl (Nat.le_of_ble_eq_true rfl) dL_law_2385 (fun H locs hs => ?_)
  refine W.eq (g2 := F0 m 2388 ls [.long r4]) rfl ?_
  refine lv_lstore (lv' := [(6, .long r4), (5, .int k1), (4, .int i), (3, .ref ob), (2, .ref mb), (1, .ref xb), (0, .ref b)]) C.1 C.2.1 dL_law_2388 hl (by decide) rfl (fun ls hl => ?_)
  refine lv_aload_n C.1 C.2.1 dL_law_2390 rfl (lv_at hl 4 rfl) ?_
  refine sx_callV (As := []) (rest := []) C hs (c_X12_thrown g5) mo_X12_thrown q1511 g4 rfl rfl hl.1 ⟨⟨(Nat.le_of_ble_eq_true rfl), (Nat.le_of_ble_eq_true rfl)⟩, by omega, by omega⟩ rfl (Nat.le_of_ble_eq_true rfl) dL_law_2391 (fun H locs hs => ?_)
  refine W.eq (g2 := F0 m 2394 ls [.int k1]) rfl ?_
  refine lv_iload C.1 C.2.1 dL_law_2394 (lv_at hl 1 rfl) ?_
  refine lv_icmp_eq (tgt := 2401) C.1 C.2.1 dL_law_2396 (by decide) (fun c7 => ?_) (fun c7 => absurd rfl c7)
  refine lv_iload C.1 C.2.1 dL_law_2401 (lv_at hl 1 rfl) ?_
  refine lv_if_ne (tgt := 2417) C.1 C.2.1 dL_law_2403 (by decide) (fun c8 => ?_) (fun c8 => ?_)
  · refine lv_goto (tgt := 3547) C.1 C.2.1 dL_law_2417 (by decide) ?_
    refine W.widen (k := cells + 5) (n := slots + 2048) (by omega) (by omega) ?_
    exact kk _ _ _ _ _ hs hI (lv_sub hl [2, 3, 4, 5, 6] rfl)
  · refine lv_aload_n C.1 C.2.1 dL_law_2406 rfl (lv_at hl 3 rfl) ?_
    refine lv_iconst (v := 0) C.1 C.2.1 dL_law_2407 (by decide) ?_
    have g7 : aL σ5 ob 2 0 = some (r4) := g6 c8
    refine sx_lald C hs g7 dL_law_2408 ?_
    refine lv_lload C.1 C.2.1 dL_law_2409 (lv_at hl 0 rfl) ?_
    refine W.lcmp C.1 C.2.1 dL_law_2411 ?_
    refine lv_if_eq (tgt := 2417) C.1 C.2.1 dL_law_2412 (by decide) (fun c9 => ?_) (fun c9 => absurd ((lg_cmp_eq _ _).mpr rfl) c9)
    refine lv_goto (tgt := 3547) C.1 C.2.1 dL_law_2417 (by decide) ?_
    refine W.widen (k := cells + 5) (n := slots + 2048) (by omega) (by omega) ?_
    exact kk _ _ _ _ _ hs hI (lv_sub hl [2, 3, 4, 5, 6] rfl)
def A_cash (I : Nat → Sto → Prop) (N xb mb ob : Nat) : Prop := ∀ (v1 : Int32), Ag I mb ob (fun x : Int64 => x) (fun σ sz => f_L_cash N σ sz xb v1 ob) (fun σ => f_X12_cash N σ mb v1)
set_option maxHeartbeats 4000000 in
set_option maxRecDepth 100000 in
theorem lc_cash {l : Launch} (hfl : l.stackTraces = false) {g : PP} {p : Program} {e : Env} {s : State} {m : MethodId} {args : Array Value} {below : List Frame} {meth : Method} {c : Code} {N : Nat} {I : Nat → Sto → Prop} {n : Nat} (hn : n < 512) {xs : Nat → Int32} {b L xb mb ob : Nat} {i : Int32} (C : Cx g p s m meth c cL_law 8 "TillhouseLaw") (hX : va_X b L xs s s.heap) (hbl : b < s.heap.size) (hbA : ¬ Aw g b) (hi0 : vp_in i L) (hi1 : vp_in (i + 1) L) (hi2 : vp_in (i + 2) L) (hi3 : vp_in (i + 3) L) (hi4 : vp_in (i + 4) L) (hi5 : vp_in (i + 5) L) (hi6 : vp_in (i + 6) L)
    (A : A_cash I N xb mb ob) {σ : Sto} {sz : Nat} {H : Heap} {locs : List Loc} {ls : Array Slot} {cells slots : Nat} (hs : HS g s σ sz H locs) (hI : I n σ) (hl : lv_has ls 8 [(4, .int i), (3, .ref ob), (2, .ref mb), (1, .ref xb), (0, .ref b)]) (hc : cells + 5 ≤ room_1.cells) (hS : slots + 2048 ≤ room_1.slots) {Q : State → Prop}
    (kk : ∀ (σ : Sto) (sz : Nat) (H : Heap) (locs : List Loc) (ls : Array Slot), HS g s σ sz H locs → I (n + 1) σ → lv_has ls 8 [(4, .int i), (3, .ref ob), (2, .ref mb), (1, .ref xb), (0, .ref b)] → W p l e room_1 s m args below meth c H locs (cells + 5) (slots + 2048) Q (F0 m 3547 ls [])) : W p l e room_1 s m args below meth c H locs cells slots Q (F0 m 2420 ls []) := by
  refine lv_aload_n C.1 C.2.1 dL_law_2420 rfl (lv_at hl 3 rfl) ?_
  refine lv_aload_n C.1 C.2.1 dL_law_2421 rfl (lv_at hl 4 rfl) ?_
  refine lv_iload C.1 C.2.1 dL_law_2422 (lv_at hl 0 rfl) ?_
  refine lv_iconst (v := 1) C.1 C.2.1 dL_law_2424 (by decide) ?_
  refine lv_iadd C.1 C.2.1 dL_law_2425 ?_
  refine va_sld C.1 C.2.1 hX hbl hbA hs.2.2 hi1 dL_law_2426 ?_
  refine lv_aload_n C.1 C.2.1 dL_law_2427 rfl (lv_at hl 1 rfl) ?_
  obtain ⟨k1, σ2, z3, r4, σ5, g1, g2, g3, g4, g5, g6, hI⟩ := A (xs (i + 1).toNatClampNeg) _ _ _ hn hI (HS.fr hs)
  have g1 : f_L_cash N σ sz xb (xs (i + 1).toNatClampNeg) ob = some (k1, σ2, z3) := g1
  refine sx_callSW (As := [.ref xb, .int (xs (i + 1).toNatClampNeg), .ref ob]) (rest := []) C hs (c_L_cash hfl g1) mo_L_cash q1131 rfl hl.1 ⟨⟨(Nat.le_of_ble_eq_true rfl), (Nat.le_of_ble_eq_true rfl)⟩, by omega, by omega⟩ rfl (Nat.le_of_ble_eq_true rfl) dL_law_2428 (fun z6 _ H locs hs => ?_)
  refine W.eq (g2 := F0 m 2431 ls [.int k1]) rfl ?_
  refine lv_istore (lv' := [(5, .int k1), (4, .int i), (3, .ref ob), (2, .ref mb), (1, .ref xb), (0, .ref b)]) C.1 C.2.1 dL_law_2431 hl (by decide) rfl (fun ls hl => ?_)
  refine lv_aload_n C.1 C.2.1 dL_law_2433 rfl (lv_at hl 3 rfl) ?_
  refine lv_aload_n C.1 C.2.1 dL_law_2434 rfl (lv_at hl 5 rfl) ?_
  refine lv_iload C.1 C.2.1 dL_law_2435 (lv_at hl 1 rfl) ?_
  refine lv_iconst (v := 1) C.1 C.2.1 dL_law_2437 (by decide) ?_
  refine lv_iadd C.1 C.2.1 dL_law_2438 ?_
  refine va_sld C.1 C.2.1 hX hbl hbA hs.2.2 hi1 dL_law_2439 ?_
  have g3 : f_X12_cash N σ2 mb (xs (i + 1).toNatClampNeg) = some (r4, σ5) := g3
  refine sx_callV (As := [.int (xs (i + 1).toNatClampNeg)]) (rest := []) C hs (c_X12_cash g3) mo_X12_cash q1821 g2 rfl rfl hl.1 ⟨⟨(Nat.le_of_ble_eq_true rfl), (Nat.le_of_ble_eq_true rfl)⟩, by omega, by omega⟩ rfl (Nat.le_of_ble_eq_true rfl) dL_law_2440 (fun H locs hs => ?_)
  refine W.eq (g2 := F0 m 2443 ls [.long r4]) rfl ?_
  refine lv_lstore (lv' := [(6, .long r4), (5, .int k1), (4, .int i), (3, .ref ob), (2, .ref mb), (1, .ref xb), (0, .ref b)]) C.1 C.2.1 dL_law_2443 hl (by decide) rfl (fun ls hl => ?_)
  refine lv_aload_n C.1 C.2.1 dL_law_2445 rfl (lv_at hl 4 rfl) ?_
  refine sx_callV (As := []) (rest := []) C hs (c_X12_thrown g5) mo_X12_thrown q1511 g4 rfl rfl hl.1 ⟨⟨(Nat.le_of_ble_eq_true rfl), (Nat.le_of_ble_eq_true rfl)⟩, by omega, by omega⟩ rfl (Nat.le_of_ble_eq_true rfl) dL_law_2446 (fun H locs hs => ?_)
  refine W.eq (g2 := F0 m 2449 ls [.int k1]) rfl ?_
  refine lv_iload C.1 C.2.1 dL_law_2449 (lv_at hl 1 rfl) ?_
  refine lv_icmp_eq (tgt := 2456) C.1 C.2.1 dL_law_2451 (by decide) (fun c7 => ?_) (fun c7 => absurd rfl c7)
  refine lv_iload C.1 C.2.1 dL_law_2456 (lv_at hl 1 rfl) ?_
  refine lv_if_ne (tgt := 2472) C.1 C.2.1 dL_law_2458 (by decide) (fun c8 => ?_) (fun c8 => ?_)
  · refine lv_goto (tgt := 3547) C.1 C.2.1 dL_law_2472 (by decide) ?_
    refine W.widen (k := cells + 5) (n := slots + 2048) (by omega) (by omega) ?_
    exact kk _ _ _ _ _ hs hI (lv_sub hl [2, 3, 4, 5, 6] rfl)
  · refine lv_aload_n C.1 C.2.1 dL_law_2461 rfl (lv_at hl 3 rfl) ?_
    refine lv_iconst (v := 0) C.1 C.2.1 dL_law_2462 (by decide) ?_
    have g7 : aL σ5 ob 2 0 = some (r4) := g6 c8
    refine sx_lald C hs g7 dL_law_2463 ?_
    refine lv_lload C.1 C.2.1 dL_law_2464 (lv_at hl 0 rfl) ?_
    refine W.lcmp C.1 C.2.1 dL_law_2466 ?_
    refine lv_if_eq (tgt := 2472) C.1 C.2.1 dL_law_2467 (by decide) (fun c9 => ?_) (fun c9 => absurd ((lg_cmp_eq _ _).mpr rfl) c9)
    refine lv_goto (tgt := 3547) C.1 C.2.1 dL_law_2472 (by decide) ?_
    refine W.widen (k := cells + 5) (n := slots + 2048) (by omega) (by omega) ?_
    exact kk _ _ _ _ _ hs hI (lv_sub hl [2, 3, 4, 5, 6] rfl)
def A_weigh (I : Nat → Sto → Prop) (N xb mb ob : Nat) : Prop := ∀ (v1 : Int32), Ag I mb ob (fun x : Int32 => x.toInt64) (fun σ sz => f_L_weigh σ sz xb v1 ob) (fun σ => f_X12_weigh σ mb v1)
set_option maxHeartbeats 4000000 in
set_option maxRecDepth 100000 in
theorem lc_weigh {l : Launch} (hfl : l.stackTraces = false) {g : PP} {p : Program} {e : Env} {s : State} {m : MethodId} {args : Array Value} {below : List Frame} {meth : Method} {c : Code} {N : Nat} {I : Nat → Sto → Prop} {n : Nat} (hn : n < 512) {xs : Nat → Int32} {b L xb mb ob : Nat} {i : Int32} (C : Cx g p s m meth c cL_law 8 "TillhouseLaw") (hX : va_X b L xs s s.heap) (hbl : b < s.heap.size) (hbA : ¬ Aw g b) (hi0 : vp_in i L) (hi1 : vp_in (i + 1) L) (hi2 : vp_in (i + 2) L) (hi3 : vp_in (i + 3) L) (hi4 : vp_in (i + 4) L) (hi5 : vp_in (i + 5) L) (hi6 : vp_in (i + 6) L)
    (A : A_weigh I N xb mb ob) {σ : Sto} {sz : Nat} {H : Heap} {locs : List Loc} {ls : Array Slot} {cells slots : Nat} (hs : HS g s σ sz H locs) (hI : I n σ) (hl : lv_has ls 8 [(4, .int i), (3, .ref ob), (2, .ref mb), (1, .ref xb), (0, .ref b)]) (hc : cells + 5 ≤ room_1.cells) (hS : slots + 2048 ≤ room_1.slots) {Q : State → Prop}
    (kk : ∀ (σ : Sto) (sz : Nat) (H : Heap) (locs : List Loc) (ls : Array Slot), HS g s σ sz H locs → I (n + 1) σ → lv_has ls 8 [(4, .int i), (3, .ref ob), (2, .ref mb), (1, .ref xb), (0, .ref b)] → W p l e room_1 s m args below meth c H locs (cells + 5) (slots + 2048) Q (F0 m 3547 ls [])) : W p l e room_1 s m args below meth c H locs cells slots Q (F0 m 2475 ls []) := by
  refine lv_aload_n C.1 C.2.1 dL_law_2475 rfl (lv_at hl 3 rfl) ?_
  refine lv_aload_n C.1 C.2.1 dL_law_2476 rfl (lv_at hl 4 rfl) ?_
  refine lv_iload C.1 C.2.1 dL_law_2477 (lv_at hl 0 rfl) ?_
  refine lv_iconst (v := 1) C.1 C.2.1 dL_law_2479 (by decide) ?_
  refine lv_iadd C.1 C.2.1 dL_law_2480 ?_
  refine va_sld C.1 C.2.1 hX hbl hbA hs.2.2 hi1 dL_law_2481 ?_
  refine lv_aload_n C.1 C.2.1 dL_law_2482 rfl (lv_at hl 1 rfl) ?_
  obtain ⟨k1, σ2, z3, r4, σ5, g1, g2, g3, g4, g5, g6, hI⟩ := A (xs (i + 1).toNatClampNeg) _ _ _ hn hI (HS.fr hs)
  have g1 : f_L_weigh σ sz xb (xs (i + 1).toNatClampNeg) ob = some (k1, σ2, z3) := g1
  refine sx_callSW (As := [.ref xb, .int (xs (i + 1).toNatClampNeg), .ref ob]) (rest := []) C hs (c_L_weigh hfl g1) mo_L_weigh q1139 rfl hl.1 ⟨⟨(Nat.le_of_ble_eq_true rfl), (Nat.le_of_ble_eq_true rfl)⟩, by omega, by omega⟩ rfl (Nat.le_of_ble_eq_true rfl) dL_law_2483 (fun z6 _ H locs hs => ?_)
  refine W.eq (g2 := F0 m 2486 ls [.int k1]) rfl ?_
  refine lv_istore (lv' := [(5, .int k1), (4, .int i), (3, .ref ob), (2, .ref mb), (1, .ref xb), (0, .ref b)]) C.1 C.2.1 dL_law_2486 hl (by decide) rfl (fun ls hl => ?_)
  refine lv_aload_n C.1 C.2.1 dL_law_2488 rfl (lv_at hl 3 rfl) ?_
  refine lv_aload_n C.1 C.2.1 dL_law_2489 rfl (lv_at hl 5 rfl) ?_
  refine lv_iload C.1 C.2.1 dL_law_2490 (lv_at hl 1 rfl) ?_
  refine lv_iconst (v := 1) C.1 C.2.1 dL_law_2492 (by decide) ?_
  refine lv_iadd C.1 C.2.1 dL_law_2493 ?_
  refine va_sld C.1 C.2.1 hX hbl hbA hs.2.2 hi1 dL_law_2494 ?_
  have g3 : f_X12_weigh σ2 mb (xs (i + 1).toNatClampNeg) = some (r4, σ5) := g3
  refine sx_callV (As := [.int (xs (i + 1).toNatClampNeg)]) (rest := []) C hs (c_X12_weigh g3) mo_X12_weigh q1825 g2 rfl rfl hl.1 ⟨⟨(Nat.le_of_ble_eq_true rfl), (Nat.le_of_ble_eq_true rfl)⟩, by omega, by omega⟩ rfl (Nat.le_of_ble_eq_true rfl) dL_law_2495 (fun H locs hs => ?_)
  refine W.eq (g2 := F0 m 2498 ls [.int r4]) rfl ?_
  refine lv_istore (lv' := [(6, .int r4), (5, .int k1), (4, .int i), (3, .ref ob), (2, .ref mb), (1, .ref xb), (0, .ref b)]) C.1 C.2.1 dL_law_2498 hl (by decide) rfl (fun ls hl => ?_)
  refine lv_aload_n C.1 C.2.1 dL_law_2500 rfl (lv_at hl 4 rfl) ?_
  refine sx_callV (As := []) (rest := []) C hs (c_X12_thrown g5) mo_X12_thrown q1511 g4 rfl rfl hl.1 ⟨⟨(Nat.le_of_ble_eq_true rfl), (Nat.le_of_ble_eq_true rfl)⟩, by omega, by omega⟩ rfl (Nat.le_of_ble_eq_true rfl) dL_law_2501 (fun H locs hs => ?_)
  refine W.eq (g2 := F0 m 2504 ls [.int k1]) rfl ?_
  refine lv_iload C.1 C.2.1 dL_law_2504 (lv_at hl 1 rfl) ?_
  refine lv_icmp_eq (tgt := 2511) C.1 C.2.1 dL_law_2506 (by decide) (fun c7 => ?_) (fun c7 => absurd rfl c7)
  refine lv_iload C.1 C.2.1 dL_law_2511 (lv_at hl 1 rfl) ?_
  refine lv_if_ne (tgt := 2528) C.1 C.2.1 dL_law_2513 (by decide) (fun c8 => ?_) (fun c8 => ?_)
  · refine lv_goto (tgt := 3547) C.1 C.2.1 dL_law_2528 (by decide) ?_
    refine W.widen (k := cells + 5) (n := slots + 2048) (by omega) (by omega) ?_
    exact kk _ _ _ _ _ hs hI (lv_sub hl [2, 3, 4, 5, 6] rfl)
  · refine lv_aload_n C.1 C.2.1 dL_law_2516 rfl (lv_at hl 3 rfl) ?_
    refine lv_iconst (v := 0) C.1 C.2.1 dL_law_2517 (by decide) ?_
    have g7 : aL σ5 ob 2 0 = some (Int32.toInt64 r4) := g6 c8
    refine sx_lald C hs g7 dL_law_2518 ?_
    refine lv_iload C.1 C.2.1 dL_law_2519 (lv_at hl 0 rfl) ?_
    refine lv_i2l (v := Int32.toInt64 r4) C.1 C.2.1 dL_law_2521 rfl ?_
    refine W.lcmp C.1 C.2.1 dL_law_2522 ?_
    refine lv_if_eq (tgt := 2528) C.1 C.2.1 dL_law_2523 (by decide) (fun c9 => ?_) (fun c9 => absurd ((lg_cmp_eq _ _).mpr rfl) c9)
    refine lv_goto (tgt := 3547) C.1 C.2.1 dL_law_2528 (by decide) ?_
    refine W.widen (k := cells + 5) (n := slots + 2048) (by omega) (by omega) ?_
    exact kk _ _ _ _ _ hs hI (lv_sub hl [2, 3, 4, 5, 6] rfl)
def A_share (I : Nat → Sto → Prop) (N xb mb ob : Nat) : Prop := ∀ (v1 : Int64) (v3 : Int32), Ag I mb ob (fun x : Int32 => x.toInt64) (fun σ sz => f_L_share N σ sz xb v1 v3 ob) (fun σ => f_X12_share N σ mb v1 v3)
set_option maxHeartbeats 4000000 in
set_option maxRecDepth 100000 in
theorem lc_share {l : Launch} (hfl : l.stackTraces = false) {g : PP} {p : Program} {e : Env} {s : State} {m : MethodId} {args : Array Value} {below : List Frame} {meth : Method} {c : Code} {N : Nat} {I : Nat → Sto → Prop} {n : Nat} (hn : n < 512) {xs : Nat → Int32} {b L xb mb ob : Nat} {i : Int32} (C : Cx g p s m meth c cL_law 8 "TillhouseLaw") (hX : va_X b L xs s s.heap) (hbl : b < s.heap.size) (hbA : ¬ Aw g b) (hi0 : vp_in i L) (hi1 : vp_in (i + 1) L) (hi2 : vp_in (i + 2) L) (hi3 : vp_in (i + 3) L) (hi4 : vp_in (i + 4) L) (hi5 : vp_in (i + 5) L) (hi6 : vp_in (i + 6) L)
    (A : A_share I N xb mb ob) {σ : Sto} {sz : Nat} {H : Heap} {locs : List Loc} {ls : Array Slot} {cells slots : Nat} (hs : HS g s σ sz H locs) (hI : I n σ) (hl : lv_has ls 8 [(4, .int i), (3, .ref ob), (2, .ref mb), (1, .ref xb), (0, .ref b)]) (hc : cells + 5 ≤ room_1.cells) (hS : slots + 2048 ≤ room_1.slots) {Q : State → Prop}
    (kk : ∀ (σ : Sto) (sz : Nat) (H : Heap) (locs : List Loc) (ls : Array Slot), HS g s σ sz H locs → I (n + 1) σ → lv_has ls 8 [(4, .int i), (3, .ref ob), (2, .ref mb), (1, .ref xb), (0, .ref b)] → W p l e room_1 s m args below meth c H locs (cells + 5) (slots + 2048) Q (F0 m 3547 ls [])) : W p l e room_1 s m args below meth c H locs cells slots Q (F0 m 2531 ls []) := by
  refine lv_aload_n C.1 C.2.1 dL_law_2531 rfl (lv_at hl 3 rfl) ?_
  refine lv_aload_n C.1 C.2.1 dL_law_2532 rfl (lv_at hl 4 rfl) ?_
  refine lv_iload C.1 C.2.1 dL_law_2533 (lv_at hl 0 rfl) ?_
  refine lv_iconst (v := 1) C.1 C.2.1 dL_law_2535 (by decide) ?_
  refine lv_iadd C.1 C.2.1 dL_law_2536 ?_
  refine va_sld C.1 C.2.1 hX hbl hbA hs.2.2 hi1 dL_law_2537 ?_
  refine lv_i2l (v := Int32.toInt64 (xs (i + 1).toNatClampNeg)) C.1 C.2.1 dL_law_2538 rfl ?_
  refine lv_bipush (v := 32) C.1 C.2.1 dL_law_2539 (by decide) ?_
  refine lv_lshl (v := (Int32.toInt64 (xs (i + 1).toNatClampNeg)) <<< (Int32.toInt64 32 &&& 63)) C.1 C.2.1 dL_law_2541 rfl ?_
  refine lv_aload_n C.1 C.2.1 dL_law_2542 rfl (lv_at hl 4 rfl) ?_
  refine lv_iload C.1 C.2.1 dL_law_2543 (lv_at hl 0 rfl) ?_
  refine lv_iconst (v := 2) C.1 C.2.1 dL_law_2545 (by decide) ?_
  refine lv_iadd C.1 C.2.1 dL_law_2546 ?_
  refine va_sld C.1 C.2.1 hX hbl hbA hs.2.2 hi2 dL_law_2547 ?_
  refine lv_i2l (v := Int32.toInt64 (xs (i + 2).toNatClampNeg)) C.1 C.2.1 dL_law_2548 rfl ?_
  refine lv_ldc2 (v := 4294967295) C.1 C.2.1 C.2.2.2.1 (C.2.2.2.2.1.1 _ q1898 _) dL_law_2549 ?_
  refine lv_land C.1 C.2.1 dL_law_2552 ?_
  refine lv_lor C.1 C.2.1 dL_law_2553 ?_
  refine lv_aload_n C.1 C.2.1 dL_law_2554 rfl (lv_at hl 4 rfl) ?_
  refine lv_iload C.1 C.2.1 dL_law_2555 (lv_at hl 0 rfl) ?_
  refine lv_iconst (v := 3) C.1 C.2.1 dL_law_2557 (by decide) ?_
  refine lv_iadd C.1 C.2.1 dL_law_2558 ?_
  refine va_sld C.1 C.2.1 hX hbl hbA hs.2.2 hi3 dL_law_2559 ?_
  refine lv_i2c (v := (Int32.toUInt32 (xs (i + 3).toNatClampNeg) % 65536).toInt32) C.1 C.2.1 dL_law_2560 rfl ?_
  refine lv_aload_n C.1 C.2.1 dL_law_2561 rfl (lv_at hl 1 rfl) ?_
  obtain ⟨k1, σ2, z3, r4, σ5, g1, g2, g3, g4, g5, g6, hI⟩ := A (((Int32.toInt64 (xs (i + 1).toNatClampNeg)) <<< (Int32.toInt64 32 &&& 63)) ||| ((Int32.toInt64 (xs (i + 2).toNatClampNeg)) &&& 4294967295)) ((Int32.toUInt32 (xs (i + 3).toNatClampNeg) % 65536).toInt32) _ _ _ hn hI (HS.fr hs)
  have g1 : f_L_share N σ sz xb (((Int32.toInt64 (xs (i + 1).toNatClampNeg)) <<< (Int32.toInt64 32 &&& 63)) ||| ((Int32.toInt64 (xs (i + 2).toNatClampNeg)) &&& 4294967295)) ((Int32.toUInt32 (xs (i + 3).toNatClampNeg) % 65536).toInt32) ob = some (k1, σ2, z3) := g1
  refine sx_callSW (As := [.ref xb, .long (((Int32.toInt64 (xs (i + 1).toNatClampNeg)) <<< (Int32.toInt64 32 &&& 63)) ||| ((Int32.toInt64 (xs (i + 2).toNatClampNeg)) &&& 4294967295)), .int ((Int32.toUInt32 (xs (i + 3).toNatClampNeg) % 65536).toInt32), .ref ob]) (rest := []) C hs (c_L_share hfl g1) mo_L_share q1155 rfl hl.1 ⟨⟨(Nat.le_of_ble_eq_true rfl), (Nat.le_of_ble_eq_true rfl)⟩, by omega, by omega⟩ rfl (Nat.le_of_ble_eq_true rfl) dL_law_2562 (fun z6 _ H locs hs => ?_)
  refine W.eq (g2 := F0 m 2565 ls [.int k1]) rfl ?_
  refine lv_istore (lv' := [(5, .int k1), (4, .int i), (3, .ref ob), (2, .ref mb), (1, .ref xb), (0, .ref b)]) C.1 C.2.1 dL_law_2565 hl (by decide) rfl (fun ls hl => ?_)
  refine lv_aload_n C.1 C.2.1 dL_law_2567 rfl (lv_at hl 3 rfl) ?_
  refine lv_aload_n C.1 C.2.1 dL_law_2568 rfl (lv_at hl 5 rfl) ?_
  refine lv_iload C.1 C.2.1 dL_law_2569 (lv_at hl 1 rfl) ?_
  refine lv_iconst (v := 1) C.1 C.2.1 dL_law_2571 (by decide) ?_
  refine lv_iadd C.1 C.2.1 dL_law_2572 ?_
  refine va_sld C.1 C.2.1 hX hbl hbA hs.2.2 hi1 dL_law_2573 ?_
  refine lv_i2l (v := Int32.toInt64 (xs (i + 1).toNatClampNeg)) C.1 C.2.1 dL_law_2574 rfl ?_
  refine lv_bipush (v := 32) C.1 C.2.1 dL_law_2575 (by decide) ?_
  refine lv_lshl (v := (Int32.toInt64 (xs (i + 1).toNatClampNeg)) <<< (Int32.toInt64 32 &&& 63)) C.1 C.2.1 dL_law_2577 rfl ?_
  refine lv_aload_n C.1 C.2.1 dL_law_2578 rfl (lv_at hl 5 rfl) ?_
  refine lv_iload C.1 C.2.1 dL_law_2579 (lv_at hl 1 rfl) ?_
  refine lv_iconst (v := 2) C.1 C.2.1 dL_law_2581 (by decide) ?_
  refine lv_iadd C.1 C.2.1 dL_law_2582 ?_
  refine va_sld C.1 C.2.1 hX hbl hbA hs.2.2 hi2 dL_law_2583 ?_
  refine lv_i2l (v := Int32.toInt64 (xs (i + 2).toNatClampNeg)) C.1 C.2.1 dL_law_2584 rfl ?_
  refine lv_ldc2 (v := 4294967295) C.1 C.2.1 C.2.2.2.1 (C.2.2.2.2.1.1 _ q1898 _) dL_law_2585 ?_
  refine lv_land C.1 C.2.1 dL_law_2588 ?_
  refine lv_lor C.1 C.2.1 dL_law_2589 ?_
  refine lv_aload_n C.1 C.2.1 dL_law_2590 rfl (lv_at hl 5 rfl) ?_
  refine lv_iload C.1 C.2.1 dL_law_2591 (lv_at hl 1 rfl) ?_
  refine lv_iconst (v := 3) C.1 C.2.1 dL_law_2593 (by decide) ?_
  refine lv_iadd C.1 C.2.1 dL_law_2594 ?_
  refine va_sld C.1 C.2.1 hX hbl hbA hs.2.2 hi3 dL_law_2595 ?_
  refine lv_i2c (v := (Int32.toUInt32 (xs (i + 3).toNatClampNeg) % 65536).toInt32) C.1 C.2.1 dL_law_2596 rfl ?_
  have g3 : f_X12_share N σ2 mb (((Int32.toInt64 (xs (i + 1).toNatClampNeg)) <<< (Int32.toInt64 32 &&& 63)) ||| ((Int32.toInt64 (xs (i + 2).toNatClampNeg)) &&& 4294967295)) ((Int32.toUInt32 (xs (i + 3).toNatClampNeg) % 65536).toInt32) = some (r4, σ5) := g3
  refine sx_callV (As := [.long (((Int32.toInt64 (xs (i + 1).toNatClampNeg)) <<< (Int32.toInt64 32 &&& 63)) ||| ((Int32.toInt64 (xs (i + 2).toNatClampNeg)) &&& 4294967295)), .int ((Int32.toUInt32 (xs (i + 3).toNatClampNeg) % 65536).toInt32)]) (rest := []) C hs (c_X12_share g3) mo_X12_share q1829 g2 rfl rfl hl.1 ⟨⟨(Nat.le_of_ble_eq_true rfl), (Nat.le_of_ble_eq_true rfl)⟩, by omega, by omega⟩ rfl (Nat.le_of_ble_eq_true rfl) dL_law_2597 (fun H locs hs => ?_)
  refine W.eq (g2 := F0 m 2600 ls [.int r4]) rfl ?_
  refine lv_istore (lv' := [(6, .int r4), (5, .int k1), (4, .int i), (3, .ref ob), (2, .ref mb), (1, .ref xb), (0, .ref b)]) C.1 C.2.1 dL_law_2600 hl (by decide) rfl (fun ls hl => ?_)
  refine lv_aload_n C.1 C.2.1 dL_law_2602 rfl (lv_at hl 4 rfl) ?_
  refine sx_callV (As := []) (rest := []) C hs (c_X12_thrown g5) mo_X12_thrown q1511 g4 rfl rfl hl.1 ⟨⟨(Nat.le_of_ble_eq_true rfl), (Nat.le_of_ble_eq_true rfl)⟩, by omega, by omega⟩ rfl (Nat.le_of_ble_eq_true rfl) dL_law_2603 (fun H locs hs => ?_)
  refine W.eq (g2 := F0 m 2606 ls [.int k1]) rfl ?_
  refine lv_iload C.1 C.2.1 dL_law_2606 (lv_at hl 1 rfl) ?_
  refine lv_icmp_eq (tgt := 2613) C.1 C.2.1 dL_law_2608 (by decide) (fun c7 => ?_) (fun c7 => absurd rfl c7)
  refine lv_iload C.1 C.2.1 dL_law_2613 (lv_at hl 1 rfl) ?_
  refine lv_if_ne (tgt := 2630) C.1 C.2.1 dL_law_2615 (by decide) (fun c8 => ?_) (fun c8 => ?_)
  · refine lv_goto (tgt := 3547) C.1 C.2.1 dL_law_2630 (by decide) ?_
    refine W.widen (k := cells + 5) (n := slots + 2048) (by omega) (by omega) ?_
    exact kk _ _ _ _ _ hs hI (lv_sub hl [2, 3, 4, 5, 6] rfl)
  · refine lv_aload_n C.1 C.2.1 dL_law_2618 rfl (lv_at hl 3 rfl) ?_
    refine lv_iconst (v := 0) C.1 C.2.1 dL_law_2619 (by decide) ?_
    have g7 : aL σ5 ob 2 0 = some (Int32.toInt64 r4) := g6 c8
    refine sx_lald C hs g7 dL_law_2620 ?_
    refine lv_iload C.1 C.2.1 dL_law_2621 (lv_at hl 0 rfl) ?_
    refine lv_i2l (v := Int32.toInt64 r4) C.1 C.2.1 dL_law_2623 rfl ?_
    refine W.lcmp C.1 C.2.1 dL_law_2624 ?_
    refine lv_if_eq (tgt := 2630) C.1 C.2.1 dL_law_2625 (by decide) (fun c9 => ?_) (fun c9 => absurd ((lg_cmp_eq _ _).mpr rfl) c9)
    refine lv_goto (tgt := 3547) C.1 C.2.1 dL_law_2630 (by decide) ?_
    refine W.widen (k := cells + 5) (n := slots + 2048) (by omega) (by omega) ?_
    exact kk _ _ _ _ _ hs hI (lv_sub hl [2, 3, 4, 5, 6] rfl)
def A_part (I : Nat → Sto → Prop) (N xb mb ob : Nat) : Prop := ∀ (v1 : Int32), Ag I mb ob (fun x : Int64 => x) (fun σ sz => f_L_part σ sz xb v1 ob) (fun σ => f_X12_part_ σ mb v1)
set_option maxHeartbeats 4000000 in
set_option maxRecDepth 100000 in
theorem lc_part {l : Launch} (hfl : l.stackTraces = false) {g : PP} {p : Program} {e : Env} {s : State} {m : MethodId} {args : Array Value} {below : List Frame} {meth : Method} {c : Code} {N : Nat} {I : Nat → Sto → Prop} {n : Nat} (hn : n < 512) {xs : Nat → Int32} {b L xb mb ob : Nat} {i : Int32} (C : Cx g p s m meth c cL_law 8 "TillhouseLaw") (hX : va_X b L xs s s.heap) (hbl : b < s.heap.size) (hbA : ¬ Aw g b) (hi0 : vp_in i L) (hi1 : vp_in (i + 1) L) (hi2 : vp_in (i + 2) L) (hi3 : vp_in (i + 3) L) (hi4 : vp_in (i + 4) L) (hi5 : vp_in (i + 5) L) (hi6 : vp_in (i + 6) L)
    (A : A_part I N xb mb ob) {σ : Sto} {sz : Nat} {H : Heap} {locs : List Loc} {ls : Array Slot} {cells slots : Nat} (hs : HS g s σ sz H locs) (hI : I n σ) (hl : lv_has ls 8 [(4, .int i), (3, .ref ob), (2, .ref mb), (1, .ref xb), (0, .ref b)]) (hc : cells + 5 ≤ room_1.cells) (hS : slots + 2048 ≤ room_1.slots) {Q : State → Prop}
    (kk : ∀ (σ : Sto) (sz : Nat) (H : Heap) (locs : List Loc) (ls : Array Slot), HS g s σ sz H locs → I (n + 1) σ → lv_has ls 8 [(4, .int i), (3, .ref ob), (2, .ref mb), (1, .ref xb), (0, .ref b)] → W p l e room_1 s m args below meth c H locs (cells + 5) (slots + 2048) Q (F0 m 3547 ls [])) : W p l e room_1 s m args below meth c H locs cells slots Q (F0 m 2633 ls []) := by
  refine lv_aload_n C.1 C.2.1 dL_law_2633 rfl (lv_at hl 3 rfl) ?_
  refine lv_aload_n C.1 C.2.1 dL_law_2634 rfl (lv_at hl 4 rfl) ?_
  refine lv_iload C.1 C.2.1 dL_law_2635 (lv_at hl 0 rfl) ?_
  refine lv_iconst (v := 1) C.1 C.2.1 dL_law_2637 (by decide) ?_
  refine lv_iadd C.1 C.2.1 dL_law_2638 ?_
  refine va_sld C.1 C.2.1 hX hbl hbA hs.2.2 hi1 dL_law_2639 ?_
  refine lv_aload_n C.1 C.2.1 dL_law_2640 rfl (lv_at hl 1 rfl) ?_
  obtain ⟨k1, σ2, z3, r4, σ5, g1, g2, g3, g4, g5, g6, hI⟩ := A (xs (i + 1).toNatClampNeg) _ _ _ hn hI (HS.fr hs)
  have g1 : f_L_part σ sz xb (xs (i + 1).toNatClampNeg) ob = some (k1, σ2, z3) := g1
  refine sx_callSW (As := [.ref xb, .int (xs (i + 1).toNatClampNeg), .ref ob]) (rest := []) C hs (c_L_part hfl g1) mo_L_part q1186 rfl hl.1 ⟨⟨(Nat.le_of_ble_eq_true rfl), (Nat.le_of_ble_eq_true rfl)⟩, by omega, by omega⟩ rfl (Nat.le_of_ble_eq_true rfl) dL_law_2641 (fun z6 _ H locs hs => ?_)
  refine W.eq (g2 := F0 m 2644 ls [.int k1]) rfl ?_
  refine lv_istore (lv' := [(5, .int k1), (4, .int i), (3, .ref ob), (2, .ref mb), (1, .ref xb), (0, .ref b)]) C.1 C.2.1 dL_law_2644 hl (by decide) rfl (fun ls hl => ?_)
  refine lv_aload_n C.1 C.2.1 dL_law_2646 rfl (lv_at hl 3 rfl) ?_
  refine lv_aload_n C.1 C.2.1 dL_law_2647 rfl (lv_at hl 5 rfl) ?_
  refine lv_iload C.1 C.2.1 dL_law_2648 (lv_at hl 1 rfl) ?_
  refine lv_iconst (v := 1) C.1 C.2.1 dL_law_2650 (by decide) ?_
  refine lv_iadd C.1 C.2.1 dL_law_2651 ?_
  refine va_sld C.1 C.2.1 hX hbl hbA hs.2.2 hi1 dL_law_2652 ?_
  have g3 : f_X12_part_ σ2 mb (xs (i + 1).toNatClampNeg) = some (r4, σ5) := g3
  refine sx_callV (As := [.int (xs (i + 1).toNatClampNeg)]) (rest := []) C hs (c_X12_part_ g3) mo_X12_part_ q1833 g2 rfl rfl hl.1 ⟨⟨(Nat.le_of_ble_eq_true rfl), (Nat.le_of_ble_eq_true rfl)⟩, by omega, by omega⟩ rfl (Nat.le_of_ble_eq_true rfl) dL_law_2653 (fun H locs hs => ?_)
  refine W.eq (g2 := F0 m 2656 ls [.long r4]) rfl ?_
  refine lv_lstore (lv' := [(6, .long r4), (5, .int k1), (4, .int i), (3, .ref ob), (2, .ref mb), (1, .ref xb), (0, .ref b)]) C.1 C.2.1 dL_law_2656 hl (by decide) rfl (fun ls hl => ?_)
  refine lv_aload_n C.1 C.2.1 dL_law_2658 rfl (lv_at hl 4 rfl) ?_
  refine sx_callV (As := []) (rest := []) C hs (c_X12_thrown g5) mo_X12_thrown q1511 g4 rfl rfl hl.1 ⟨⟨(Nat.le_of_ble_eq_true rfl), (Nat.le_of_ble_eq_true rfl)⟩, by omega, by omega⟩ rfl (Nat.le_of_ble_eq_true rfl) dL_law_2659 (fun H locs hs => ?_)
  refine W.eq (g2 := F0 m 2662 ls [.int k1]) rfl ?_
  refine lv_iload C.1 C.2.1 dL_law_2662 (lv_at hl 1 rfl) ?_
  refine lv_icmp_eq (tgt := 2669) C.1 C.2.1 dL_law_2664 (by decide) (fun c7 => ?_) (fun c7 => absurd rfl c7)
  refine lv_iload C.1 C.2.1 dL_law_2669 (lv_at hl 1 rfl) ?_
  refine lv_if_ne (tgt := 2685) C.1 C.2.1 dL_law_2671 (by decide) (fun c8 => ?_) (fun c8 => ?_)
  · refine lv_goto (tgt := 3547) C.1 C.2.1 dL_law_2685 (by decide) ?_
    refine W.widen (k := cells + 5) (n := slots + 2048) (by omega) (by omega) ?_
    exact kk _ _ _ _ _ hs hI (lv_sub hl [2, 3, 4, 5, 6] rfl)
  · refine lv_aload_n C.1 C.2.1 dL_law_2674 rfl (lv_at hl 3 rfl) ?_
    refine lv_iconst (v := 0) C.1 C.2.1 dL_law_2675 (by decide) ?_
    have g7 : aL σ5 ob 2 0 = some (r4) := g6 c8
    refine sx_lald C hs g7 dL_law_2676 ?_
    refine lv_lload C.1 C.2.1 dL_law_2677 (lv_at hl 0 rfl) ?_
    refine W.lcmp C.1 C.2.1 dL_law_2679 ?_
    refine lv_if_eq (tgt := 2685) C.1 C.2.1 dL_law_2680 (by decide) (fun c9 => ?_) (fun c9 => absurd ((lg_cmp_eq _ _).mpr rfl) c9)
    refine lv_goto (tgt := 3547) C.1 C.2.1 dL_law_2685 (by decide) ?_
    refine W.widen (k := cells + 5) (n := slots + 2048) (by omega) (by omega) ?_
    exact kk _ _ _ _ _ hs hI (lv_sub hl [2, 3, 4, 5, 6] rfl)
def A_interest (I : Nat → Sto → Prop) (N xb mb ob : Nat) : Prop := ∀ (v1 : Int64) (v3 : Int32) (v4 : Int32) (v5 : Int32) (v6 : Int32), Ag I mb ob (fun x : Int64 => x) (fun σ sz => f_L_interest σ sz xb v1 v3 v4 v5 v6 ob) (fun σ => f_X12_interest N σ mb v1 v3 v4 v5 v6)
set_option maxHeartbeats 4000000 in
set_option maxRecDepth 100000 in
theorem lc_interest {l : Launch} (hfl : l.stackTraces = false) {g : PP} {p : Program} {e : Env} {s : State} {m : MethodId} {args : Array Value} {below : List Frame} {meth : Method} {c : Code} {N : Nat} {I : Nat → Sto → Prop} {n : Nat} (hn : n < 512) {xs : Nat → Int32} {b L xb mb ob : Nat} {i : Int32} (C : Cx g p s m meth c cL_law 8 "TillhouseLaw") (hX : va_X b L xs s s.heap) (hbl : b < s.heap.size) (hbA : ¬ Aw g b) (hi0 : vp_in i L) (hi1 : vp_in (i + 1) L) (hi2 : vp_in (i + 2) L) (hi3 : vp_in (i + 3) L) (hi4 : vp_in (i + 4) L) (hi5 : vp_in (i + 5) L) (hi6 : vp_in (i + 6) L)
    (A : A_interest I N xb mb ob) {σ : Sto} {sz : Nat} {H : Heap} {locs : List Loc} {ls : Array Slot} {cells slots : Nat} (hs : HS g s σ sz H locs) (hI : I n σ) (hl : lv_has ls 8 [(4, .int i), (3, .ref ob), (2, .ref mb), (1, .ref xb), (0, .ref b)]) (hc : cells + 5 ≤ room_1.cells) (hS : slots + 2048 ≤ room_1.slots) {Q : State → Prop}
    (kk : ∀ (σ : Sto) (sz : Nat) (H : Heap) (locs : List Loc) (ls : Array Slot), HS g s σ sz H locs → I (n + 1) σ → lv_has ls 8 [(4, .int i), (3, .ref ob), (2, .ref mb), (1, .ref xb), (0, .ref b)] → W p l e room_1 s m args below meth c H locs (cells + 5) (slots + 2048) Q (F0 m 3547 ls [])) : W p l e room_1 s m args below meth c H locs cells slots Q (F0 m 2688 ls []) := by
  refine lv_aload_n C.1 C.2.1 dL_law_2688 rfl (lv_at hl 3 rfl) ?_
  refine lv_aload_n C.1 C.2.1 dL_law_2689 rfl (lv_at hl 4 rfl) ?_
  refine lv_iload C.1 C.2.1 dL_law_2690 (lv_at hl 0 rfl) ?_
  refine lv_iconst (v := 1) C.1 C.2.1 dL_law_2692 (by decide) ?_
  refine lv_iadd C.1 C.2.1 dL_law_2693 ?_
  refine va_sld C.1 C.2.1 hX hbl hbA hs.2.2 hi1 dL_law_2694 ?_
  refine lv_i2l (v := Int32.toInt64 (xs (i + 1).toNatClampNeg)) C.1 C.2.1 dL_law_2695 rfl ?_
  refine lv_bipush (v := 32) C.1 C.2.1 dL_law_2696 (by decide) ?_
  refine lv_lshl (v := (Int32.toInt64 (xs (i + 1).toNatClampNeg)) <<< (Int32.toInt64 32 &&& 63)) C.1 C.2.1 dL_law_2698 rfl ?_
  refine lv_aload_n C.1 C.2.1 dL_law_2699 rfl (lv_at hl 4 rfl) ?_
  refine lv_iload C.1 C.2.1 dL_law_2700 (lv_at hl 0 rfl) ?_
  refine lv_iconst (v := 2) C.1 C.2.1 dL_law_2702 (by decide) ?_
  refine lv_iadd C.1 C.2.1 dL_law_2703 ?_
  refine va_sld C.1 C.2.1 hX hbl hbA hs.2.2 hi2 dL_law_2704 ?_
  refine lv_i2l (v := Int32.toInt64 (xs (i + 2).toNatClampNeg)) C.1 C.2.1 dL_law_2705 rfl ?_
  refine lv_ldc2 (v := 4294967295) C.1 C.2.1 C.2.2.2.1 (C.2.2.2.2.1.1 _ q1898 _) dL_law_2706 ?_
  refine lv_land C.1 C.2.1 dL_law_2709 ?_
  refine lv_lor C.1 C.2.1 dL_law_2710 ?_
  refine lv_aload_n C.1 C.2.1 dL_law_2711 rfl (lv_at hl 4 rfl) ?_
  refine lv_iload C.1 C.2.1 dL_law_2712 (lv_at hl 0 rfl) ?_
  refine lv_iconst (v := 3) C.1 C.2.1 dL_law_2714 (by decide) ?_
  refine lv_iadd C.1 C.2.1 dL_law_2715 ?_
  refine va_sld C.1 C.2.1 hX hbl hbA hs.2.2 hi3 dL_law_2716 ?_
  refine lv_aload_n C.1 C.2.1 dL_law_2717 rfl (lv_at hl 4 rfl) ?_
  refine lv_iload C.1 C.2.1 dL_law_2718 (lv_at hl 0 rfl) ?_
  refine lv_iconst (v := 4) C.1 C.2.1 dL_law_2720 (by decide) ?_
  refine lv_iadd C.1 C.2.1 dL_law_2721 ?_
  refine va_sld C.1 C.2.1 hX hbl hbA hs.2.2 hi4 dL_law_2722 ?_
  refine lv_aload_n C.1 C.2.1 dL_law_2723 rfl (lv_at hl 4 rfl) ?_
  refine lv_iload C.1 C.2.1 dL_law_2724 (lv_at hl 0 rfl) ?_
  refine lv_iconst (v := 5) C.1 C.2.1 dL_law_2726 (by decide) ?_
  refine lv_iadd C.1 C.2.1 dL_law_2727 ?_
  refine va_sld C.1 C.2.1 hX hbl hbA hs.2.2 hi5 dL_law_2728 ?_
  refine lv_aload_n C.1 C.2.1 dL_law_2729 rfl (lv_at hl 4 rfl) ?_
  refine lv_iload C.1 C.2.1 dL_law_2730 (lv_at hl 0 rfl) ?_
  refine lv_bipush (v := 6) C.1 C.2.1 dL_law_2732 (by decide) ?_
  refine lv_iadd C.1 C.2.1 dL_law_2734 ?_
  refine va_sld C.1 C.2.1 hX hbl hbA hs.2.2 hi6 dL_law_2735 ?_
  refine lv_i2c (v := (Int32.toUInt32 (xs (i + 6).toNatClampNeg) % 65536).toInt32) C.1 C.2.1 dL_law_2736 rfl ?_
  refine lv_aload_n C.1 C.2.1 dL_law_2737 rfl (lv_at hl 1 rfl) ?_
  obtain ⟨k1, σ2, z3, r4, σ5, g1, g2, g3, g4, g5, g6, hI⟩ := A (((Int32.toInt64 (xs (i + 1).toNatClampNeg)) <<< (Int32.toInt64 32 &&& 63)) ||| ((Int32.toInt64 (xs (i + 2).toNatClampNeg)) &&& 4294967295)) (xs (i + 3).toNatClampNeg) (xs (i + 4).toNatClampNeg) (xs (i + 5).toNatClampNeg) ((Int32.toUInt32 (xs (i + 6).toNatClampNeg) % 65536).toInt32) _ _ _ hn hI (HS.fr hs)
  have g1 : f_L_interest σ sz xb (((Int32.toInt64 (xs (i + 1).toNatClampNeg)) <<< (Int32.toInt64 32 &&& 63)) ||| ((Int32.toInt64 (xs (i + 2).toNatClampNeg)) &&& 4294967295)) (xs (i + 3).toNatClampNeg) (xs (i + 4).toNatClampNeg) (xs (i + 5).toNatClampNeg) ((Int32.toUInt32 (xs (i + 6).toNatClampNeg) % 65536).toInt32) ob = some (k1, σ2, z3) := g1
  refine sx_callSW (As := [.ref xb, .long (((Int32.toInt64 (xs (i + 1).toNatClampNeg)) <<< (Int32.toInt64 32 &&& 63)) ||| ((Int32.toInt64 (xs (i + 2).toNatClampNeg)) &&& 4294967295)), .int (xs (i + 3).toNatClampNeg), .int (xs (i + 4).toNatClampNeg), .int (xs (i + 5).toNatClampNeg), .int ((Int32.toUInt32 (xs (i + 6).toNatClampNeg) % 65536).toInt32), .ref ob]) (rest := []) C hs (c_L_interest hfl g1) mo_L_interest q1194 rfl hl.1 ⟨⟨(Nat.le_of_ble_eq_true rfl), (Nat.le_of_ble_eq_true rfl)⟩, by omega, by omega⟩ rfl (Nat.le_of_ble_eq_true rfl) dL_law_2738 (fun z6 _ H locs hs => ?_)
  refine W.eq (g2 := F0 m 2741 ls [.int k1]) rfl ?_
  refine lv_istore (lv' := [(5, .int k1), (4, .int i), (3, .ref ob), (2, .ref mb), (1, .ref xb), (0, .ref b)]) C.1 C.2.1 dL_law_2741 hl (by decide) rfl (fun ls hl => ?_)
  refine lv_aload_n C.1 C.2.1 dL_law_2743 rfl (lv_at hl 3 rfl) ?_
  refine lv_aload_n C.1 C.2.1 dL_law_2744 rfl (lv_at hl 5 rfl) ?_
  refine lv_iload C.1 C.2.1 dL_law_2745 (lv_at hl 1 rfl) ?_
  refine lv_iconst (v := 1) C.1 C.2.1 dL_law_2747 (by decide) ?_
  refine lv_iadd C.1 C.2.1 dL_law_2748 ?_
  refine va_sld C.1 C.2.1 hX hbl hbA hs.2.2 hi1 dL_law_2749 ?_
  refine lv_i2l (v := Int32.toInt64 (xs (i + 1).toNatClampNeg)) C.1 C.2.1 dL_law_2750 rfl ?_
  refine lv_bipush (v := 32) C.1 C.2.1 dL_law_2751 (by decide) ?_
  refine lv_lshl (v := (Int32.toInt64 (xs (i + 1).toNatClampNeg)) <<< (Int32.toInt64 32 &&& 63)) C.1 C.2.1 dL_law_2753 rfl ?_
  refine lv_aload_n C.1 C.2.1 dL_law_2754 rfl (lv_at hl 5 rfl) ?_
  refine lv_iload C.1 C.2.1 dL_law_2755 (lv_at hl 1 rfl) ?_
  refine lv_iconst (v := 2) C.1 C.2.1 dL_law_2757 (by decide) ?_
  refine lv_iadd C.1 C.2.1 dL_law_2758 ?_
  refine va_sld C.1 C.2.1 hX hbl hbA hs.2.2 hi2 dL_law_2759 ?_
  refine lv_i2l (v := Int32.toInt64 (xs (i + 2).toNatClampNeg)) C.1 C.2.1 dL_law_2760 rfl ?_
  refine lv_ldc2 (v := 4294967295) C.1 C.2.1 C.2.2.2.1 (C.2.2.2.2.1.1 _ q1898 _) dL_law_2761 ?_
  refine lv_land C.1 C.2.1 dL_law_2764 ?_
  refine lv_lor C.1 C.2.1 dL_law_2765 ?_
  refine lv_aload_n C.1 C.2.1 dL_law_2766 rfl (lv_at hl 5 rfl) ?_
  refine lv_iload C.1 C.2.1 dL_law_2767 (lv_at hl 1 rfl) ?_
  refine lv_iconst (v := 3) C.1 C.2.1 dL_law_2769 (by decide) ?_
  refine lv_iadd C.1 C.2.1 dL_law_2770 ?_
  refine va_sld C.1 C.2.1 hX hbl hbA hs.2.2 hi3 dL_law_2771 ?_
  refine lv_aload_n C.1 C.2.1 dL_law_2772 rfl (lv_at hl 5 rfl) ?_
  refine lv_iload C.1 C.2.1 dL_law_2773 (lv_at hl 1 rfl) ?_
  refine lv_iconst (v := 4) C.1 C.2.1 dL_law_2775 (by decide) ?_
  refine lv_iadd C.1 C.2.1 dL_law_2776 ?_
  refine va_sld C.1 C.2.1 hX hbl hbA hs.2.2 hi4 dL_law_2777 ?_
  refine lv_aload_n C.1 C.2.1 dL_law_2778 rfl (lv_at hl 5 rfl) ?_
  refine lv_iload C.1 C.2.1 dL_law_2779 (lv_at hl 1 rfl) ?_
  refine lv_iconst (v := 5) C.1 C.2.1 dL_law_2781 (by decide) ?_
  refine lv_iadd C.1 C.2.1 dL_law_2782 ?_
  refine va_sld C.1 C.2.1 hX hbl hbA hs.2.2 hi5 dL_law_2783 ?_
  refine lv_aload_n C.1 C.2.1 dL_law_2784 rfl (lv_at hl 5 rfl) ?_
  refine lv_iload C.1 C.2.1 dL_law_2785 (lv_at hl 1 rfl) ?_
  refine lv_bipush (v := 6) C.1 C.2.1 dL_law_2787 (by decide) ?_
  refine lv_iadd C.1 C.2.1 dL_law_2789 ?_
  refine va_sld C.1 C.2.1 hX hbl hbA hs.2.2 hi6 dL_law_2790 ?_
  refine lv_i2c (v := (Int32.toUInt32 (xs (i + 6).toNatClampNeg) % 65536).toInt32) C.1 C.2.1 dL_law_2791 rfl ?_
  have g3 : f_X12_interest N σ2 mb (((Int32.toInt64 (xs (i + 1).toNatClampNeg)) <<< (Int32.toInt64 32 &&& 63)) ||| ((Int32.toInt64 (xs (i + 2).toNatClampNeg)) &&& 4294967295)) (xs (i + 3).toNatClampNeg) (xs (i + 4).toNatClampNeg) (xs (i + 5).toNatClampNeg) ((Int32.toUInt32 (xs (i + 6).toNatClampNeg) % 65536).toInt32) = some (r4, σ5) := g3
  refine sx_callV (As := [.long (((Int32.toInt64 (xs (i + 1).toNatClampNeg)) <<< (Int32.toInt64 32 &&& 63)) ||| ((Int32.toInt64 (xs (i + 2).toNatClampNeg)) &&& 4294967295)), .int (xs (i + 3).toNatClampNeg), .int (xs (i + 4).toNatClampNeg), .int (xs (i + 5).toNatClampNeg), .int ((Int32.toUInt32 (xs (i + 6).toNatClampNeg) % 65536).toInt32)]) (rest := []) C hs (c_X12_interest g3) mo_X12_interest q1837 g2 rfl rfl hl.1 ⟨⟨(Nat.le_of_ble_eq_true rfl), (Nat.le_of_ble_eq_true rfl)⟩, by omega, by omega⟩ rfl (Nat.le_of_ble_eq_true rfl) dL_law_2792 (fun H locs hs => ?_)
  refine W.eq (g2 := F0 m 2795 ls [.long r4]) rfl ?_
  refine lv_lstore (lv' := [(6, .long r4), (5, .int k1), (4, .int i), (3, .ref ob), (2, .ref mb), (1, .ref xb), (0, .ref b)]) C.1 C.2.1 dL_law_2795 hl (by decide) rfl (fun ls hl => ?_)
  refine lv_aload_n C.1 C.2.1 dL_law_2797 rfl (lv_at hl 4 rfl) ?_
  refine sx_callV (As := []) (rest := []) C hs (c_X12_thrown g5) mo_X12_thrown q1511 g4 rfl rfl hl.1 ⟨⟨(Nat.le_of_ble_eq_true rfl), (Nat.le_of_ble_eq_true rfl)⟩, by omega, by omega⟩ rfl (Nat.le_of_ble_eq_true rfl) dL_law_2798 (fun H locs hs => ?_)
  refine W.eq (g2 := F0 m 2801 ls [.int k1]) rfl ?_
  refine lv_iload C.1 C.2.1 dL_law_2801 (lv_at hl 1 rfl) ?_
  refine lv_icmp_eq (tgt := 2808) C.1 C.2.1 dL_law_2803 (by decide) (fun c7 => ?_) (fun c7 => absurd rfl c7)
  refine lv_iload C.1 C.2.1 dL_law_2808 (lv_at hl 1 rfl) ?_
  refine lv_if_ne (tgt := 2824) C.1 C.2.1 dL_law_2810 (by decide) (fun c8 => ?_) (fun c8 => ?_)
  · refine lv_goto (tgt := 3547) C.1 C.2.1 dL_law_2824 (by decide) ?_
    refine W.widen (k := cells + 5) (n := slots + 2048) (by omega) (by omega) ?_
    exact kk _ _ _ _ _ hs hI (lv_sub hl [2, 3, 4, 5, 6] rfl)
  · refine lv_aload_n C.1 C.2.1 dL_law_2813 rfl (lv_at hl 3 rfl) ?_
    refine lv_iconst (v := 0) C.1 C.2.1 dL_law_2814 (by decide) ?_
    have g7 : aL σ5 ob 2 0 = some (r4) := g6 c8
    refine sx_lald C hs g7 dL_law_2815 ?_
    refine lv_lload C.1 C.2.1 dL_law_2816 (lv_at hl 0 rfl) ?_
    refine W.lcmp C.1 C.2.1 dL_law_2818 ?_
    refine lv_if_eq (tgt := 2824) C.1 C.2.1 dL_law_2819 (by decide) (fun c9 => ?_) (fun c9 => absurd ((lg_cmp_eq _ _).mpr rfl) c9)
    refine lv_goto (tgt := 3547) C.1 C.2.1 dL_law_2824 (by decide) ?_
    refine W.widen (k := cells + 5) (n := slots + 2048) (by omega) (by omega) ?_
    exact kk _ _ _ _ _ hs hI (lv_sub hl [2, 3, 4, 5, 6] rfl)
def A_lend (I : Nat → Sto → Prop) (N xb mb ob : Nat) : Prop := ∀ (v1 : Int64) (v3 : Int32) (v4 : Int64), Ag I mb ob (fun x : Int32 => x.toInt64) (fun σ sz => f_L_lend N σ sz xb v1 v3 v4 ob) (fun σ => f_X12_lend N σ mb v1 v3 v4)
set_option maxHeartbeats 4000000 in
set_option maxRecDepth 100000 in
theorem lc_lend {l : Launch} (hfl : l.stackTraces = false) {g : PP} {p : Program} {e : Env} {s : State} {m : MethodId} {args : Array Value} {below : List Frame} {meth : Method} {c : Code} {N : Nat} {I : Nat → Sto → Prop} {n : Nat} (hn : n < 512) {xs : Nat → Int32} {b L xb mb ob : Nat} {i : Int32} (C : Cx g p s m meth c cL_law 8 "TillhouseLaw") (hX : va_X b L xs s s.heap) (hbl : b < s.heap.size) (hbA : ¬ Aw g b) (hi0 : vp_in i L) (hi1 : vp_in (i + 1) L) (hi2 : vp_in (i + 2) L) (hi3 : vp_in (i + 3) L) (hi4 : vp_in (i + 4) L) (hi5 : vp_in (i + 5) L) (hi6 : vp_in (i + 6) L)
    (A : A_lend I N xb mb ob) {σ : Sto} {sz : Nat} {H : Heap} {locs : List Loc} {ls : Array Slot} {cells slots : Nat} (hs : HS g s σ sz H locs) (hI : I n σ) (hl : lv_has ls 8 [(4, .int i), (3, .ref ob), (2, .ref mb), (1, .ref xb), (0, .ref b)]) (hc : cells + 5 ≤ room_1.cells) (hS : slots + 2048 ≤ room_1.slots) {Q : State → Prop}
    (kk : ∀ (σ : Sto) (sz : Nat) (H : Heap) (locs : List Loc) (ls : Array Slot), HS g s σ sz H locs → I (n + 1) σ → lv_has ls 8 [(4, .int i), (3, .ref ob), (2, .ref mb), (1, .ref xb), (0, .ref b)] → W p l e room_1 s m args below meth c H locs (cells + 5) (slots + 2048) Q (F0 m 3547 ls [])) : W p l e room_1 s m args below meth c H locs cells slots Q (F0 m 2827 ls []) := by
  refine lv_aload_n C.1 C.2.1 dL_law_2827 rfl (lv_at hl 3 rfl) ?_
  refine lv_aload_n C.1 C.2.1 dL_law_2828 rfl (lv_at hl 4 rfl) ?_
  refine lv_iload C.1 C.2.1 dL_law_2829 (lv_at hl 0 rfl) ?_
  refine lv_iconst (v := 1) C.1 C.2.1 dL_law_2831 (by decide) ?_
  refine lv_iadd C.1 C.2.1 dL_law_2832 ?_
  refine va_sld C.1 C.2.1 hX hbl hbA hs.2.2 hi1 dL_law_2833 ?_
  refine lv_i2l (v := Int32.toInt64 (xs (i + 1).toNatClampNeg)) C.1 C.2.1 dL_law_2834 rfl ?_
  refine lv_bipush (v := 32) C.1 C.2.1 dL_law_2835 (by decide) ?_
  refine lv_lshl (v := (Int32.toInt64 (xs (i + 1).toNatClampNeg)) <<< (Int32.toInt64 32 &&& 63)) C.1 C.2.1 dL_law_2837 rfl ?_
  refine lv_aload_n C.1 C.2.1 dL_law_2838 rfl (lv_at hl 4 rfl) ?_
  refine lv_iload C.1 C.2.1 dL_law_2839 (lv_at hl 0 rfl) ?_
  refine lv_iconst (v := 2) C.1 C.2.1 dL_law_2841 (by decide) ?_
  refine lv_iadd C.1 C.2.1 dL_law_2842 ?_
  refine va_sld C.1 C.2.1 hX hbl hbA hs.2.2 hi2 dL_law_2843 ?_
  refine lv_i2l (v := Int32.toInt64 (xs (i + 2).toNatClampNeg)) C.1 C.2.1 dL_law_2844 rfl ?_
  refine lv_ldc2 (v := 4294967295) C.1 C.2.1 C.2.2.2.1 (C.2.2.2.2.1.1 _ q1898 _) dL_law_2845 ?_
  refine lv_land C.1 C.2.1 dL_law_2848 ?_
  refine lv_lor C.1 C.2.1 dL_law_2849 ?_
  refine lv_aload_n C.1 C.2.1 dL_law_2850 rfl (lv_at hl 4 rfl) ?_
  refine lv_iload C.1 C.2.1 dL_law_2851 (lv_at hl 0 rfl) ?_
  refine lv_iconst (v := 3) C.1 C.2.1 dL_law_2853 (by decide) ?_
  refine lv_iadd C.1 C.2.1 dL_law_2854 ?_
  refine va_sld C.1 C.2.1 hX hbl hbA hs.2.2 hi3 dL_law_2855 ?_
  refine lv_aload_n C.1 C.2.1 dL_law_2856 rfl (lv_at hl 4 rfl) ?_
  refine lv_iload C.1 C.2.1 dL_law_2857 (lv_at hl 0 rfl) ?_
  refine lv_iconst (v := 4) C.1 C.2.1 dL_law_2859 (by decide) ?_
  refine lv_iadd C.1 C.2.1 dL_law_2860 ?_
  refine va_sld C.1 C.2.1 hX hbl hbA hs.2.2 hi4 dL_law_2861 ?_
  refine lv_i2l (v := Int32.toInt64 (xs (i + 4).toNatClampNeg)) C.1 C.2.1 dL_law_2862 rfl ?_
  refine lv_bipush (v := 32) C.1 C.2.1 dL_law_2863 (by decide) ?_
  refine lv_lshl (v := (Int32.toInt64 (xs (i + 4).toNatClampNeg)) <<< (Int32.toInt64 32 &&& 63)) C.1 C.2.1 dL_law_2865 rfl ?_
  refine lv_aload_n C.1 C.2.1 dL_law_2866 rfl (lv_at hl 4 rfl) ?_
  refine lv_iload C.1 C.2.1 dL_law_2867 (lv_at hl 0 rfl) ?_
  refine lv_iconst (v := 5) C.1 C.2.1 dL_law_2869 (by decide) ?_
  refine lv_iadd C.1 C.2.1 dL_law_2870 ?_
  refine va_sld C.1 C.2.1 hX hbl hbA hs.2.2 hi5 dL_law_2871 ?_
  refine lv_i2l (v := Int32.toInt64 (xs (i + 5).toNatClampNeg)) C.1 C.2.1 dL_law_2872 rfl ?_
  refine lv_ldc2 (v := 4294967295) C.1 C.2.1 C.2.2.2.1 (C.2.2.2.2.1.1 _ q1898 _) dL_law_2873 ?_
  refine lv_land C.1 C.2.1 dL_law_2876 ?_
  refine lv_lor C.1 C.2.1 dL_law_2877 ?_
  refine lv_aload_n C.1 C.2.1 dL_law_2878 rfl (lv_at hl 1 rfl) ?_
  obtain ⟨k1, σ2, z3, r4, σ5, g1, g2, g3, g4, g5, g6, hI⟩ := A (((Int32.toInt64 (xs (i + 1).toNatClampNeg)) <<< (Int32.toInt64 32 &&& 63)) ||| ((Int32.toInt64 (xs (i + 2).toNatClampNeg)) &&& 4294967295)) (xs (i + 3).toNatClampNeg) (((Int32.toInt64 (xs (i + 4).toNatClampNeg)) <<< (Int32.toInt64 32 &&& 63)) ||| ((Int32.toInt64 (xs (i + 5).toNatClampNeg)) &&& 4294967295)) _ _ _ hn hI (HS.fr hs)
  have g1 : f_L_lend N σ sz xb (((Int32.toInt64 (xs (i + 1).toNatClampNeg)) <<< (Int32.toInt64 32 &&& 63)) ||| ((Int32.toInt64 (xs (i + 2).toNatClampNeg)) &&& 4294967295)) (xs (i + 3).toNatClampNeg) (((Int32.toInt64 (xs (i + 4).toNatClampNeg)) <<< (Int32.toInt64 32 &&& 63)) ||| ((Int32.toInt64 (xs (i + 5).toNatClampNeg)) &&& 4294967295)) ob = some (k1, σ2, z3) := g1
  refine sx_callSW (As := [.ref xb, .long (((Int32.toInt64 (xs (i + 1).toNatClampNeg)) <<< (Int32.toInt64 32 &&& 63)) ||| ((Int32.toInt64 (xs (i + 2).toNatClampNeg)) &&& 4294967295)), .int (xs (i + 3).toNatClampNeg), .long (((Int32.toInt64 (xs (i + 4).toNatClampNeg)) <<< (Int32.toInt64 32 &&& 63)) ||| ((Int32.toInt64 (xs (i + 5).toNatClampNeg)) &&& 4294967295)), .ref ob]) (rest := []) C hs (c_L_lend hfl g1) mo_L_lend q1204 rfl hl.1 ⟨⟨(Nat.le_of_ble_eq_true rfl), (Nat.le_of_ble_eq_true rfl)⟩, by omega, by omega⟩ rfl (Nat.le_of_ble_eq_true rfl) dL_law_2879 (fun z6 _ H locs hs => ?_)
  refine W.eq (g2 := F0 m 2882 ls [.int k1]) rfl ?_
  refine lv_istore (lv' := [(5, .int k1), (4, .int i), (3, .ref ob), (2, .ref mb), (1, .ref xb), (0, .ref b)]) C.1 C.2.1 dL_law_2882 hl (by decide) rfl (fun ls hl => ?_)
  refine lv_aload_n C.1 C.2.1 dL_law_2884 rfl (lv_at hl 3 rfl) ?_
  refine lv_aload_n C.1 C.2.1 dL_law_2885 rfl (lv_at hl 5 rfl) ?_
  refine lv_iload C.1 C.2.1 dL_law_2886 (lv_at hl 1 rfl) ?_
  refine lv_iconst (v := 1) C.1 C.2.1 dL_law_2888 (by decide) ?_
  refine lv_iadd C.1 C.2.1 dL_law_2889 ?_
  refine va_sld C.1 C.2.1 hX hbl hbA hs.2.2 hi1 dL_law_2890 ?_
  refine lv_i2l (v := Int32.toInt64 (xs (i + 1).toNatClampNeg)) C.1 C.2.1 dL_law_2891 rfl ?_
  refine lv_bipush (v := 32) C.1 C.2.1 dL_law_2892 (by decide) ?_
  refine lv_lshl (v := (Int32.toInt64 (xs (i + 1).toNatClampNeg)) <<< (Int32.toInt64 32 &&& 63)) C.1 C.2.1 dL_law_2894 rfl ?_
  refine lv_aload_n C.1 C.2.1 dL_law_2895 rfl (lv_at hl 5 rfl) ?_
  refine lv_iload C.1 C.2.1 dL_law_2896 (lv_at hl 1 rfl) ?_
  refine lv_iconst (v := 2) C.1 C.2.1 dL_law_2898 (by decide) ?_
  refine lv_iadd C.1 C.2.1 dL_law_2899 ?_
  refine va_sld C.1 C.2.1 hX hbl hbA hs.2.2 hi2 dL_law_2900 ?_
  refine lv_i2l (v := Int32.toInt64 (xs (i + 2).toNatClampNeg)) C.1 C.2.1 dL_law_2901 rfl ?_
  refine lv_ldc2 (v := 4294967295) C.1 C.2.1 C.2.2.2.1 (C.2.2.2.2.1.1 _ q1898 _) dL_law_2902 ?_
  refine lv_land C.1 C.2.1 dL_law_2905 ?_
  refine lv_lor C.1 C.2.1 dL_law_2906 ?_
  refine lv_aload_n C.1 C.2.1 dL_law_2907 rfl (lv_at hl 5 rfl) ?_
  refine lv_iload C.1 C.2.1 dL_law_2908 (lv_at hl 1 rfl) ?_
  refine lv_iconst (v := 3) C.1 C.2.1 dL_law_2910 (by decide) ?_
  refine lv_iadd C.1 C.2.1 dL_law_2911 ?_
  refine va_sld C.1 C.2.1 hX hbl hbA hs.2.2 hi3 dL_law_2912 ?_
  refine lv_aload_n C.1 C.2.1 dL_law_2913 rfl (lv_at hl 5 rfl) ?_
  refine lv_iload C.1 C.2.1 dL_law_2914 (lv_at hl 1 rfl) ?_
  refine lv_iconst (v := 4) C.1 C.2.1 dL_law_2916 (by decide) ?_
  refine lv_iadd C.1 C.2.1 dL_law_2917 ?_
  refine va_sld C.1 C.2.1 hX hbl hbA hs.2.2 hi4 dL_law_2918 ?_
  refine lv_i2l (v := Int32.toInt64 (xs (i + 4).toNatClampNeg)) C.1 C.2.1 dL_law_2919 rfl ?_
  refine lv_bipush (v := 32) C.1 C.2.1 dL_law_2920 (by decide) ?_
  refine lv_lshl (v := (Int32.toInt64 (xs (i + 4).toNatClampNeg)) <<< (Int32.toInt64 32 &&& 63)) C.1 C.2.1 dL_law_2922 rfl ?_
  refine lv_aload_n C.1 C.2.1 dL_law_2923 rfl (lv_at hl 5 rfl) ?_
  refine lv_iload C.1 C.2.1 dL_law_2924 (lv_at hl 1 rfl) ?_
  refine lv_iconst (v := 5) C.1 C.2.1 dL_law_2926 (by decide) ?_
  refine lv_iadd C.1 C.2.1 dL_law_2927 ?_
  refine va_sld C.1 C.2.1 hX hbl hbA hs.2.2 hi5 dL_law_2928 ?_
  refine lv_i2l (v := Int32.toInt64 (xs (i + 5).toNatClampNeg)) C.1 C.2.1 dL_law_2929 rfl ?_
  refine lv_ldc2 (v := 4294967295) C.1 C.2.1 C.2.2.2.1 (C.2.2.2.2.1.1 _ q1898 _) dL_law_2930 ?_
  refine lv_land C.1 C.2.1 dL_law_2933 ?_
  refine lv_lor C.1 C.2.1 dL_law_2934 ?_
  have g3 : f_X12_lend N σ2 mb (((Int32.toInt64 (xs (i + 1).toNatClampNeg)) <<< (Int32.toInt64 32 &&& 63)) ||| ((Int32.toInt64 (xs (i + 2).toNatClampNeg)) &&& 4294967295)) (xs (i + 3).toNatClampNeg) (((Int32.toInt64 (xs (i + 4).toNatClampNeg)) <<< (Int32.toInt64 32 &&& 63)) ||| ((Int32.toInt64 (xs (i + 5).toNatClampNeg)) &&& 4294967295)) = some (r4, σ5) := g3
  refine sx_callV (As := [.long (((Int32.toInt64 (xs (i + 1).toNatClampNeg)) <<< (Int32.toInt64 32 &&& 63)) ||| ((Int32.toInt64 (xs (i + 2).toNatClampNeg)) &&& 4294967295)), .int (xs (i + 3).toNatClampNeg), .long (((Int32.toInt64 (xs (i + 4).toNatClampNeg)) <<< (Int32.toInt64 32 &&& 63)) ||| ((Int32.toInt64 (xs (i + 5).toNatClampNeg)) &&& 4294967295))]) (rest := []) C hs (c_X12_lend g3) mo_X12_lend q1841 g2 rfl rfl hl.1 ⟨⟨(Nat.le_of_ble_eq_true rfl), (Nat.le_of_ble_eq_true rfl)⟩, by omega, by omega⟩ rfl (Nat.le_of_ble_eq_true rfl) dL_law_2935 (fun H locs hs => ?_)
  refine W.eq (g2 := F0 m 2938 ls [.int r4]) rfl ?_
  refine lv_istore (lv' := [(6, .int r4), (5, .int k1), (4, .int i), (3, .ref ob), (2, .ref mb), (1, .ref xb), (0, .ref b)]) C.1 C.2.1 dL_law_2938 hl (by decide) rfl (fun ls hl => ?_)
  refine lv_aload_n C.1 C.2.1 dL_law_2940 rfl (lv_at hl 4 rfl) ?_
  refine sx_callV (As := []) (rest := []) C hs (c_X12_thrown g5) mo_X12_thrown q1511 g4 rfl rfl hl.1 ⟨⟨(Nat.le_of_ble_eq_true rfl), (Nat.le_of_ble_eq_true rfl)⟩, by omega, by omega⟩ rfl (Nat.le_of_ble_eq_true rfl) dL_law_2941 (fun H locs hs => ?_)
  refine W.eq (g2 := F0 m 2944 ls [.int k1]) rfl ?_
  refine lv_iload C.1 C.2.1 dL_law_2944 (lv_at hl 1 rfl) ?_
  refine lv_icmp_eq (tgt := 2951) C.1 C.2.1 dL_law_2946 (by decide) (fun c7 => ?_) (fun c7 => absurd rfl c7)
  refine lv_iload C.1 C.2.1 dL_law_2951 (lv_at hl 1 rfl) ?_
  refine lv_if_ne (tgt := 2968) C.1 C.2.1 dL_law_2953 (by decide) (fun c8 => ?_) (fun c8 => ?_)
  · refine lv_goto (tgt := 3547) C.1 C.2.1 dL_law_2968 (by decide) ?_
    refine W.widen (k := cells + 5) (n := slots + 2048) (by omega) (by omega) ?_
    exact kk _ _ _ _ _ hs hI (lv_sub hl [2, 3, 4, 5, 6] rfl)
  · refine lv_aload_n C.1 C.2.1 dL_law_2956 rfl (lv_at hl 3 rfl) ?_
    refine lv_iconst (v := 0) C.1 C.2.1 dL_law_2957 (by decide) ?_
    have g7 : aL σ5 ob 2 0 = some (Int32.toInt64 r4) := g6 c8
    refine sx_lald C hs g7 dL_law_2958 ?_
    refine lv_iload C.1 C.2.1 dL_law_2959 (lv_at hl 0 rfl) ?_
    refine lv_i2l (v := Int32.toInt64 r4) C.1 C.2.1 dL_law_2961 rfl ?_
    refine W.lcmp C.1 C.2.1 dL_law_2962 ?_
    refine lv_if_eq (tgt := 2968) C.1 C.2.1 dL_law_2963 (by decide) (fun c9 => ?_) (fun c9 => absurd ((lg_cmp_eq _ _).mpr rfl) c9)
    refine lv_goto (tgt := 3547) C.1 C.2.1 dL_law_2968 (by decide) ?_
    refine W.widen (k := cells + 5) (n := slots + 2048) (by omega) (by omega) ?_
    exact kk _ _ _ _ _ hs hI (lv_sub hl [2, 3, 4, 5, 6] rfl)
def A_instalment (I : Nat → Sto → Prop) (N xb mb ob : Nat) : Prop := ∀ (v1 : Int32) (v2 : Int32), Ag I mb ob (fun x : Int64 => x) (fun σ sz => f_L_instalment σ sz xb v1 v2 ob) (fun σ => f_X12_instalment σ mb v1 v2)
set_option maxHeartbeats 4000000 in
set_option maxRecDepth 100000 in
theorem lc_instalment {l : Launch} (hfl : l.stackTraces = false) {g : PP} {p : Program} {e : Env} {s : State} {m : MethodId} {args : Array Value} {below : List Frame} {meth : Method} {c : Code} {N : Nat} {I : Nat → Sto → Prop} {n : Nat} (hn : n < 512) {xs : Nat → Int32} {b L xb mb ob : Nat} {i : Int32} (C : Cx g p s m meth c cL_law 8 "TillhouseLaw") (hX : va_X b L xs s s.heap) (hbl : b < s.heap.size) (hbA : ¬ Aw g b) (hi0 : vp_in i L) (hi1 : vp_in (i + 1) L) (hi2 : vp_in (i + 2) L) (hi3 : vp_in (i + 3) L) (hi4 : vp_in (i + 4) L) (hi5 : vp_in (i + 5) L) (hi6 : vp_in (i + 6) L)
    (A : A_instalment I N xb mb ob) {σ : Sto} {sz : Nat} {H : Heap} {locs : List Loc} {ls : Array Slot} {cells slots : Nat} (hs : HS g s σ sz H locs) (hI : I n σ) (hl : lv_has ls 8 [(4, .int i), (3, .ref ob), (2, .ref mb), (1, .ref xb), (0, .ref b)]) (hc : cells + 5 ≤ room_1.cells) (hS : slots + 2048 ≤ room_1.slots) {Q : State → Prop}
    (kk : ∀ (σ : Sto) (sz : Nat) (H : Heap) (locs : List Loc) (ls : Array Slot), HS g s σ sz H locs → I (n + 1) σ → lv_has ls 8 [(4, .int i), (3, .ref ob), (2, .ref mb), (1, .ref xb), (0, .ref b)] → W p l e room_1 s m args below meth c H locs (cells + 5) (slots + 2048) Q (F0 m 3547 ls [])) : W p l e room_1 s m args below meth c H locs cells slots Q (F0 m 2971 ls []) := by
  refine lv_aload_n C.1 C.2.1 dL_law_2971 rfl (lv_at hl 3 rfl) ?_
  refine lv_aload_n C.1 C.2.1 dL_law_2972 rfl (lv_at hl 4 rfl) ?_
  refine lv_iload C.1 C.2.1 dL_law_2973 (lv_at hl 0 rfl) ?_
  refine lv_iconst (v := 1) C.1 C.2.1 dL_law_2975 (by decide) ?_
  refine lv_iadd C.1 C.2.1 dL_law_2976 ?_
  refine va_sld C.1 C.2.1 hX hbl hbA hs.2.2 hi1 dL_law_2977 ?_
  refine lv_aload_n C.1 C.2.1 dL_law_2978 rfl (lv_at hl 4 rfl) ?_
  refine lv_iload C.1 C.2.1 dL_law_2979 (lv_at hl 0 rfl) ?_
  refine lv_iconst (v := 2) C.1 C.2.1 dL_law_2981 (by decide) ?_
  refine lv_iadd C.1 C.2.1 dL_law_2982 ?_
  refine va_sld C.1 C.2.1 hX hbl hbA hs.2.2 hi2 dL_law_2983 ?_
  refine lv_i2c (v := (Int32.toUInt32 (xs (i + 2).toNatClampNeg) % 65536).toInt32) C.1 C.2.1 dL_law_2984 rfl ?_
  refine lv_aload_n C.1 C.2.1 dL_law_2985 rfl (lv_at hl 1 rfl) ?_
  obtain ⟨k1, σ2, z3, r4, σ5, g1, g2, g3, g4, g5, g6, hI⟩ := A (xs (i + 1).toNatClampNeg) ((Int32.toUInt32 (xs (i + 2).toNatClampNeg) % 65536).toInt32) _ _ _ hn hI (HS.fr hs)
  have g1 : f_L_instalment σ sz xb (xs (i + 1).toNatClampNeg) ((Int32.toUInt32 (xs (i + 2).toNatClampNeg) % 65536).toInt32) ob = some (k1, σ2, z3) := g1
  refine sx_callSW (As := [.ref xb, .int (xs (i + 1).toNatClampNeg), .int ((Int32.toUInt32 (xs (i + 2).toNatClampNeg) % 65536).toInt32), .ref ob]) (rest := []) C hs (c_L_instalment hfl g1) mo_L_instalment q1232 rfl hl.1 ⟨⟨(Nat.le_of_ble_eq_true rfl), (Nat.le_of_ble_eq_true rfl)⟩, by omega, by omega⟩ rfl (Nat.le_of_ble_eq_true rfl) dL_law_2986 (fun z6 _ H locs hs => ?_)
  refine W.eq (g2 := F0 m 2989 ls [.int k1]) rfl ?_
  refine lv_istore (lv' := [(5, .int k1), (4, .int i), (3, .ref ob), (2, .ref mb), (1, .ref xb), (0, .ref b)]) C.1 C.2.1 dL_law_2989 hl (by decide) rfl (fun ls hl => ?_)
  refine lv_aload_n C.1 C.2.1 dL_law_2991 rfl (lv_at hl 3 rfl) ?_
  refine lv_aload_n C.1 C.2.1 dL_law_2992 rfl (lv_at hl 5 rfl) ?_
  refine lv_iload C.1 C.2.1 dL_law_2993 (lv_at hl 1 rfl) ?_
  refine lv_iconst (v := 1) C.1 C.2.1 dL_law_2995 (by decide) ?_
  refine lv_iadd C.1 C.2.1 dL_law_2996 ?_
  refine va_sld C.1 C.2.1 hX hbl hbA hs.2.2 hi1 dL_law_2997 ?_
  refine lv_aload_n C.1 C.2.1 dL_law_2998 rfl (lv_at hl 5 rfl) ?_
  refine lv_iload C.1 C.2.1 dL_law_2999 (lv_at hl 1 rfl) ?_
  refine lv_iconst (v := 2) C.1 C.2.1 dL_law_3001 (by decide) ?_
  refine lv_iadd C.1 C.2.1 dL_law_3002 ?_
  refine va_sld C.1 C.2.1 hX hbl hbA hs.2.2 hi2 dL_law_3003 ?_
  refine lv_i2c (v := (Int32.toUInt32 (xs (i + 2).toNatClampNeg) % 65536).toInt32) C.1 C.2.1 dL_law_3004 rfl ?_
  have g3 : f_X12_instalment σ2 mb (xs (i + 1).toNatClampNeg) ((Int32.toUInt32 (xs (i + 2).toNatClampNeg) % 65536).toInt32) = some (r4, σ5) := g3
  refine sx_callV (As := [.int (xs (i + 1).toNatClampNeg), .int ((Int32.toUInt32 (xs (i + 2).toNatClampNeg) % 65536).toInt32)]) (rest := []) C hs (c_X12_instalment g3) mo_X12_instalment q1850 g2 rfl rfl hl.1 ⟨⟨(Nat.le_of_ble_eq_true rfl), (Nat.le_of_ble_eq_true rfl)⟩, by omega, by omega⟩ rfl (Nat.le_of_ble_eq_true rfl) dL_law_3005 (fun H locs hs => ?_)
  refine W.eq (g2 := F0 m 3008 ls [.long r4]) rfl ?_
  refine lv_lstore (lv' := [(6, .long r4), (5, .int k1), (4, .int i), (3, .ref ob), (2, .ref mb), (1, .ref xb), (0, .ref b)]) C.1 C.2.1 dL_law_3008 hl (by decide) rfl (fun ls hl => ?_)
  refine lv_aload_n C.1 C.2.1 dL_law_3010 rfl (lv_at hl 4 rfl) ?_
  refine sx_callV (As := []) (rest := []) C hs (c_X12_thrown g5) mo_X12_thrown q1511 g4 rfl rfl hl.1 ⟨⟨(Nat.le_of_ble_eq_true rfl), (Nat.le_of_ble_eq_true rfl)⟩, by omega, by omega⟩ rfl (Nat.le_of_ble_eq_true rfl) dL_law_3011 (fun H locs hs => ?_)
  refine W.eq (g2 := F0 m 3014 ls [.int k1]) rfl ?_
  refine lv_iload C.1 C.2.1 dL_law_3014 (lv_at hl 1 rfl) ?_
  refine lv_icmp_eq (tgt := 3021) C.1 C.2.1 dL_law_3016 (by decide) (fun c7 => ?_) (fun c7 => absurd rfl c7)
  refine lv_iload C.1 C.2.1 dL_law_3021 (lv_at hl 1 rfl) ?_
  refine lv_if_ne (tgt := 3037) C.1 C.2.1 dL_law_3023 (by decide) (fun c8 => ?_) (fun c8 => ?_)
  · refine lv_goto (tgt := 3547) C.1 C.2.1 dL_law_3037 (by decide) ?_
    refine W.widen (k := cells + 5) (n := slots + 2048) (by omega) (by omega) ?_
    exact kk _ _ _ _ _ hs hI (lv_sub hl [2, 3, 4, 5, 6] rfl)
  · refine lv_aload_n C.1 C.2.1 dL_law_3026 rfl (lv_at hl 3 rfl) ?_
    refine lv_iconst (v := 0) C.1 C.2.1 dL_law_3027 (by decide) ?_
    have g7 : aL σ5 ob 2 0 = some (r4) := g6 c8
    refine sx_lald C hs g7 dL_law_3028 ?_
    refine lv_lload C.1 C.2.1 dL_law_3029 (lv_at hl 0 rfl) ?_
    refine W.lcmp C.1 C.2.1 dL_law_3031 ?_
    refine lv_if_eq (tgt := 3037) C.1 C.2.1 dL_law_3032 (by decide) (fun c9 => ?_) (fun c9 => absurd ((lg_cmp_eq _ _).mpr rfl) c9)
    refine lv_goto (tgt := 3547) C.1 C.2.1 dL_law_3037 (by decide) ?_
    refine W.widen (k := cells + 5) (n := slots + 2048) (by omega) (by omega) ?_
    exact kk _ _ _ _ _ hs hI (lv_sub hl [2, 3, 4, 5, 6] rfl)
def A_post (I : Nat → Sto → Prop) (N xb mb ob : Nat) : Prop := ∀ (v1 : Int32) (v2 : Int32) (v3 : Int32) (v4 : Int64), Ag I mb ob (fun x : Int32 => x.toInt64) (fun σ sz => f_L_post σ sz xb v1 v2 v3 v4 ob) (fun σ => f_X12_post σ mb v1 v2 v3 v4)
set_option maxHeartbeats 4000000 in
set_option maxRecDepth 100000 in
theorem lc_post {l : Launch} (hfl : l.stackTraces = false) {g : PP} {p : Program} {e : Env} {s : State} {m : MethodId} {args : Array Value} {below : List Frame} {meth : Method} {c : Code} {N : Nat} {I : Nat → Sto → Prop} {n : Nat} (hn : n < 512) {xs : Nat → Int32} {b L xb mb ob : Nat} {i : Int32} (C : Cx g p s m meth c cL_law 8 "TillhouseLaw") (hX : va_X b L xs s s.heap) (hbl : b < s.heap.size) (hbA : ¬ Aw g b) (hi0 : vp_in i L) (hi1 : vp_in (i + 1) L) (hi2 : vp_in (i + 2) L) (hi3 : vp_in (i + 3) L) (hi4 : vp_in (i + 4) L) (hi5 : vp_in (i + 5) L) (hi6 : vp_in (i + 6) L)
    (A : A_post I N xb mb ob) {σ : Sto} {sz : Nat} {H : Heap} {locs : List Loc} {ls : Array Slot} {cells slots : Nat} (hs : HS g s σ sz H locs) (hI : I n σ) (hl : lv_has ls 8 [(4, .int i), (3, .ref ob), (2, .ref mb), (1, .ref xb), (0, .ref b)]) (hc : cells + 5 ≤ room_1.cells) (hS : slots + 2048 ≤ room_1.slots) {Q : State → Prop}
    (kk : ∀ (σ : Sto) (sz : Nat) (H : Heap) (locs : List Loc) (ls : Array Slot), HS g s σ sz H locs → I (n + 1) σ → lv_has ls 8 [(4, .int i), (3, .ref ob), (2, .ref mb), (1, .ref xb), (0, .ref b)] → W p l e room_1 s m args below meth c H locs (cells + 5) (slots + 2048) Q (F0 m 3547 ls [])) : W p l e room_1 s m args below meth c H locs cells slots Q (F0 m 3040 ls []) := by
  refine lv_aload_n C.1 C.2.1 dL_law_3040 rfl (lv_at hl 3 rfl) ?_
  refine lv_aload_n C.1 C.2.1 dL_law_3041 rfl (lv_at hl 4 rfl) ?_
  refine lv_iload C.1 C.2.1 dL_law_3042 (lv_at hl 0 rfl) ?_
  refine lv_iconst (v := 1) C.1 C.2.1 dL_law_3044 (by decide) ?_
  refine lv_iadd C.1 C.2.1 dL_law_3045 ?_
  refine va_sld C.1 C.2.1 hX hbl hbA hs.2.2 hi1 dL_law_3046 ?_
  refine lv_aload_n C.1 C.2.1 dL_law_3047 rfl (lv_at hl 4 rfl) ?_
  refine lv_iload C.1 C.2.1 dL_law_3048 (lv_at hl 0 rfl) ?_
  refine lv_iconst (v := 2) C.1 C.2.1 dL_law_3050 (by decide) ?_
  refine lv_iadd C.1 C.2.1 dL_law_3051 ?_
  refine va_sld C.1 C.2.1 hX hbl hbA hs.2.2 hi2 dL_law_3052 ?_
  refine lv_aload_n C.1 C.2.1 dL_law_3053 rfl (lv_at hl 4 rfl) ?_
  refine lv_iload C.1 C.2.1 dL_law_3054 (lv_at hl 0 rfl) ?_
  refine lv_iconst (v := 3) C.1 C.2.1 dL_law_3056 (by decide) ?_
  refine lv_iadd C.1 C.2.1 dL_law_3057 ?_
  refine va_sld C.1 C.2.1 hX hbl hbA hs.2.2 hi3 dL_law_3058 ?_
  refine lv_aload_n C.1 C.2.1 dL_law_3059 rfl (lv_at hl 4 rfl) ?_
  refine lv_iload C.1 C.2.1 dL_law_3060 (lv_at hl 0 rfl) ?_
  refine lv_iconst (v := 4) C.1 C.2.1 dL_law_3062 (by decide) ?_
  refine lv_iadd C.1 C.2.1 dL_law_3063 ?_
  refine va_sld C.1 C.2.1 hX hbl hbA hs.2.2 hi4 dL_law_3064 ?_
  refine lv_i2l (v := Int32.toInt64 (xs (i + 4).toNatClampNeg)) C.1 C.2.1 dL_law_3065 rfl ?_
  refine lv_bipush (v := 32) C.1 C.2.1 dL_law_3066 (by decide) ?_
  refine lv_lshl (v := (Int32.toInt64 (xs (i + 4).toNatClampNeg)) <<< (Int32.toInt64 32 &&& 63)) C.1 C.2.1 dL_law_3068 rfl ?_
  refine lv_aload_n C.1 C.2.1 dL_law_3069 rfl (lv_at hl 4 rfl) ?_
  refine lv_iload C.1 C.2.1 dL_law_3070 (lv_at hl 0 rfl) ?_
  refine lv_iconst (v := 5) C.1 C.2.1 dL_law_3072 (by decide) ?_
  refine lv_iadd C.1 C.2.1 dL_law_3073 ?_
  refine va_sld C.1 C.2.1 hX hbl hbA hs.2.2 hi5 dL_law_3074 ?_
  refine lv_i2l (v := Int32.toInt64 (xs (i + 5).toNatClampNeg)) C.1 C.2.1 dL_law_3075 rfl ?_
  refine lv_ldc2 (v := 4294967295) C.1 C.2.1 C.2.2.2.1 (C.2.2.2.2.1.1 _ q1898 _) dL_law_3076 ?_
  refine lv_land C.1 C.2.1 dL_law_3079 ?_
  refine lv_lor C.1 C.2.1 dL_law_3080 ?_
  refine lv_aload_n C.1 C.2.1 dL_law_3081 rfl (lv_at hl 1 rfl) ?_
  obtain ⟨k1, σ2, z3, r4, σ5, g1, g2, g3, g4, g5, g6, hI⟩ := A (xs (i + 1).toNatClampNeg) (xs (i + 2).toNatClampNeg) (xs (i + 3).toNatClampNeg) (((Int32.toInt64 (xs (i + 4).toNatClampNeg)) <<< (Int32.toInt64 32 &&& 63)) ||| ((Int32.toInt64 (xs (i + 5).toNatClampNeg)) &&& 4294967295)) _ _ _ hn hI (HS.fr hs)
  have g1 : f_L_post σ sz xb (xs (i + 1).toNatClampNeg) (xs (i + 2).toNatClampNeg) (xs (i + 3).toNatClampNeg) (((Int32.toInt64 (xs (i + 4).toNatClampNeg)) <<< (Int32.toInt64 32 &&& 63)) ||| ((Int32.toInt64 (xs (i + 5).toNatClampNeg)) &&& 4294967295)) ob = some (k1, σ2, z3) := g1
  refine sx_callSW (As := [.ref xb, .int (xs (i + 1).toNatClampNeg), .int (xs (i + 2).toNatClampNeg), .int (xs (i + 3).toNatClampNeg), .long (((Int32.toInt64 (xs (i + 4).toNatClampNeg)) <<< (Int32.toInt64 32 &&& 63)) ||| ((Int32.toInt64 (xs (i + 5).toNatClampNeg)) &&& 4294967295)), .ref ob]) (rest := []) C hs (c_L_post hfl g1) mo_L_post q1241 rfl hl.1 ⟨⟨(Nat.le_of_ble_eq_true rfl), (Nat.le_of_ble_eq_true rfl)⟩, by omega, by omega⟩ rfl (Nat.le_of_ble_eq_true rfl) dL_law_3082 (fun z6 _ H locs hs => ?_)
  refine W.eq (g2 := F0 m 3085 ls [.int k1]) rfl ?_
  refine lv_istore (lv' := [(5, .int k1), (4, .int i), (3, .ref ob), (2, .ref mb), (1, .ref xb), (0, .ref b)]) C.1 C.2.1 dL_law_3085 hl (by decide) rfl (fun ls hl => ?_)
  refine lv_aload_n C.1 C.2.1 dL_law_3087 rfl (lv_at hl 3 rfl) ?_
  refine lv_aload_n C.1 C.2.1 dL_law_3088 rfl (lv_at hl 5 rfl) ?_
  refine lv_iload C.1 C.2.1 dL_law_3089 (lv_at hl 1 rfl) ?_
  refine lv_iconst (v := 1) C.1 C.2.1 dL_law_3091 (by decide) ?_
  refine lv_iadd C.1 C.2.1 dL_law_3092 ?_
  refine va_sld C.1 C.2.1 hX hbl hbA hs.2.2 hi1 dL_law_3093 ?_
  refine lv_aload_n C.1 C.2.1 dL_law_3094 rfl (lv_at hl 5 rfl) ?_
  refine lv_iload C.1 C.2.1 dL_law_3095 (lv_at hl 1 rfl) ?_
  refine lv_iconst (v := 2) C.1 C.2.1 dL_law_3097 (by decide) ?_
  refine lv_iadd C.1 C.2.1 dL_law_3098 ?_
  refine va_sld C.1 C.2.1 hX hbl hbA hs.2.2 hi2 dL_law_3099 ?_
  refine lv_aload_n C.1 C.2.1 dL_law_3100 rfl (lv_at hl 5 rfl) ?_
  refine lv_iload C.1 C.2.1 dL_law_3101 (lv_at hl 1 rfl) ?_
  refine lv_iconst (v := 3) C.1 C.2.1 dL_law_3103 (by decide) ?_
  refine lv_iadd C.1 C.2.1 dL_law_3104 ?_
  refine va_sld C.1 C.2.1 hX hbl hbA hs.2.2 hi3 dL_law_3105 ?_
  refine lv_aload_n C.1 C.2.1 dL_law_3106 rfl (lv_at hl 5 rfl) ?_
  refine lv_iload C.1 C.2.1 dL_law_3107 (lv_at hl 1 rfl) ?_
  refine lv_iconst (v := 4) C.1 C.2.1 dL_law_3109 (by decide) ?_
  refine lv_iadd C.1 C.2.1 dL_law_3110 ?_
  refine va_sld C.1 C.2.1 hX hbl hbA hs.2.2 hi4 dL_law_3111 ?_
  refine lv_i2l (v := Int32.toInt64 (xs (i + 4).toNatClampNeg)) C.1 C.2.1 dL_law_3112 rfl ?_
  refine lv_bipush (v := 32) C.1 C.2.1 dL_law_3113 (by decide) ?_
  refine lv_lshl (v := (Int32.toInt64 (xs (i + 4).toNatClampNeg)) <<< (Int32.toInt64 32 &&& 63)) C.1 C.2.1 dL_law_3115 rfl ?_
  refine lv_aload_n C.1 C.2.1 dL_law_3116 rfl (lv_at hl 5 rfl) ?_
  refine lv_iload C.1 C.2.1 dL_law_3117 (lv_at hl 1 rfl) ?_
  refine lv_iconst (v := 5) C.1 C.2.1 dL_law_3119 (by decide) ?_
  refine lv_iadd C.1 C.2.1 dL_law_3120 ?_
  refine va_sld C.1 C.2.1 hX hbl hbA hs.2.2 hi5 dL_law_3121 ?_
  refine lv_i2l (v := Int32.toInt64 (xs (i + 5).toNatClampNeg)) C.1 C.2.1 dL_law_3122 rfl ?_
  refine lv_ldc2 (v := 4294967295) C.1 C.2.1 C.2.2.2.1 (C.2.2.2.2.1.1 _ q1898 _) dL_law_3123 ?_
  refine lv_land C.1 C.2.1 dL_law_3126 ?_
  refine lv_lor C.1 C.2.1 dL_law_3127 ?_
  have g3 : f_X12_post σ2 mb (xs (i + 1).toNatClampNeg) (xs (i + 2).toNatClampNeg) (xs (i + 3).toNatClampNeg) (((Int32.toInt64 (xs (i + 4).toNatClampNeg)) <<< (Int32.toInt64 32 &&& 63)) ||| ((Int32.toInt64 (xs (i + 5).toNatClampNeg)) &&& 4294967295)) = some (r4, σ5) := g3
  refine sx_callV (As := [.int (xs (i + 1).toNatClampNeg), .int (xs (i + 2).toNatClampNeg), .int (xs (i + 3).toNatClampNeg), .long (((Int32.toInt64 (xs (i + 4).toNatClampNeg)) <<< (Int32.toInt64 32 &&& 63)) ||| ((Int32.toInt64 (xs (i + 5).toNatClampNeg)) &&& 4294967295))]) (rest := []) C hs (c_X12_post g3) mo_X12_post q1854 g2 rfl rfl hl.1 ⟨⟨(Nat.le_of_ble_eq_true rfl), (Nat.le_of_ble_eq_true rfl)⟩, by omega, by omega⟩ rfl (Nat.le_of_ble_eq_true rfl) dL_law_3128 (fun H locs hs => ?_)
  refine W.eq (g2 := F0 m 3131 ls [.int r4]) rfl ?_
  refine lv_istore (lv' := [(6, .int r4), (5, .int k1), (4, .int i), (3, .ref ob), (2, .ref mb), (1, .ref xb), (0, .ref b)]) C.1 C.2.1 dL_law_3131 hl (by decide) rfl (fun ls hl => ?_)
  refine lv_aload_n C.1 C.2.1 dL_law_3133 rfl (lv_at hl 4 rfl) ?_
  refine sx_callV (As := []) (rest := []) C hs (c_X12_thrown g5) mo_X12_thrown q1511 g4 rfl rfl hl.1 ⟨⟨(Nat.le_of_ble_eq_true rfl), (Nat.le_of_ble_eq_true rfl)⟩, by omega, by omega⟩ rfl (Nat.le_of_ble_eq_true rfl) dL_law_3134 (fun H locs hs => ?_)
  refine W.eq (g2 := F0 m 3137 ls [.int k1]) rfl ?_
  refine lv_iload C.1 C.2.1 dL_law_3137 (lv_at hl 1 rfl) ?_
  refine lv_icmp_eq (tgt := 3144) C.1 C.2.1 dL_law_3139 (by decide) (fun c7 => ?_) (fun c7 => absurd rfl c7)
  refine lv_iload C.1 C.2.1 dL_law_3144 (lv_at hl 1 rfl) ?_
  refine lv_if_ne (tgt := 3161) C.1 C.2.1 dL_law_3146 (by decide) (fun c8 => ?_) (fun c8 => ?_)
  · refine lv_goto (tgt := 3547) C.1 C.2.1 dL_law_3161 (by decide) ?_
    refine W.widen (k := cells + 5) (n := slots + 2048) (by omega) (by omega) ?_
    exact kk _ _ _ _ _ hs hI (lv_sub hl [2, 3, 4, 5, 6] rfl)
  · refine lv_aload_n C.1 C.2.1 dL_law_3149 rfl (lv_at hl 3 rfl) ?_
    refine lv_iconst (v := 0) C.1 C.2.1 dL_law_3150 (by decide) ?_
    have g7 : aL σ5 ob 2 0 = some (Int32.toInt64 r4) := g6 c8
    refine sx_lald C hs g7 dL_law_3151 ?_
    refine lv_iload C.1 C.2.1 dL_law_3152 (lv_at hl 0 rfl) ?_
    refine lv_i2l (v := Int32.toInt64 r4) C.1 C.2.1 dL_law_3154 rfl ?_
    refine W.lcmp C.1 C.2.1 dL_law_3155 ?_
    refine lv_if_eq (tgt := 3161) C.1 C.2.1 dL_law_3156 (by decide) (fun c9 => ?_) (fun c9 => absurd ((lg_cmp_eq _ _).mpr rfl) c9)
    refine lv_goto (tgt := 3547) C.1 C.2.1 dL_law_3161 (by decide) ?_
    refine W.widen (k := cells + 5) (n := slots + 2048) (by omega) (by omega) ?_
    exact kk _ _ _ _ _ hs hI (lv_sub hl [2, 3, 4, 5, 6] rfl)
def A_book (I : Nat → Sto → Prop) (N xb mb ob : Nat) : Prop := ∀ (v1 : Int32), Ag I mb ob (fun x : Int32 => x.toInt64) (fun σ sz => f_L_book N σ sz xb v1 ob) (fun σ => f_X12_book N σ mb v1)
set_option maxHeartbeats 4000000 in
set_option maxRecDepth 100000 in
theorem lc_book {l : Launch} (hfl : l.stackTraces = false) {g : PP} {p : Program} {e : Env} {s : State} {m : MethodId} {args : Array Value} {below : List Frame} {meth : Method} {c : Code} {N : Nat} {I : Nat → Sto → Prop} {n : Nat} (hn : n < 512) {xs : Nat → Int32} {b L xb mb ob : Nat} {i : Int32} (C : Cx g p s m meth c cL_law 8 "TillhouseLaw") (hX : va_X b L xs s s.heap) (hbl : b < s.heap.size) (hbA : ¬ Aw g b) (hi0 : vp_in i L) (hi1 : vp_in (i + 1) L) (hi2 : vp_in (i + 2) L) (hi3 : vp_in (i + 3) L) (hi4 : vp_in (i + 4) L) (hi5 : vp_in (i + 5) L) (hi6 : vp_in (i + 6) L)
    (A : A_book I N xb mb ob) {σ : Sto} {sz : Nat} {H : Heap} {locs : List Loc} {ls : Array Slot} {cells slots : Nat} (hs : HS g s σ sz H locs) (hI : I n σ) (hl : lv_has ls 8 [(4, .int i), (3, .ref ob), (2, .ref mb), (1, .ref xb), (0, .ref b)]) (hc : cells + 5 ≤ room_1.cells) (hS : slots + 2048 ≤ room_1.slots) {Q : State → Prop}
    (kk : ∀ (σ : Sto) (sz : Nat) (H : Heap) (locs : List Loc) (ls : Array Slot), HS g s σ sz H locs → I (n + 1) σ → lv_has ls 8 [(4, .int i), (3, .ref ob), (2, .ref mb), (1, .ref xb), (0, .ref b)] → W p l e room_1 s m args below meth c H locs (cells + 5) (slots + 2048) Q (F0 m 3547 ls [])) : W p l e room_1 s m args below meth c H locs cells slots Q (F0 m 3164 ls []) := by
  refine lv_aload_n C.1 C.2.1 dL_law_3164 rfl (lv_at hl 3 rfl) ?_
  refine lv_aload_n C.1 C.2.1 dL_law_3165 rfl (lv_at hl 4 rfl) ?_
  refine lv_iload C.1 C.2.1 dL_law_3166 (lv_at hl 0 rfl) ?_
  refine lv_iconst (v := 1) C.1 C.2.1 dL_law_3168 (by decide) ?_
  refine lv_iadd C.1 C.2.1 dL_law_3169 ?_
  refine va_sld C.1 C.2.1 hX hbl hbA hs.2.2 hi1 dL_law_3170 ?_
  refine lv_aload_n C.1 C.2.1 dL_law_3171 rfl (lv_at hl 1 rfl) ?_
  obtain ⟨k1, σ2, z3, r4, σ5, g1, g2, g3, g4, g5, g6, hI⟩ := A (xs (i + 1).toNatClampNeg) _ _ _ hn hI (HS.fr hs)
  have g1 : f_L_book N σ sz xb (xs (i + 1).toNatClampNeg) ob = some (k1, σ2, z3) := g1
  refine sx_callSW (As := [.ref xb, .int (xs (i + 1).toNatClampNeg), .ref ob]) (rest := []) C hs (c_L_book hfl g1) mo_L_book q1278 rfl hl.1 ⟨⟨(Nat.le_of_ble_eq_true rfl), (Nat.le_of_ble_eq_true rfl)⟩, by omega, by omega⟩ rfl (Nat.le_of_ble_eq_true rfl) dL_law_3172 (fun z6 _ H locs hs => ?_)
  refine W.eq (g2 := F0 m 3175 ls [.int k1]) rfl ?_
  refine lv_istore (lv' := [(5, .int k1), (4, .int i), (3, .ref ob), (2, .ref mb), (1, .ref xb), (0, .ref b)]) C.1 C.2.1 dL_law_3175 hl (by decide) rfl (fun ls hl => ?_)
  refine lv_aload_n C.1 C.2.1 dL_law_3177 rfl (lv_at hl 3 rfl) ?_
  refine lv_aload_n C.1 C.2.1 dL_law_3178 rfl (lv_at hl 5 rfl) ?_
  refine lv_iload C.1 C.2.1 dL_law_3179 (lv_at hl 1 rfl) ?_
  refine lv_iconst (v := 1) C.1 C.2.1 dL_law_3181 (by decide) ?_
  refine lv_iadd C.1 C.2.1 dL_law_3182 ?_
  refine va_sld C.1 C.2.1 hX hbl hbA hs.2.2 hi1 dL_law_3183 ?_
  have g3 : f_X12_book N σ2 mb (xs (i + 1).toNatClampNeg) = some (r4, σ5) := g3
  refine sx_callV (As := [.int (xs (i + 1).toNatClampNeg)]) (rest := []) C hs (c_X12_book g3) mo_X12_book q1870 g2 rfl rfl hl.1 ⟨⟨(Nat.le_of_ble_eq_true rfl), (Nat.le_of_ble_eq_true rfl)⟩, by omega, by omega⟩ rfl (Nat.le_of_ble_eq_true rfl) dL_law_3184 (fun H locs hs => ?_)
  refine W.eq (g2 := F0 m 3187 ls [.int r4]) rfl ?_
  refine lv_istore (lv' := [(6, .int r4), (5, .int k1), (4, .int i), (3, .ref ob), (2, .ref mb), (1, .ref xb), (0, .ref b)]) C.1 C.2.1 dL_law_3187 hl (by decide) rfl (fun ls hl => ?_)
  refine lv_aload_n C.1 C.2.1 dL_law_3189 rfl (lv_at hl 4 rfl) ?_
  refine sx_callV (As := []) (rest := []) C hs (c_X12_thrown g5) mo_X12_thrown q1511 g4 rfl rfl hl.1 ⟨⟨(Nat.le_of_ble_eq_true rfl), (Nat.le_of_ble_eq_true rfl)⟩, by omega, by omega⟩ rfl (Nat.le_of_ble_eq_true rfl) dL_law_3190 (fun H locs hs => ?_)
  refine W.eq (g2 := F0 m 3193 ls [.int k1]) rfl ?_
  refine lv_iload C.1 C.2.1 dL_law_3193 (lv_at hl 1 rfl) ?_
  refine lv_icmp_eq (tgt := 3200) C.1 C.2.1 dL_law_3195 (by decide) (fun c7 => ?_) (fun c7 => absurd rfl c7)
  refine lv_iload C.1 C.2.1 dL_law_3200 (lv_at hl 1 rfl) ?_
  refine lv_if_ne (tgt := 3217) C.1 C.2.1 dL_law_3202 (by decide) (fun c8 => ?_) (fun c8 => ?_)
  · refine lv_goto (tgt := 3547) C.1 C.2.1 dL_law_3217 (by decide) ?_
    refine W.widen (k := cells + 5) (n := slots + 2048) (by omega) (by omega) ?_
    exact kk _ _ _ _ _ hs hI (lv_sub hl [2, 3, 4, 5, 6] rfl)
  · refine lv_aload_n C.1 C.2.1 dL_law_3205 rfl (lv_at hl 3 rfl) ?_
    refine lv_iconst (v := 0) C.1 C.2.1 dL_law_3206 (by decide) ?_
    have g7 : aL σ5 ob 2 0 = some (Int32.toInt64 r4) := g6 c8
    refine sx_lald C hs g7 dL_law_3207 ?_
    refine lv_iload C.1 C.2.1 dL_law_3208 (lv_at hl 0 rfl) ?_
    refine lv_i2l (v := Int32.toInt64 r4) C.1 C.2.1 dL_law_3210 rfl ?_
    refine W.lcmp C.1 C.2.1 dL_law_3211 ?_
    refine lv_if_eq (tgt := 3217) C.1 C.2.1 dL_law_3212 (by decide) (fun c9 => ?_) (fun c9 => absurd ((lg_cmp_eq _ _).mpr rfl) c9)
    refine lv_goto (tgt := 3547) C.1 C.2.1 dL_law_3217 (by decide) ?_
    refine W.widen (k := cells + 5) (n := slots + 2048) (by omega) (by omega) ?_
    exact kk _ _ _ _ _ hs hI (lv_sub hl [2, 3, 4, 5, 6] rfl)
def A_isBooked (I : Nat → Sto → Prop) (N xb mb ob : Nat) : Prop := ∀ (v1 : Int32), Ag I mb ob (fun x : Int32 => if x = 0 then 0 else 1) (fun σ sz => f_L_isBooked N σ sz xb v1 ob) (fun σ => f_X12_isBooked σ mb v1)
set_option maxHeartbeats 4000000 in
set_option maxRecDepth 100000 in
theorem lc_isBooked {l : Launch} (hfl : l.stackTraces = false) {g : PP} {p : Program} {e : Env} {s : State} {m : MethodId} {args : Array Value} {below : List Frame} {meth : Method} {c : Code} {N : Nat} {I : Nat → Sto → Prop} {n : Nat} (hn : n < 512) {xs : Nat → Int32} {b L xb mb ob : Nat} {i : Int32} (C : Cx g p s m meth c cL_law 8 "TillhouseLaw") (hX : va_X b L xs s s.heap) (hbl : b < s.heap.size) (hbA : ¬ Aw g b) (hi0 : vp_in i L) (hi1 : vp_in (i + 1) L) (hi2 : vp_in (i + 2) L) (hi3 : vp_in (i + 3) L) (hi4 : vp_in (i + 4) L) (hi5 : vp_in (i + 5) L) (hi6 : vp_in (i + 6) L)
    (A : A_isBooked I N xb mb ob) {σ : Sto} {sz : Nat} {H : Heap} {locs : List Loc} {ls : Array Slot} {cells slots : Nat} (hs : HS g s σ sz H locs) (hI : I n σ) (hl : lv_has ls 8 [(4, .int i), (3, .ref ob), (2, .ref mb), (1, .ref xb), (0, .ref b)]) (hc : cells + 5 ≤ room_1.cells) (hS : slots + 2048 ≤ room_1.slots) {Q : State → Prop}
    (kk : ∀ (σ : Sto) (sz : Nat) (H : Heap) (locs : List Loc) (ls : Array Slot), HS g s σ sz H locs → I (n + 1) σ → lv_has ls 8 [(4, .int i), (3, .ref ob), (2, .ref mb), (1, .ref xb), (0, .ref b)] → W p l e room_1 s m args below meth c H locs (cells + 5) (slots + 2048) Q (F0 m 3547 ls [])) : W p l e room_1 s m args below meth c H locs cells slots Q (F0 m 3220 ls []) := by
  refine lv_aload_n C.1 C.2.1 dL_law_3220 rfl (lv_at hl 3 rfl) ?_
  refine lv_aload_n C.1 C.2.1 dL_law_3221 rfl (lv_at hl 4 rfl) ?_
  refine lv_iload C.1 C.2.1 dL_law_3222 (lv_at hl 0 rfl) ?_
  refine lv_iconst (v := 1) C.1 C.2.1 dL_law_3224 (by decide) ?_
  refine lv_iadd C.1 C.2.1 dL_law_3225 ?_
  refine va_sld C.1 C.2.1 hX hbl hbA hs.2.2 hi1 dL_law_3226 ?_
  refine lv_aload_n C.1 C.2.1 dL_law_3227 rfl (lv_at hl 1 rfl) ?_
  obtain ⟨k1, σ2, z3, r4, σ5, g1, g2, g3, g4, g5, g6, hI⟩ := A (xs (i + 1).toNatClampNeg) _ _ _ hn hI (HS.fr hs)
  have g1 : f_L_isBooked N σ sz xb (xs (i + 1).toNatClampNeg) ob = some (k1, σ2, z3) := g1
  refine sx_callSW (As := [.ref xb, .int (xs (i + 1).toNatClampNeg), .ref ob]) (rest := []) C hs (c_L_isBooked hfl g1) mo_L_isBooked q1290 rfl hl.1 ⟨⟨(Nat.le_of_ble_eq_true rfl), (Nat.le_of_ble_eq_true rfl)⟩, by omega, by omega⟩ rfl (Nat.le_of_ble_eq_true rfl) dL_law_3228 (fun z6 _ H locs hs => ?_)
  refine W.eq (g2 := F0 m 3231 ls [.int k1]) rfl ?_
  refine lv_istore (lv' := [(5, .int k1), (4, .int i), (3, .ref ob), (2, .ref mb), (1, .ref xb), (0, .ref b)]) C.1 C.2.1 dL_law_3231 hl (by decide) rfl (fun ls hl => ?_)
  refine lv_aload_n C.1 C.2.1 dL_law_3233 rfl (lv_at hl 3 rfl) ?_
  refine lv_aload_n C.1 C.2.1 dL_law_3234 rfl (lv_at hl 5 rfl) ?_
  refine lv_iload C.1 C.2.1 dL_law_3235 (lv_at hl 1 rfl) ?_
  refine lv_iconst (v := 1) C.1 C.2.1 dL_law_3237 (by decide) ?_
  refine lv_iadd C.1 C.2.1 dL_law_3238 ?_
  refine va_sld C.1 C.2.1 hX hbl hbA hs.2.2 hi1 dL_law_3239 ?_
  have g3 : f_X12_isBooked σ2 mb (xs (i + 1).toNatClampNeg) = some (r4, σ5) := g3
  refine sx_callV (As := [.int (xs (i + 1).toNatClampNeg)]) (rest := []) C hs (c_X12_isBooked g3) mo_X12_isBooked q1874 g2 rfl rfl hl.1 ⟨⟨(Nat.le_of_ble_eq_true rfl), (Nat.le_of_ble_eq_true rfl)⟩, by omega, by omega⟩ rfl (Nat.le_of_ble_eq_true rfl) dL_law_3240 (fun H locs hs => ?_)
  refine W.eq (g2 := F0 m 3243 ls [.int r4]) rfl ?_
  refine lv_istore (lv' := [(6, .int r4), (5, .int k1), (4, .int i), (3, .ref ob), (2, .ref mb), (1, .ref xb), (0, .ref b)]) C.1 C.2.1 dL_law_3243 hl (by decide) rfl (fun ls hl => ?_)
  refine lv_aload_n C.1 C.2.1 dL_law_3245 rfl (lv_at hl 4 rfl) ?_
  refine sx_callV (As := []) (rest := []) C hs (c_X12_thrown g5) mo_X12_thrown q1511 g4 rfl rfl hl.1 ⟨⟨(Nat.le_of_ble_eq_true rfl), (Nat.le_of_ble_eq_true rfl)⟩, by omega, by omega⟩ rfl (Nat.le_of_ble_eq_true rfl) dL_law_3246 (fun H locs hs => ?_)
  refine W.eq (g2 := F0 m 3249 ls [.int k1]) rfl ?_
  refine lv_iload C.1 C.2.1 dL_law_3249 (lv_at hl 1 rfl) ?_
  refine lv_icmp_eq (tgt := 3256) C.1 C.2.1 dL_law_3251 (by decide) (fun c7 => ?_) (fun c7 => absurd rfl c7)
  refine lv_iload C.1 C.2.1 dL_law_3256 (lv_at hl 1 rfl) ?_
  refine lv_if_ne (tgt := 3280) C.1 C.2.1 dL_law_3258 (by decide) (fun c8 => ?_) (fun c8 => ?_)
  · refine lv_goto (tgt := 3547) C.1 C.2.1 dL_law_3280 (by decide) ?_
    refine W.widen (k := cells + 5) (n := slots + 2048) (by omega) (by omega) ?_
    exact kk _ _ _ _ _ hs hI (lv_sub hl [2, 3, 4, 5, 6] rfl)
  · refine lv_aload_n C.1 C.2.1 dL_law_3261 rfl (lv_at hl 3 rfl) ?_
    refine lv_iconst (v := 0) C.1 C.2.1 dL_law_3262 (by decide) ?_
    have g7 : aL σ5 ob 2 0 = some ((if r4 = 0 then 0 else 1)) := g6 c8
    refine sx_lald C hs g7 dL_law_3263 ?_
    refine lv_iload C.1 C.2.1 dL_law_3264 (lv_at hl 0 rfl) ?_
    refine lv_if_eq (tgt := 3273) C.1 C.2.1 dL_law_3266 (by decide) (fun c9 => ?_) (fun c9 => ?_)
    · refine lv_lconst (v := 0) C.1 C.2.1 dL_law_3273 (by decide) ?_
      rw [if_pos c9]
      refine W.lcmp C.1 C.2.1 dL_law_3274 ?_
      refine lv_if_eq (tgt := 3280) C.1 C.2.1 dL_law_3275 (by decide) (fun c10 => ?_) (fun c10 => absurd ((lg_cmp_eq _ _).mpr rfl) c10)
      refine lv_goto (tgt := 3547) C.1 C.2.1 dL_law_3280 (by decide) ?_
      refine W.widen (k := cells + 5) (n := slots + 2048) (by omega) (by omega) ?_
      exact kk _ _ _ _ _ hs hI (lv_sub hl [2, 3, 4, 5, 6] rfl)
    · refine lv_lconst (v := 1) C.1 C.2.1 dL_law_3269 (by decide) ?_
      refine lv_goto (tgt := 3274) C.1 C.2.1 dL_law_3270 (by decide) ?_
      rw [if_neg c9]
      refine W.lcmp C.1 C.2.1 dL_law_3274 ?_
      refine lv_if_eq (tgt := 3280) C.1 C.2.1 dL_law_3275 (by decide) (fun c11 => ?_) (fun c11 => absurd ((lg_cmp_eq _ _).mpr rfl) c11)
      refine lv_goto (tgt := 3547) C.1 C.2.1 dL_law_3280 (by decide) ?_
      refine W.widen (k := cells + 5) (n := slots + 2048) (by omega) (by omega) ?_
      exact kk _ _ _ _ _ hs hI (lv_sub hl [2, 3, 4, 5, 6] rfl)
def A_side (I : Nat → Sto → Prop) (N xb mb ob : Nat) : Prop := ∀ (v1 : Int32) (v2 : Int32) (v3 : Int32), Ag I mb ob (fun x : Int64 => x) (fun σ sz => f_L_side N σ sz xb v1 v2 v3 ob) (fun σ => f_X12_side N σ mb v1 v2 v3)
set_option maxHeartbeats 4000000 in
set_option maxRecDepth 100000 in
theorem lc_side {l : Launch} (hfl : l.stackTraces = false) {g : PP} {p : Program} {e : Env} {s : State} {m : MethodId} {args : Array Value} {below : List Frame} {meth : Method} {c : Code} {N : Nat} {I : Nat → Sto → Prop} {n : Nat} (hn : n < 512) {xs : Nat → Int32} {b L xb mb ob : Nat} {i : Int32} (C : Cx g p s m meth c cL_law 8 "TillhouseLaw") (hX : va_X b L xs s s.heap) (hbl : b < s.heap.size) (hbA : ¬ Aw g b) (hi0 : vp_in i L) (hi1 : vp_in (i + 1) L) (hi2 : vp_in (i + 2) L) (hi3 : vp_in (i + 3) L) (hi4 : vp_in (i + 4) L) (hi5 : vp_in (i + 5) L) (hi6 : vp_in (i + 6) L)
    (A : A_side I N xb mb ob) {σ : Sto} {sz : Nat} {H : Heap} {locs : List Loc} {ls : Array Slot} {cells slots : Nat} (hs : HS g s σ sz H locs) (hI : I n σ) (hl : lv_has ls 8 [(4, .int i), (3, .ref ob), (2, .ref mb), (1, .ref xb), (0, .ref b)]) (hc : cells + 5 ≤ room_1.cells) (hS : slots + 2048 ≤ room_1.slots) {Q : State → Prop}
    (kk : ∀ (σ : Sto) (sz : Nat) (H : Heap) (locs : List Loc) (ls : Array Slot), HS g s σ sz H locs → I (n + 1) σ → lv_has ls 8 [(4, .int i), (3, .ref ob), (2, .ref mb), (1, .ref xb), (0, .ref b)] → W p l e room_1 s m args below meth c H locs (cells + 5) (slots + 2048) Q (F0 m 3547 ls [])) : W p l e room_1 s m args below meth c H locs cells slots Q (F0 m 3283 ls []) := by
  refine lv_aload_n C.1 C.2.1 dL_law_3283 rfl (lv_at hl 3 rfl) ?_
  refine lv_aload_n C.1 C.2.1 dL_law_3284 rfl (lv_at hl 4 rfl) ?_
  refine lv_iload C.1 C.2.1 dL_law_3285 (lv_at hl 0 rfl) ?_
  refine lv_iconst (v := 1) C.1 C.2.1 dL_law_3287 (by decide) ?_
  refine lv_iadd C.1 C.2.1 dL_law_3288 ?_
  refine va_sld C.1 C.2.1 hX hbl hbA hs.2.2 hi1 dL_law_3289 ?_
  refine lv_aload_n C.1 C.2.1 dL_law_3290 rfl (lv_at hl 4 rfl) ?_
  refine lv_iload C.1 C.2.1 dL_law_3291 (lv_at hl 0 rfl) ?_
  refine lv_iconst (v := 2) C.1 C.2.1 dL_law_3293 (by decide) ?_
  refine lv_iadd C.1 C.2.1 dL_law_3294 ?_
  refine va_sld C.1 C.2.1 hX hbl hbA hs.2.2 hi2 dL_law_3295 ?_
  refine lv_aload_n C.1 C.2.1 dL_law_3296 rfl (lv_at hl 4 rfl) ?_
  refine lv_iload C.1 C.2.1 dL_law_3297 (lv_at hl 0 rfl) ?_
  refine lv_iconst (v := 3) C.1 C.2.1 dL_law_3299 (by decide) ?_
  refine lv_iadd C.1 C.2.1 dL_law_3300 ?_
  refine va_sld C.1 C.2.1 hX hbl hbA hs.2.2 hi3 dL_law_3301 ?_
  refine lv_if_eq (tgt := 3309) C.1 C.2.1 dL_law_3302 (by decide) (fun c1 => ?_) (fun c1 => ?_)
  · refine lv_iconst (v := 0) C.1 C.2.1 dL_law_3309 (by decide) ?_
    refine lv_aload_n C.1 C.2.1 dL_law_3310 rfl (lv_at hl 1 rfl) ?_
    obtain ⟨k2, σ3, z4, r5, σ6, g1, g2, g3, g4, g5, g6, hI⟩ := A (xs (i + 1).toNatClampNeg) (xs (i + 2).toNatClampNeg) 0 _ _ _ hn hI (HS.fr hs)
    have g1 : f_L_side N σ sz xb (xs (i + 1).toNatClampNeg) (xs (i + 2).toNatClampNeg) 0 ob = some (k2, σ3, z4) := g1
    refine sx_callSW (As := [.ref xb, .int (xs (i + 1).toNatClampNeg), .int (xs (i + 2).toNatClampNeg), .int 0, .ref ob]) (rest := []) C hs (c_L_side hfl g1) mo_L_side q1297 rfl hl.1 ⟨⟨(Nat.le_of_ble_eq_true rfl), (Nat.le_of_ble_eq_true rfl)⟩, by omega, by omega⟩ rfl (Nat.le_of_ble_eq_true rfl) dL_law_3311 (fun z7 _ H locs hs => ?_)
    refine W.eq (g2 := F0 m 3314 ls [.int k2]) rfl ?_
    refine lv_istore (lv' := [(5, .int k2), (4, .int i), (3, .ref ob), (2, .ref mb), (1, .ref xb), (0, .ref b)]) C.1 C.2.1 dL_law_3314 hl (by decide) rfl (fun ls hl => ?_)
    refine lv_aload_n C.1 C.2.1 dL_law_3316 rfl (lv_at hl 3 rfl) ?_
    refine lv_aload_n C.1 C.2.1 dL_law_3317 rfl (lv_at hl 5 rfl) ?_
    refine lv_iload C.1 C.2.1 dL_law_3318 (lv_at hl 1 rfl) ?_
    refine lv_iconst (v := 1) C.1 C.2.1 dL_law_3320 (by decide) ?_
    refine lv_iadd C.1 C.2.1 dL_law_3321 ?_
    refine va_sld C.1 C.2.1 hX hbl hbA hs.2.2 hi1 dL_law_3322 ?_
    refine lv_aload_n C.1 C.2.1 dL_law_3323 rfl (lv_at hl 5 rfl) ?_
    refine lv_iload C.1 C.2.1 dL_law_3324 (lv_at hl 1 rfl) ?_
    refine lv_iconst (v := 2) C.1 C.2.1 dL_law_3326 (by decide) ?_
    refine lv_iadd C.1 C.2.1 dL_law_3327 ?_
    refine va_sld C.1 C.2.1 hX hbl hbA hs.2.2 hi2 dL_law_3328 ?_
    refine lv_aload_n C.1 C.2.1 dL_law_3329 rfl (lv_at hl 5 rfl) ?_
    refine lv_iload C.1 C.2.1 dL_law_3330 (lv_at hl 1 rfl) ?_
    refine lv_iconst (v := 3) C.1 C.2.1 dL_law_3332 (by decide) ?_
    refine lv_iadd C.1 C.2.1 dL_law_3333 ?_
    refine va_sld C.1 C.2.1 hX hbl hbA hs.2.2 hi3 dL_law_3334 ?_
    refine lv_if_eq (tgt := 3342) C.1 C.2.1 dL_law_3335 (by decide) (fun c8 => ?_) (fun c8 => absurd c1 c8)
    refine lv_iconst (v := 0) C.1 C.2.1 dL_law_3342 (by decide) ?_
    have g3 : f_X12_side N σ3 mb (xs (i + 1).toNatClampNeg) (xs (i + 2).toNatClampNeg) 0 = some (r5, σ6) := g3
    refine sx_callV (As := [.int (xs (i + 1).toNatClampNeg), .int (xs (i + 2).toNatClampNeg), .int 0]) (rest := []) C hs (c_X12_side g3) mo_X12_side q1878 g2 rfl rfl hl.1 ⟨⟨(Nat.le_of_ble_eq_true rfl), (Nat.le_of_ble_eq_true rfl)⟩, by omega, by omega⟩ rfl (Nat.le_of_ble_eq_true rfl) dL_law_3343 (fun H locs hs => ?_)
    refine W.eq (g2 := F0 m 3346 ls [.long r5]) rfl ?_
    refine lv_lstore (lv' := [(6, .long r5), (5, .int k2), (4, .int i), (3, .ref ob), (2, .ref mb), (1, .ref xb), (0, .ref b)]) C.1 C.2.1 dL_law_3346 hl (by decide) rfl (fun ls hl => ?_)
    refine lv_aload_n C.1 C.2.1 dL_law_3348 rfl (lv_at hl 4 rfl) ?_
    refine sx_callV (As := []) (rest := []) C hs (c_X12_thrown g5) mo_X12_thrown q1511 g4 rfl rfl hl.1 ⟨⟨(Nat.le_of_ble_eq_true rfl), (Nat.le_of_ble_eq_true rfl)⟩, by omega, by omega⟩ rfl (Nat.le_of_ble_eq_true rfl) dL_law_3349 (fun H locs hs => ?_)
    refine W.eq (g2 := F0 m 3352 ls [.int k2]) rfl ?_
    refine lv_iload C.1 C.2.1 dL_law_3352 (lv_at hl 1 rfl) ?_
    refine lv_icmp_eq (tgt := 3359) C.1 C.2.1 dL_law_3354 (by decide) (fun c9 => ?_) (fun c9 => absurd rfl c9)
    refine lv_iload C.1 C.2.1 dL_law_3359 (lv_at hl 1 rfl) ?_
    refine lv_if_ne (tgt := 3375) C.1 C.2.1 dL_law_3361 (by decide) (fun c10 => ?_) (fun c10 => ?_)
    · refine lv_goto (tgt := 3547) C.1 C.2.1 dL_law_3375 (by decide) ?_
      refine W.widen (k := cells + 5) (n := slots + 2048) (by omega) (by omega) ?_
      exact kk _ _ _ _ _ hs hI (lv_sub hl [2, 3, 4, 5, 6] rfl)
    · refine lv_aload_n C.1 C.2.1 dL_law_3364 rfl (lv_at hl 3 rfl) ?_
      refine lv_iconst (v := 0) C.1 C.2.1 dL_law_3365 (by decide) ?_
      have g7 : aL σ6 ob 2 0 = some (r5) := g6 c10
      refine sx_lald C hs g7 dL_law_3366 ?_
      refine lv_lload C.1 C.2.1 dL_law_3367 (lv_at hl 0 rfl) ?_
      refine W.lcmp C.1 C.2.1 dL_law_3369 ?_
      refine lv_if_eq (tgt := 3375) C.1 C.2.1 dL_law_3370 (by decide) (fun c11 => ?_) (fun c11 => absurd ((lg_cmp_eq _ _).mpr rfl) c11)
      refine lv_goto (tgt := 3547) C.1 C.2.1 dL_law_3375 (by decide) ?_
      refine W.widen (k := cells + 5) (n := slots + 2048) (by omega) (by omega) ?_
      exact kk _ _ _ _ _ hs hI (lv_sub hl [2, 3, 4, 5, 6] rfl)
  · refine lv_iconst (v := 1) C.1 C.2.1 dL_law_3305 (by decide) ?_
    refine lv_goto (tgt := 3310) C.1 C.2.1 dL_law_3306 (by decide) ?_
    refine lv_aload_n C.1 C.2.1 dL_law_3310 rfl (lv_at hl 1 rfl) ?_
    obtain ⟨k12, σ13, z14, r15, σ16, g1, g2, g3, g4, g5, g6, hI⟩ := A (xs (i + 1).toNatClampNeg) (xs (i + 2).toNatClampNeg) 1 _ _ _ hn hI (HS.fr hs)
    have g1 : f_L_side N σ sz xb (xs (i + 1).toNatClampNeg) (xs (i + 2).toNatClampNeg) 1 ob = some (k12, σ13, z14) := g1
    refine sx_callSW (As := [.ref xb, .int (xs (i + 1).toNatClampNeg), .int (xs (i + 2).toNatClampNeg), .int 1, .ref ob]) (rest := []) C hs (c_L_side hfl g1) mo_L_side q1297 rfl hl.1 ⟨⟨(Nat.le_of_ble_eq_true rfl), (Nat.le_of_ble_eq_true rfl)⟩, by omega, by omega⟩ rfl (Nat.le_of_ble_eq_true rfl) dL_law_3311 (fun z17 _ H locs hs => ?_)
    refine W.eq (g2 := F0 m 3314 ls [.int k12]) rfl ?_
    refine lv_istore (lv' := [(5, .int k12), (4, .int i), (3, .ref ob), (2, .ref mb), (1, .ref xb), (0, .ref b)]) C.1 C.2.1 dL_law_3314 hl (by decide) rfl (fun ls hl => ?_)
    refine lv_aload_n C.1 C.2.1 dL_law_3316 rfl (lv_at hl 3 rfl) ?_
    refine lv_aload_n C.1 C.2.1 dL_law_3317 rfl (lv_at hl 5 rfl) ?_
    refine lv_iload C.1 C.2.1 dL_law_3318 (lv_at hl 1 rfl) ?_
    refine lv_iconst (v := 1) C.1 C.2.1 dL_law_3320 (by decide) ?_
    refine lv_iadd C.1 C.2.1 dL_law_3321 ?_
    refine va_sld C.1 C.2.1 hX hbl hbA hs.2.2 hi1 dL_law_3322 ?_
    refine lv_aload_n C.1 C.2.1 dL_law_3323 rfl (lv_at hl 5 rfl) ?_
    refine lv_iload C.1 C.2.1 dL_law_3324 (lv_at hl 1 rfl) ?_
    refine lv_iconst (v := 2) C.1 C.2.1 dL_law_3326 (by decide) ?_
    refine lv_iadd C.1 C.2.1 dL_law_3327 ?_
    refine va_sld C.1 C.2.1 hX hbl hbA hs.2.2 hi2 dL_law_3328 ?_
    refine lv_aload_n C.1 C.2.1 dL_law_3329 rfl (lv_at hl 5 rfl) ?_
    refine lv_iload C.1 C.2.1 dL_law_3330 (lv_at hl 1 rfl) ?_
    refine lv_iconst (v := 3) C.1 C.2.1 dL_law_3332 (by decide) ?_
    refine lv_iadd C.1 C.2.1 dL_law_3333 ?_
    refine va_sld C.1 C.2.1 hX hbl hbA hs.2.2 hi3 dL_law_3334 ?_
    refine lv_if_eq (tgt := 3342) C.1 C.2.1 dL_law_3335 (by decide) (fun c18 => absurd c18 c1) (fun c18 => ?_)
    refine lv_iconst (v := 1) C.1 C.2.1 dL_law_3338 (by decide) ?_
    refine lv_goto (tgt := 3343) C.1 C.2.1 dL_law_3339 (by decide) ?_
    have g3 : f_X12_side N σ13 mb (xs (i + 1).toNatClampNeg) (xs (i + 2).toNatClampNeg) 1 = some (r15, σ16) := g3
    refine sx_callV (As := [.int (xs (i + 1).toNatClampNeg), .int (xs (i + 2).toNatClampNeg), .int 1]) (rest := []) C hs (c_X12_side g3) mo_X12_side q1878 g2 rfl rfl hl.1 ⟨⟨(Nat.le_of_ble_eq_true rfl), (Nat.le_of_ble_eq_true rfl)⟩, by omega, by omega⟩ rfl (Nat.le_of_ble_eq_true rfl) dL_law_3343 (fun H locs hs => ?_)
    refine W.eq (g2 := F0 m 3346 ls [.long r15]) rfl ?_
    refine lv_lstore (lv' := [(6, .long r15), (5, .int k12), (4, .int i), (3, .ref ob), (2, .ref mb), (1, .ref xb), (0, .ref b)]) C.1 C.2.1 dL_law_3346 hl (by decide) rfl (fun ls hl => ?_)
    refine lv_aload_n C.1 C.2.1 dL_law_3348 rfl (lv_at hl 4 rfl) ?_
    refine sx_callV (As := []) (rest := []) C hs (c_X12_thrown g5) mo_X12_thrown q1511 g4 rfl rfl hl.1 ⟨⟨(Nat.le_of_ble_eq_true rfl), (Nat.le_of_ble_eq_true rfl)⟩, by omega, by omega⟩ rfl (Nat.le_of_ble_eq_true rfl) dL_law_3349 (fun H locs hs => ?_)
    refine W.eq (g2 := F0 m 3352 ls [.int k12]) rfl ?_
    refine lv_iload C.1 C.2.1 dL_law_3352 (lv_at hl 1 rfl) ?_
    refine lv_icmp_eq (tgt := 3359) C.1 C.2.1 dL_law_3354 (by decide) (fun c19 => ?_) (fun c19 => absurd rfl c19)
    refine lv_iload C.1 C.2.1 dL_law_3359 (lv_at hl 1 rfl) ?_
    refine lv_if_ne (tgt := 3375) C.1 C.2.1 dL_law_3361 (by decide) (fun c20 => ?_) (fun c20 => ?_)
    · refine lv_goto (tgt := 3547) C.1 C.2.1 dL_law_3375 (by decide) ?_
      refine W.widen (k := cells + 5) (n := slots + 2048) (by omega) (by omega) ?_
      exact kk _ _ _ _ _ hs hI (lv_sub hl [2, 3, 4, 5, 6] rfl)
    · refine lv_aload_n C.1 C.2.1 dL_law_3364 rfl (lv_at hl 3 rfl) ?_
      refine lv_iconst (v := 0) C.1 C.2.1 dL_law_3365 (by decide) ?_
      have g7 : aL σ16 ob 2 0 = some (r15) := g6 c20
      refine sx_lald C hs g7 dL_law_3366 ?_
      refine lv_lload C.1 C.2.1 dL_law_3367 (lv_at hl 0 rfl) ?_
      refine W.lcmp C.1 C.2.1 dL_law_3369 ?_
      refine lv_if_eq (tgt := 3375) C.1 C.2.1 dL_law_3370 (by decide) (fun c21 => ?_) (fun c21 => absurd ((lg_cmp_eq _ _).mpr rfl) c21)
      refine lv_goto (tgt := 3547) C.1 C.2.1 dL_law_3375 (by decide) ?_
      refine W.widen (k := cells + 5) (n := slots + 2048) (by omega) (by omega) ?_
      exact kk _ _ _ _ _ hs hI (lv_sub hl [2, 3, 4, 5, 6] rfl)
def A_nextAccount (I : Nat → Sto → Prop) (N xb mb ob : Nat) : Prop := ∀ (v1 : Int32), Ag I mb ob (fun x : Int32 => x.toInt64) (fun σ sz => f_L_nextAccount N σ sz xb v1 ob) (fun σ => f_X12_nextAccount N σ mb v1)
set_option maxHeartbeats 4000000 in
set_option maxRecDepth 100000 in
theorem lc_nextAccount {l : Launch} (hfl : l.stackTraces = false) {g : PP} {p : Program} {e : Env} {s : State} {m : MethodId} {args : Array Value} {below : List Frame} {meth : Method} {c : Code} {N : Nat} {I : Nat → Sto → Prop} {n : Nat} (hn : n < 512) {xs : Nat → Int32} {b L xb mb ob : Nat} {i : Int32} (C : Cx g p s m meth c cL_law 8 "TillhouseLaw") (hX : va_X b L xs s s.heap) (hbl : b < s.heap.size) (hbA : ¬ Aw g b) (hi0 : vp_in i L) (hi1 : vp_in (i + 1) L) (hi2 : vp_in (i + 2) L) (hi3 : vp_in (i + 3) L) (hi4 : vp_in (i + 4) L) (hi5 : vp_in (i + 5) L) (hi6 : vp_in (i + 6) L)
    (A : A_nextAccount I N xb mb ob) {σ : Sto} {sz : Nat} {H : Heap} {locs : List Loc} {ls : Array Slot} {cells slots : Nat} (hs : HS g s σ sz H locs) (hI : I n σ) (hl : lv_has ls 8 [(4, .int i), (3, .ref ob), (2, .ref mb), (1, .ref xb), (0, .ref b)]) (hc : cells + 5 ≤ room_1.cells) (hS : slots + 2048 ≤ room_1.slots) {Q : State → Prop}
    (kk : ∀ (σ : Sto) (sz : Nat) (H : Heap) (locs : List Loc) (ls : Array Slot), HS g s σ sz H locs → I (n + 1) σ → lv_has ls 8 [(4, .int i), (3, .ref ob), (2, .ref mb), (1, .ref xb), (0, .ref b)] → W p l e room_1 s m args below meth c H locs (cells + 5) (slots + 2048) Q (F0 m 3547 ls [])) : W p l e room_1 s m args below meth c H locs cells slots Q (F0 m 3378 ls []) := by
  refine lv_aload_n C.1 C.2.1 dL_law_3378 rfl (lv_at hl 3 rfl) ?_
  refine lv_aload_n C.1 C.2.1 dL_law_3379 rfl (lv_at hl 4 rfl) ?_
  refine lv_iload C.1 C.2.1 dL_law_3380 (lv_at hl 0 rfl) ?_
  refine lv_iconst (v := 1) C.1 C.2.1 dL_law_3382 (by decide) ?_
  refine lv_iadd C.1 C.2.1 dL_law_3383 ?_
  refine va_sld C.1 C.2.1 hX hbl hbA hs.2.2 hi1 dL_law_3384 ?_
  refine lv_aload_n C.1 C.2.1 dL_law_3385 rfl (lv_at hl 1 rfl) ?_
  obtain ⟨k1, σ2, z3, r4, σ5, g1, g2, g3, g4, g5, g6, hI⟩ := A (xs (i + 1).toNatClampNeg) _ _ _ hn hI (HS.fr hs)
  have g1 : f_L_nextAccount N σ sz xb (xs (i + 1).toNatClampNeg) ob = some (k1, σ2, z3) := g1
  refine sx_callSW (As := [.ref xb, .int (xs (i + 1).toNatClampNeg), .ref ob]) (rest := []) C hs (c_L_nextAccount hfl g1) mo_L_nextAccount q1306 rfl hl.1 ⟨⟨(Nat.le_of_ble_eq_true rfl), (Nat.le_of_ble_eq_true rfl)⟩, by omega, by omega⟩ rfl (Nat.le_of_ble_eq_true rfl) dL_law_3386 (fun z6 _ H locs hs => ?_)
  refine W.eq (g2 := F0 m 3389 ls [.int k1]) rfl ?_
  refine lv_istore (lv' := [(5, .int k1), (4, .int i), (3, .ref ob), (2, .ref mb), (1, .ref xb), (0, .ref b)]) C.1 C.2.1 dL_law_3389 hl (by decide) rfl (fun ls hl => ?_)
  refine lv_aload_n C.1 C.2.1 dL_law_3391 rfl (lv_at hl 3 rfl) ?_
  refine lv_aload_n C.1 C.2.1 dL_law_3392 rfl (lv_at hl 5 rfl) ?_
  refine lv_iload C.1 C.2.1 dL_law_3393 (lv_at hl 1 rfl) ?_
  refine lv_iconst (v := 1) C.1 C.2.1 dL_law_3395 (by decide) ?_
  refine lv_iadd C.1 C.2.1 dL_law_3396 ?_
  refine va_sld C.1 C.2.1 hX hbl hbA hs.2.2 hi1 dL_law_3397 ?_
  have g3 : f_X12_nextAccount N σ2 mb (xs (i + 1).toNatClampNeg) = some (r4, σ5) := g3
  refine sx_callV (As := [.int (xs (i + 1).toNatClampNeg)]) (rest := []) C hs (c_X12_nextAccount g3) mo_X12_nextAccount q1882 g2 rfl rfl hl.1 ⟨⟨(Nat.le_of_ble_eq_true rfl), (Nat.le_of_ble_eq_true rfl)⟩, by omega, by omega⟩ rfl (Nat.le_of_ble_eq_true rfl) dL_law_3398 (fun H locs hs => ?_)
  refine W.eq (g2 := F0 m 3401 ls [.int r4]) rfl ?_
  refine lv_istore (lv' := [(6, .int r4), (5, .int k1), (4, .int i), (3, .ref ob), (2, .ref mb), (1, .ref xb), (0, .ref b)]) C.1 C.2.1 dL_law_3401 hl (by decide) rfl (fun ls hl => ?_)
  refine lv_aload_n C.1 C.2.1 dL_law_3403 rfl (lv_at hl 4 rfl) ?_
  refine sx_callV (As := []) (rest := []) C hs (c_X12_thrown g5) mo_X12_thrown q1511 g4 rfl rfl hl.1 ⟨⟨(Nat.le_of_ble_eq_true rfl), (Nat.le_of_ble_eq_true rfl)⟩, by omega, by omega⟩ rfl (Nat.le_of_ble_eq_true rfl) dL_law_3404 (fun H locs hs => ?_)
  refine W.eq (g2 := F0 m 3407 ls [.int k1]) rfl ?_
  refine lv_iload C.1 C.2.1 dL_law_3407 (lv_at hl 1 rfl) ?_
  refine lv_icmp_eq (tgt := 3414) C.1 C.2.1 dL_law_3409 (by decide) (fun c7 => ?_) (fun c7 => absurd rfl c7)
  refine lv_iload C.1 C.2.1 dL_law_3414 (lv_at hl 1 rfl) ?_
  refine lv_if_ne (tgt := 3431) C.1 C.2.1 dL_law_3416 (by decide) (fun c8 => ?_) (fun c8 => ?_)
  · refine lv_goto (tgt := 3547) C.1 C.2.1 dL_law_3431 (by decide) ?_
    refine W.widen (k := cells + 5) (n := slots + 2048) (by omega) (by omega) ?_
    exact kk _ _ _ _ _ hs hI (lv_sub hl [2, 3, 4, 5, 6] rfl)
  · refine lv_aload_n C.1 C.2.1 dL_law_3419 rfl (lv_at hl 3 rfl) ?_
    refine lv_iconst (v := 0) C.1 C.2.1 dL_law_3420 (by decide) ?_
    have g7 : aL σ5 ob 2 0 = some (Int32.toInt64 r4) := g6 c8
    refine sx_lald C hs g7 dL_law_3421 ?_
    refine lv_iload C.1 C.2.1 dL_law_3422 (lv_at hl 0 rfl) ?_
    refine lv_i2l (v := Int32.toInt64 r4) C.1 C.2.1 dL_law_3424 rfl ?_
    refine W.lcmp C.1 C.2.1 dL_law_3425 ?_
    refine lv_if_eq (tgt := 3431) C.1 C.2.1 dL_law_3426 (by decide) (fun c9 => ?_) (fun c9 => absurd ((lg_cmp_eq _ _).mpr rfl) c9)
    refine lv_goto (tgt := 3547) C.1 C.2.1 dL_law_3431 (by decide) ?_
    refine W.widen (k := cells + 5) (n := slots + 2048) (by omega) (by omega) ?_
    exact kk _ _ _ _ _ hs hI (lv_sub hl [2, 3, 4, 5, 6] rfl)
def A_shut (I : Nat → Sto → Prop) (N xb mb ob : Nat) : Prop := ∀ (v1 : Int32), Ag I mb ob (fun x : Int32 => x.toInt64) (fun σ sz => f_L_shut N σ sz xb v1 ob) (fun σ => f_X12_shut N σ mb v1)
set_option maxHeartbeats 4000000 in
set_option maxRecDepth 100000 in
theorem lc_shut {l : Launch} (hfl : l.stackTraces = false) {g : PP} {p : Program} {e : Env} {s : State} {m : MethodId} {args : Array Value} {below : List Frame} {meth : Method} {c : Code} {N : Nat} {I : Nat → Sto → Prop} {n : Nat} (hn : n < 512) {xs : Nat → Int32} {b L xb mb ob : Nat} {i : Int32} (C : Cx g p s m meth c cL_law 8 "TillhouseLaw") (hX : va_X b L xs s s.heap) (hbl : b < s.heap.size) (hbA : ¬ Aw g b) (hi0 : vp_in i L) (hi1 : vp_in (i + 1) L) (hi2 : vp_in (i + 2) L) (hi3 : vp_in (i + 3) L) (hi4 : vp_in (i + 4) L) (hi5 : vp_in (i + 5) L) (hi6 : vp_in (i + 6) L)
    (A : A_shut I N xb mb ob) {σ : Sto} {sz : Nat} {H : Heap} {locs : List Loc} {ls : Array Slot} {cells slots : Nat} (hs : HS g s σ sz H locs) (hI : I n σ) (hl : lv_has ls 8 [(4, .int i), (3, .ref ob), (2, .ref mb), (1, .ref xb), (0, .ref b)]) (hc : cells + 5 ≤ room_1.cells) (hS : slots + 2048 ≤ room_1.slots) {Q : State → Prop}
    (kk : ∀ (σ : Sto) (sz : Nat) (H : Heap) (locs : List Loc) (ls : Array Slot), HS g s σ sz H locs → I (n + 1) σ → lv_has ls 8 [(4, .int i), (3, .ref ob), (2, .ref mb), (1, .ref xb), (0, .ref b)] → W p l e room_1 s m args below meth c H locs (cells + 5) (slots + 2048) Q (F0 m 3547 ls [])) : W p l e room_1 s m args below meth c H locs cells slots Q (F0 m 3434 ls []) := by
  refine lv_aload_n C.1 C.2.1 dL_law_3434 rfl (lv_at hl 3 rfl) ?_
  refine lv_aload_n C.1 C.2.1 dL_law_3435 rfl (lv_at hl 4 rfl) ?_
  refine lv_iload C.1 C.2.1 dL_law_3436 (lv_at hl 0 rfl) ?_
  refine lv_iconst (v := 1) C.1 C.2.1 dL_law_3438 (by decide) ?_
  refine lv_iadd C.1 C.2.1 dL_law_3439 ?_
  refine va_sld C.1 C.2.1 hX hbl hbA hs.2.2 hi1 dL_law_3440 ?_
  refine lv_aload_n C.1 C.2.1 dL_law_3441 rfl (lv_at hl 1 rfl) ?_
  obtain ⟨k1, σ2, z3, r4, σ5, g1, g2, g3, g4, g5, g6, hI⟩ := A (xs (i + 1).toNatClampNeg) _ _ _ hn hI (HS.fr hs)
  have g1 : f_L_shut N σ sz xb (xs (i + 1).toNatClampNeg) ob = some (k1, σ2, z3) := g1
  refine sx_callSW (As := [.ref xb, .int (xs (i + 1).toNatClampNeg), .ref ob]) (rest := []) C hs (c_L_shut hfl g1) mo_L_shut q1318 rfl hl.1 ⟨⟨(Nat.le_of_ble_eq_true rfl), (Nat.le_of_ble_eq_true rfl)⟩, by omega, by omega⟩ rfl (Nat.le_of_ble_eq_true rfl) dL_law_3442 (fun z6 _ H locs hs => ?_)
  refine W.eq (g2 := F0 m 3445 ls [.int k1]) rfl ?_
  refine lv_istore (lv' := [(5, .int k1), (4, .int i), (3, .ref ob), (2, .ref mb), (1, .ref xb), (0, .ref b)]) C.1 C.2.1 dL_law_3445 hl (by decide) rfl (fun ls hl => ?_)
  refine lv_aload_n C.1 C.2.1 dL_law_3447 rfl (lv_at hl 3 rfl) ?_
  refine lv_aload_n C.1 C.2.1 dL_law_3448 rfl (lv_at hl 5 rfl) ?_
  refine lv_iload C.1 C.2.1 dL_law_3449 (lv_at hl 1 rfl) ?_
  refine lv_iconst (v := 1) C.1 C.2.1 dL_law_3451 (by decide) ?_
  refine lv_iadd C.1 C.2.1 dL_law_3452 ?_
  refine va_sld C.1 C.2.1 hX hbl hbA hs.2.2 hi1 dL_law_3453 ?_
  have g3 : f_X12_shut N σ2 mb (xs (i + 1).toNatClampNeg) = some (r4, σ5) := g3
  refine sx_callV (As := [.int (xs (i + 1).toNatClampNeg)]) (rest := []) C hs (c_X12_shut g3) mo_X12_shut q1886 g2 rfl rfl hl.1 ⟨⟨(Nat.le_of_ble_eq_true rfl), (Nat.le_of_ble_eq_true rfl)⟩, by omega, by omega⟩ rfl (Nat.le_of_ble_eq_true rfl) dL_law_3454 (fun H locs hs => ?_)
  refine W.eq (g2 := F0 m 3457 ls [.int r4]) rfl ?_
  refine lv_istore (lv' := [(6, .int r4), (5, .int k1), (4, .int i), (3, .ref ob), (2, .ref mb), (1, .ref xb), (0, .ref b)]) C.1 C.2.1 dL_law_3457 hl (by decide) rfl (fun ls hl => ?_)
  refine lv_aload_n C.1 C.2.1 dL_law_3459 rfl (lv_at hl 4 rfl) ?_
  refine sx_callV (As := []) (rest := []) C hs (c_X12_thrown g5) mo_X12_thrown q1511 g4 rfl rfl hl.1 ⟨⟨(Nat.le_of_ble_eq_true rfl), (Nat.le_of_ble_eq_true rfl)⟩, by omega, by omega⟩ rfl (Nat.le_of_ble_eq_true rfl) dL_law_3460 (fun H locs hs => ?_)
  refine W.eq (g2 := F0 m 3463 ls [.int k1]) rfl ?_
  refine lv_iload C.1 C.2.1 dL_law_3463 (lv_at hl 1 rfl) ?_
  refine lv_icmp_eq (tgt := 3470) C.1 C.2.1 dL_law_3465 (by decide) (fun c7 => ?_) (fun c7 => absurd rfl c7)
  refine lv_iload C.1 C.2.1 dL_law_3470 (lv_at hl 1 rfl) ?_
  refine lv_if_ne (tgt := 3487) C.1 C.2.1 dL_law_3472 (by decide) (fun c8 => ?_) (fun c8 => ?_)
  · refine lv_goto (tgt := 3547) C.1 C.2.1 dL_law_3487 (by decide) ?_
    refine W.widen (k := cells + 5) (n := slots + 2048) (by omega) (by omega) ?_
    exact kk _ _ _ _ _ hs hI (lv_sub hl [2, 3, 4, 5, 6] rfl)
  · refine lv_aload_n C.1 C.2.1 dL_law_3475 rfl (lv_at hl 3 rfl) ?_
    refine lv_iconst (v := 0) C.1 C.2.1 dL_law_3476 (by decide) ?_
    have g7 : aL σ5 ob 2 0 = some (Int32.toInt64 r4) := g6 c8
    refine sx_lald C hs g7 dL_law_3477 ?_
    refine lv_iload C.1 C.2.1 dL_law_3478 (lv_at hl 0 rfl) ?_
    refine lv_i2l (v := Int32.toInt64 r4) C.1 C.2.1 dL_law_3480 rfl ?_
    refine W.lcmp C.1 C.2.1 dL_law_3481 ?_
    refine lv_if_eq (tgt := 3487) C.1 C.2.1 dL_law_3482 (by decide) (fun c9 => ?_) (fun c9 => absurd ((lg_cmp_eq _ _).mpr rfl) c9)
    refine lv_goto (tgt := 3547) C.1 C.2.1 dL_law_3487 (by decide) ?_
    refine W.widen (k := cells + 5) (n := slots + 2048) (by omega) (by omega) ?_
    exact kk _ _ _ _ _ hs hI (lv_sub hl [2, 3, 4, 5, 6] rfl)
def A_undo (I : Nat → Sto → Prop) (N xb mb ob : Nat) : Prop := Ag I mb ob (fun x : Int32 => x.toInt64) (fun σ sz => f_L_undo σ sz xb ob) (fun σ => f_X12_undo σ mb)
set_option maxHeartbeats 4000000 in
set_option maxRecDepth 100000 in
theorem lc_undo {l : Launch} (hfl : l.stackTraces = false) {g : PP} {p : Program} {e : Env} {s : State} {m : MethodId} {args : Array Value} {below : List Frame} {meth : Method} {c : Code} {N : Nat} {I : Nat → Sto → Prop} {n : Nat} (hn : n < 512) {xs : Nat → Int32} {b L xb mb ob : Nat} {i : Int32} (C : Cx g p s m meth c cL_law 8 "TillhouseLaw") (hX : va_X b L xs s s.heap) (hbl : b < s.heap.size) (hbA : ¬ Aw g b) (hi0 : vp_in i L) (hi1 : vp_in (i + 1) L) (hi2 : vp_in (i + 2) L) (hi3 : vp_in (i + 3) L) (hi4 : vp_in (i + 4) L) (hi5 : vp_in (i + 5) L) (hi6 : vp_in (i + 6) L)
    (A : A_undo I N xb mb ob) {σ : Sto} {sz : Nat} {H : Heap} {locs : List Loc} {ls : Array Slot} {cells slots : Nat} (hs : HS g s σ sz H locs) (hI : I n σ) (hl : lv_has ls 8 [(4, .int i), (3, .ref ob), (2, .ref mb), (1, .ref xb), (0, .ref b)]) (hc : cells + 5 ≤ room_1.cells) (hS : slots + 2048 ≤ room_1.slots) {Q : State → Prop}
    (kk : ∀ (σ : Sto) (sz : Nat) (H : Heap) (locs : List Loc) (ls : Array Slot), HS g s σ sz H locs → I (n + 1) σ → lv_has ls 8 [(4, .int i), (3, .ref ob), (2, .ref mb), (1, .ref xb), (0, .ref b)] → W p l e room_1 s m args below meth c H locs (cells + 5) (slots + 2048) Q (F0 m 3547 ls [])) : W p l e room_1 s m args below meth c H locs cells slots Q (F0 m 3490 ls []) := by
  refine lv_aload_n C.1 C.2.1 dL_law_3490 rfl (lv_at hl 3 rfl) ?_
  refine lv_aload_n C.1 C.2.1 dL_law_3491 rfl (lv_at hl 1 rfl) ?_
  obtain ⟨k1, σ2, z3, r4, σ5, g1, g2, g3, g4, g5, g6, hI⟩ := A  _ _ _ hn hI (HS.fr hs)
  have g1 : f_L_undo σ sz xb ob = some (k1, σ2, z3) := g1
  refine sx_callSW (As := [.ref xb, .ref ob]) (rest := []) C hs (c_L_undo hfl g1) mo_L_undo q1330 rfl hl.1 ⟨⟨(Nat.le_of_ble_eq_true rfl), (Nat.le_of_ble_eq_true rfl)⟩, by omega, by omega⟩ rfl (Nat.le_of_ble_eq_true rfl) dL_law_3492 (fun z6 _ H locs hs => ?_)
  refine W.eq (g2 := F0 m 3495 ls [.int k1]) rfl ?_
  refine lv_istore (lv' := [(5, .int k1), (4, .int i), (3, .ref ob), (2, .ref mb), (1, .ref xb), (0, .ref b)]) C.1 C.2.1 dL_law_3495 hl (by decide) rfl (fun ls hl => ?_)
  refine lv_aload_n C.1 C.2.1 dL_law_3497 rfl (lv_at hl 3 rfl) ?_
  have g3 : f_X12_undo σ2 mb = some (r4, σ5) := g3
  refine sx_callV (As := []) (rest := []) C hs (c_X12_undo g3) mo_X12_undo q1890 g2 rfl rfl hl.1 ⟨⟨(Nat.le_of_ble_eq_true rfl), (Nat.le_of_ble_eq_true rfl)⟩, by omega, by omega⟩ rfl (Nat.le_of_ble_eq_true rfl) dL_law_3498 (fun H locs hs => ?_)
  refine W.eq (g2 := F0 m 3501 ls [.int r4]) rfl ?_
  refine lv_istore (lv' := [(6, .int r4), (5, .int k1), (4, .int i), (3, .ref ob), (2, .ref mb), (1, .ref xb), (0, .ref b)]) C.1 C.2.1 dL_law_3501 hl (by decide) rfl (fun ls hl => ?_)
  refine lv_aload_n C.1 C.2.1 dL_law_3503 rfl (lv_at hl 4 rfl) ?_
  refine sx_callV (As := []) (rest := []) C hs (c_X12_thrown g5) mo_X12_thrown q1511 g4 rfl rfl hl.1 ⟨⟨(Nat.le_of_ble_eq_true rfl), (Nat.le_of_ble_eq_true rfl)⟩, by omega, by omega⟩ rfl (Nat.le_of_ble_eq_true rfl) dL_law_3504 (fun H locs hs => ?_)
  refine W.eq (g2 := F0 m 3507 ls [.int k1]) rfl ?_
  refine lv_iload C.1 C.2.1 dL_law_3507 (lv_at hl 1 rfl) ?_
  refine lv_icmp_eq (tgt := 3514) C.1 C.2.1 dL_law_3509 (by decide) (fun c7 => ?_) (fun c7 => absurd rfl c7)
  refine lv_iload C.1 C.2.1 dL_law_3514 (lv_at hl 1 rfl) ?_
  refine lv_if_ne (tgt := 3531) C.1 C.2.1 dL_law_3516 (by decide) (fun c8 => ?_) (fun c8 => ?_)
  · refine lv_goto (tgt := 3547) C.1 C.2.1 dL_law_3531 (by decide) ?_
    refine W.widen (k := cells + 5) (n := slots + 2048) (by omega) (by omega) ?_
    exact kk _ _ _ _ _ hs hI (lv_sub hl [2, 3, 4, 5, 6] rfl)
  · refine lv_aload_n C.1 C.2.1 dL_law_3519 rfl (lv_at hl 3 rfl) ?_
    refine lv_iconst (v := 0) C.1 C.2.1 dL_law_3520 (by decide) ?_
    have g7 : aL σ5 ob 2 0 = some (Int32.toInt64 r4) := g6 c8
    refine sx_lald C hs g7 dL_law_3521 ?_
    refine lv_iload C.1 C.2.1 dL_law_3522 (lv_at hl 0 rfl) ?_
    refine lv_i2l (v := Int32.toInt64 r4) C.1 C.2.1 dL_law_3524 rfl ?_
    refine W.lcmp C.1 C.2.1 dL_law_3525 ?_
    refine lv_if_eq (tgt := 3531) C.1 C.2.1 dL_law_3526 (by decide) (fun c9 => ?_) (fun c9 => absurd ((lg_cmp_eq _ _).mpr rfl) c9)
    refine lv_goto (tgt := 3547) C.1 C.2.1 dL_law_3531 (by decide) ?_
    refine W.widen (k := cells + 5) (n := slots + 2048) (by omega) (by omega) ?_
    exact kk _ _ _ _ _ hs hI (lv_sub hl [2, 3, 4, 5, 6] rfl)
def A_isSound (I : Nat → Sto → Prop) (N xb mb ob : Nat) : Prop := AgR I xb mb (fun σ => f_X11_isSound N σ xb) (fun σ => f_X12_isSound σ mb)
set_option maxHeartbeats 4000000 in
set_option maxRecDepth 100000 in
theorem lc_isSound {l : Launch} (hfl : l.stackTraces = false) {g : PP} {p : Program} {e : Env} {s : State} {m : MethodId} {args : Array Value} {below : List Frame} {meth : Method} {c : Code} {N : Nat} {I : Nat → Sto → Prop} {n : Nat} (hn : n < 512) {xs : Nat → Int32} {b L xb mb ob : Nat} {i : Int32} (C : Cx g p s m meth c cL_law 8 "TillhouseLaw") (hX : va_X b L xs s s.heap) (hbl : b < s.heap.size) (hbA : ¬ Aw g b) (hi0 : vp_in i L) (hi1 : vp_in (i + 1) L) (hi2 : vp_in (i + 2) L) (hi3 : vp_in (i + 3) L) (hi4 : vp_in (i + 4) L) (hi5 : vp_in (i + 5) L) (hi6 : vp_in (i + 6) L)
    (A : A_isSound I N xb mb ob) {σ : Sto} {sz : Nat} {H : Heap} {locs : List Loc} {ls : Array Slot} {cells slots : Nat} (hs : HS g s σ sz H locs) (hI : I n σ) (hl : lv_has ls 8 [(4, .int i), (3, .ref ob), (2, .ref mb), (1, .ref xb), (0, .ref b)]) (hc : cells + 5 ≤ room_1.cells) (hS : slots + 2048 ≤ room_1.slots) {Q : State → Prop}
    (kk : ∀ (σ : Sto) (sz : Nat) (H : Heap) (locs : List Loc) (ls : Array Slot), HS g s σ sz H locs → I (n + 1) σ → lv_has ls 8 [(4, .int i), (3, .ref ob), (2, .ref mb), (1, .ref xb), (0, .ref b)] → W p l e room_1 s m args below meth c H locs (cells + 5) (slots + 2048) Q (F0 m 3547 ls [])) : W p l e room_1 s m args below meth c H locs cells slots Q (F0 m 3534 ls []) := by
  refine lv_aload_n C.1 C.2.1 dL_law_3534 rfl (lv_at hl 3 rfl) ?_
  obtain ⟨r1, σ2, g1, g2, g3, g4, hI⟩ := A _ _ _ hn hI (HS.fr hs)
  have g2 : f_X11_isSound N σ xb = some r1 := g2
  refine sx_callV (As := []) (rest := []) C hs (c_X11_isSound g2) mo_X11_isSound q316 g1 rfl rfl hl.1 ⟨⟨(Nat.le_of_ble_eq_true rfl), (Nat.le_of_ble_eq_true rfl)⟩, by omega, by omega⟩ rfl (Nat.le_of_ble_eq_true rfl) dL_law_3535 (fun H locs hs => ?_)
  refine W.eq (g2 := F0 m 3538 ls [.int r1]) rfl ?_
  refine lv_aload_n C.1 C.2.1 dL_law_3538 rfl (lv_at hl 2 rfl) ?_
  have g4 : f_X12_isSound σ mb = some (r1, σ2) := g4
  refine sx_callV (As := []) (rest := [.int r1]) C hs (c_X12_isSound g4) mo_X12_isSound q1894 g3 rfl rfl hl.1 ⟨⟨(Nat.le_of_ble_eq_true rfl), (Nat.le_of_ble_eq_true rfl)⟩, by omega, by omega⟩ rfl (Nat.le_of_ble_eq_true rfl) dL_law_3539 (fun H locs hs => ?_)
  refine W.eq (g2 := F0 m 3542 ls [.int r1, .int r1]) rfl ?_
  refine lv_icmp_eq (tgt := 3547) C.1 C.2.1 dL_law_3542 (by decide) (fun c1 => ?_) (fun c1 => absurd rfl c1)
  refine W.widen (k := cells + 5) (n := slots + 2048) (by omega) (by omega) ?_
  exact kk _ _ _ _ _ hs hI (lv_sub hl [0, 1, 2, 3, 4] rfl)
