def f_X0_init (σ : Sto) (a0 : Nat) : Option (Unit × Sto) :=
 (pF σ a0 0 0 (.int 2)).bind fun τ1 =>
 (pF τ1 a0 0 1 (.int 104)).bind fun τ2 =>
 (pF τ2 a0 0 2 (.int 1)).bind fun τ3 =>
 some ((), τ3)
set_option maxHeartbeats 4000000 in
set_option maxRecDepth 100000 in
theorem c_X0_init {l : Launch} {g : PP} {σ : Sto} {sz : Nat} {a0 : Nat} {r9 : Unit} {σ9 : Sto} (h : f_X0_init σ a0 = some (r9, σ9)) : Met l yX0_init [Cond.code yX0_init cX0_init 1 none] (rmk 1 0 0 20) (Pre g σ sz [.ref a0]) (Pst g (vV r9) σ9 sz) 0 0 (Aw g) := by
  refine Met.ofW (cc := cX0_init) (maxL := 1) (ret := none) (by decide) rfl ?_
  intro p e s m args below meth c s₁ B hml hv
  obtain ⟨rfl, C, hs⟩ := ctx_of B hml hv
  have C : Cx g p s m meth c cX0_init 1 "Tillhouse$Currency" := C
  have hr := B.returns
  have hin : meth.name = "<init>" := (name_of_methodNamed B.named B.method).1
  have hl := lv_entry ([.ref a0]) (n := 1) (Nat.le_of_ble_eq_true rfl)
  rw [lg_entry_eq]
  generalize (lg_sl ([.ref a0]) ++ List.replicate (1 - (lg_sl ([.ref a0])).length) Slot.unset).toArray = ls at hl ⊢
  have hl : lv_has ls 1 [(0, .ref a0)] := hl
  unfold f_X0_init at h
  refine lv_aload_n C.1 C.2.1 dX0_init_0 rfl (lv_at hl 0 rfl) ?_
  refine sx_objInit C hl q216 qobj1 qobj2 dX0_init_1 (Nat.le_of_ble_eq_true rfl) (Nat.le_of_ble_eq_true rfl) ?_
  refine lv_aload_n C.1 C.2.1 dX0_init_4 rfl (lv_at hl 0 rfl) ?_
  refine lv_iconst (v := 2) C.1 C.2.1 dX0_init_5 (by decide) ?_
  replace h := ob h; obtain ⟨τ1, eτ1, h⟩ := h
  refine sx_put C hs fp_X0_7 rfl rfl eτ1 dX0_init_6 (fun H locs hs => ?_)
  refine lv_aload_n C.1 C.2.1 dX0_init_9 rfl (lv_at hl 0 rfl) ?_
  refine lv_bipush (v := 104) C.1 C.2.1 dX0_init_10 (by decide) ?_
  replace h := ob h; obtain ⟨τ2, eτ2, h⟩ := h
  refine sx_put C hs fp_X0_13 (by decide) (by decide) eτ2 dX0_init_12 (fun H locs hs => ?_)
  refine lv_aload_n C.1 C.2.1 dX0_init_15 rfl (lv_at hl 0 rfl) ?_
  refine lv_iconst (v := 1) C.1 C.2.1 dX0_init_16 (by decide) ?_
  replace h := ob h; obtain ⟨τ3, eτ3, h⟩ := h
  refine sx_put C hs fp_X0_17 rfl rfl eτ3 dX0_init_17 (fun H locs hs => ?_)
  cases h
  exact sx_vret C hs hr dX0_init_20
def f_X1_init (σ : Sto) (a0 : Nat) (v1 : Int64) (v3 : Int64) : Option (Unit × Sto) :=
 (pF σ a0 1 0 (.long (if 1 < v3 then v3 else 1))).bind fun τ1 =>
 (gL τ1 a0 1 0).bind fun x2 =>
 if x2 = 0 then none else
 (pF τ1 a0 1 1 (.long (v1 / x2))).bind fun τ4 =>
 (gL τ4 a0 1 0).bind fun x5 =>
 if x5 = 0 then none else
 (pF τ4 a0 1 2 (.long (v1 - v1 / x5 * x5))).bind fun τ7 =>
 some ((), τ7)
set_option maxHeartbeats 4000000 in
set_option maxRecDepth 100000 in
theorem c_X1_init {l : Launch} {g : PP} {σ : Sto} {sz : Nat} {a0 : Nat} {v1 : Int64} {v3 : Int64} {r9 : Unit} {σ9 : Sto} (h : f_X1_init σ a0 v1 v3 = some (r9, σ9)) : Met l yX1_init [Cond.code yX1_init cX1_init 5 none] (rmk 1 0 0 30) (Pre g σ sz [.ref a0, .long v1, .long v3]) (Pst g (vV r9) σ9 sz) 0 0 (Aw g) := by
  refine Met.ofW (cc := cX1_init) (maxL := 5) (ret := none) (by decide) rfl ?_
  intro p e s m args below meth c s₁ B hml hv
  obtain ⟨rfl, C, hs⟩ := ctx_of B hml hv
  have C : Cx g p s m meth c cX1_init 5 "Tillhouse$Division" := C
  have hr := B.returns
  have hin : meth.name = "<init>" := (name_of_methodNamed B.named B.method).1
  have hl := lv_entry ([.ref a0, .long v1, .long v3]) (n := 5) (Nat.le_of_ble_eq_true rfl)
  rw [lg_entry_eq]
  generalize (lg_sl ([.ref a0, .long v1, .long v3]) ++ List.replicate (5 - (lg_sl ([.ref a0, .long v1, .long v3])).length) Slot.unset).toArray = ls at hl ⊢
  have hl : lv_has ls 5 [(0, .ref a0), (1, .long v1), (3, .long v3)] := hl
  unfold f_X1_init at h
  refine lv_aload_n C.1 C.2.1 dX1_init_0 rfl (lv_at hl 0 rfl) ?_
  refine sx_objInit C hl q770 qobj1 qobj2 dX1_init_1 (Nat.le_of_ble_eq_true rfl) (Nat.le_of_ble_eq_true rfl) ?_
  refine lv_aload_n C.1 C.2.1 dX1_init_4 rfl (lv_at hl 0 rfl) ?_
  refine lv_lload_n C.1 C.2.1 dX1_init_5 rfl (lv_at hl 2 rfl) ?_
  refine lv_lconst (v := 1) C.1 C.2.1 dX1_init_6 (by decide) ?_
  refine va_mmax_long C.1 C.2.1 (C.2.2.1.trans hl.1.symm) C.2.2.2.1 (C.2.2.2.2.1.1 _ q771 _) (C.2.2.2.2.1.1 _ mth_va_mmax_long_s _) (C.2.2.2.2.1.1 _ qmath _) (C.2.2.2.2.1.1 _ mth_va_mmax_long_c _) (by exact Nat.le_of_ble_eq_true rfl) (by exact Nat.le_of_ble_eq_true rfl) (by exact Nat.le_of_ble_eq_true rfl) (by exact Nat.le_of_ble_eq_true rfl) dX1_init_7 ?_
  replace h := ob h; obtain ⟨τ1, eτ1, h⟩ := h
  refine sx_putF C hs fi_X1_15 hin rfl rfl eτ1 dX1_init_10 (fun H locs hs => ?_)
  refine lv_aload_n C.1 C.2.1 dX1_init_13 rfl (lv_at hl 0 rfl) ?_
  refine lv_lload_n C.1 C.2.1 dX1_init_14 rfl (lv_at hl 1 rfl) ?_
  refine lv_aload_n C.1 C.2.1 dX1_init_15 rfl (lv_at hl 0 rfl) ?_
  replace h := ob h; obtain ⟨x2, ex2, h⟩ := h
  refine sx_getV C hs fo_X1_15 (gL_v ex2) dX1_init_16 ?_
  replace h := on h; obtain ⟨n3, h⟩ := h
  refine lv_ldiv C.1 C.2.1 dX1_init_19 n3 ?_
  replace h := ob h; obtain ⟨τ4, eτ4, h⟩ := h
  refine sx_put C hs fp_X1_21 rfl rfl eτ4 dX1_init_20 (fun H locs hs => ?_)
  refine lv_aload_n C.1 C.2.1 dX1_init_23 rfl (lv_at hl 0 rfl) ?_
  refine lv_lload_n C.1 C.2.1 dX1_init_24 rfl (lv_at hl 1 rfl) ?_
  refine lv_aload_n C.1 C.2.1 dX1_init_25 rfl (lv_at hl 0 rfl) ?_
  replace h := ob h; obtain ⟨x5, ex5, h⟩ := h
  refine sx_getV C hs fo_X1_15 (gL_v ex5) dX1_init_26 ?_
  replace h := on h; obtain ⟨n6, h⟩ := h
  refine lv_lrem C.1 C.2.1 dX1_init_29 n6 ?_
  replace h := ob h; obtain ⟨τ7, eτ7, h⟩ := h
  refine sx_put C hs fp_X1_24 rfl rfl eτ7 dX1_init_30 (fun H locs hs => ?_)
  cases h
  exact sx_vret C hs hr dX1_init_33
def b_X1_byRaised_27 (σ : Sto) (sz : Nat) (v0 : Int64) : Option (Nat × Sto × Nat) :=
 lt_ (nO σ sz 1 dvX1) fun τ1 =>
 b2 (f_X1_init τ1 sz v0 2000000000000000001) fun x2 τ3 =>
 some (sz, τ3, sz + 1)
def f_X1_byRaised (σ : Sto) (sz : Nat) (v0 : Int64) (v2 : Int64) (v4 : Int32) : Option (Nat × Sto × Nat) :=
 if v4 < 0 then
 b_X1_byRaised_27 σ sz v0
 else
 if 18 < v4 then
 b_X1_byRaised_27 σ sz v0
 else
 (pw v4).bind fun x3 =>
 if x3 = 0 then none else
 if v2 ≤ (2000000000000000000 / x3) then
 lt_ (nO σ sz 1 dvX1) fun τ6 =>
 (pw v4).bind fun x7 =>
 b2 (f_X1_init τ6 sz v0 (v2 * x7)) fun x8 τ9 =>
 some (sz, τ9, sz + 1)
 else
 b_X1_byRaised_27 σ sz v0
set_option maxHeartbeats 4000000 in
set_option maxRecDepth 100000 in
theorem t_X1_byRaised_27 {l : Launch} {g : PP} {p : Program} {e : Env} {s : State} {m : MethodId} {args : Array Value} {below : List Frame} {meth : Method} {c : Code} (C : Cx g p s m meth c cX1_byRaised 5 "Tillhouse$Division") (hr : meth.sig.returnType = some (.object "Tillhouse$Division"))   {σ : Sto} {sz : Nat} {v0 : Int64} {r9 : Nat} {σ9 : Sto} {sz9 : Nat}
    (h : b_X1_byRaised_27 σ sz v0 = some (r9, σ9, sz9)) 
    {H : Heap} {locs : List Loc} {ls : Array Slot} (hs : HS g s σ sz H locs) (hl : lv_has ls 5 [(0, .long v0)]) : W p l e (rmk 2 1 3 54) s m args below meth c H locs 0 0 (MQ below (Pst g (vR r9) σ9 sz9) args s 1 3 (Aw g)) (F0 m 27 ls []) := by
  unfold b_X1_byRaised_27 at h
  replace h := ol h; obtain ⟨τ1, eτ1, h⟩ := h
  refine sx_new C hs no_X1_16 (Nat.le_of_ble_eq_true rfl) (Nat.le_of_ble_eq_true rfl) dX1_byRaised_27 (fun H hs => ?_)
  replace hs := HS.nm eτ1 hs
  refine lv_dup C.1 C.2.1 dX1_byRaised_30 rfl ?_
  refine lv_lload_n C.1 C.2.1 dX1_byRaised_31 rfl (lv_at hl 0 rfl) ?_
  refine lv_ldc2 (v := 2000000000000000001) C.1 C.2.1 C.2.2.2.1 (C.2.2.2.2.1.1 _ q766 _) dX1_byRaised_32 ?_
  replace h := ob2 h; obtain ⟨x2, τ3, ex2, h⟩ := h
  refine sx_callI (As := [.long v0, .long 2000000000000000001]) (rest := [.ref sz]) C hs (c_X1_init ex2) mo_X1_init q767 rfl hl.1 ⟨⟨(Nat.le_of_ble_eq_true rfl), (Nat.le_of_ble_eq_true rfl)⟩, (Nat.le_of_ble_eq_true rfl), (Nat.le_of_ble_eq_true rfl)⟩ rfl (Nat.le_of_ble_eq_true rfl) dX1_byRaised_35 (fun H locs hs => ?_)
  cases h
  exact sx_aret C hs hr (by first | exact Or.inl ⟨_, rfl⟩ | exact Or.inr ⟨_, rfl⟩) dX1_byRaised_38
set_option maxHeartbeats 4000000 in
set_option maxRecDepth 100000 in
theorem c_X1_byRaised {l : Launch} {g : PP} {σ : Sto} {sz : Nat} {v0 : Int64} {v2 : Int64} {v4 : Int32} {r9 : Nat} {σ9 : Sto} {sz9 : Nat} (h : f_X1_byRaised σ sz v0 v2 v4 = some (r9, σ9, sz9)) : Met l yX1_byRaised [Cond.code yX1_byRaised cX1_byRaised 5 (some (.object "Tillhouse$Division"))] (rmk 2 1 3 54) (Pre g σ sz [.long v0, .long v2, .int v4]) (Pst g (vR r9) σ9 sz9) 1 3 (Aw g) := by
  refine Met.ofW (cc := cX1_byRaised) (maxL := 5) (ret := (some (.object "Tillhouse$Division"))) (by decide) rfl ?_
  intro p e s m args below meth c s₁ B hml hv
  obtain ⟨rfl, C, hs⟩ := ctx_of B hml hv
  have C : Cx g p s m meth c cX1_byRaised 5 "Tillhouse$Division" := C
  have hr := B.returns
  have hl := lv_entry ([.long v0, .long v2, .int v4]) (n := 5) (Nat.le_of_ble_eq_true rfl)
  rw [lg_entry_eq]
  generalize (lg_sl ([.long v0, .long v2, .int v4]) ++ List.replicate (5 - (lg_sl ([.long v0, .long v2, .int v4])).length) Slot.unset).toArray = ls at hl ⊢
  have hl : lv_has ls 5 [(0, .long v0), (2, .long v2), (4, .int v4)] := hl
  unfold f_X1_byRaised at h
  refine lv_iload C.1 C.2.1 dX1_byRaised_0 (lv_at hl 2 rfl) ?_
  refine lv_if_lt (tgt := 27) C.1 C.2.1 dX1_byRaised_2 (by decide) (fun c1 => ?_) (fun c1 => ?_)
  · replace h := ip c1 h
    exact t_X1_byRaised_27 C hr h hs (lv_sub hl [0] rfl)
  · replace h := iN c1 h
    refine lv_iload C.1 C.2.1 dX1_byRaised_5 (lv_at hl 2 rfl) ?_
    refine lv_bipush (v := 18) C.1 C.2.1 dX1_byRaised_7 (by decide) ?_
    refine lv_icmp_gt (tgt := 27) C.1 C.2.1 dX1_byRaised_9 (by decide) (fun c2 => ?_) (fun c2 => ?_)
    · replace h := ip c2 h
      exact t_X1_byRaised_27 C hr h hs (lv_sub hl [0] rfl)
    · replace h := iN c2 h
      refine lv_lload_n C.1 C.2.1 dX1_byRaised_12 rfl (lv_at hl 1 rfl) ?_
      refine lv_ldc2 (v := 2000000000000000000) C.1 C.2.1 C.2.2.2.1 (C.2.2.2.2.1.1 _ q762 _) dX1_byRaised_13 ?_
      refine sx_pw C hs q763 dX1_byRaised_16 ?_
      refine lv_iload C.1 C.2.1 dX1_byRaised_19 (lv_at hl 2 rfl) ?_
      replace h := ob h; obtain ⟨x3, ex3, h⟩ := h
      refine sx_pwl C hs ex3 dX1_byRaised_21 ?_
      replace h := on h; obtain ⟨n4, h⟩ := h
      refine lv_ldiv C.1 C.2.1 dX1_byRaised_22 n4 ?_
      refine W.lcmp C.1 C.2.1 dX1_byRaised_23 ?_
      refine lv_if_le (tgt := 39) C.1 C.2.1 dX1_byRaised_24 (by decide) (fun c5 => ?_) (fun c5 => ?_)
      · replace h := ip ((lg_cmp_le _ _).mp c5) h
        replace h := ol h; obtain ⟨τ6, eτ6, h⟩ := h
        refine sx_new C hs no_X1_16 (Nat.le_of_ble_eq_true rfl) (Nat.le_of_ble_eq_true rfl) dX1_byRaised_39 (fun H hs => ?_)
        replace hs := HS.nm eτ6 hs
        refine lv_dup C.1 C.2.1 dX1_byRaised_42 rfl ?_
        refine lv_lload_n C.1 C.2.1 dX1_byRaised_43 rfl (lv_at hl 0 rfl) ?_
        refine lv_lload_n C.1 C.2.1 dX1_byRaised_44 rfl (lv_at hl 1 rfl) ?_
        refine sx_pw C hs q763 dX1_byRaised_45 ?_
        refine lv_iload C.1 C.2.1 dX1_byRaised_48 (lv_at hl 2 rfl) ?_
        replace h := ob h; obtain ⟨x7, ex7, h⟩ := h
        refine sx_pwl C hs ex7 dX1_byRaised_50 ?_
        refine lv_lmul C.1 C.2.1 dX1_byRaised_51 ?_
        replace h := ob2 h; obtain ⟨x8, τ9, ex8, h⟩ := h
        refine sx_callI (As := [.long v0, .long (v2 * x7)]) (rest := [.ref sz]) C hs (c_X1_init ex8) mo_X1_init q767 rfl hl.1 ⟨⟨(Nat.le_of_ble_eq_true rfl), (Nat.le_of_ble_eq_true rfl)⟩, (Nat.le_of_ble_eq_true rfl), (Nat.le_of_ble_eq_true rfl)⟩ rfl (Nat.le_of_ble_eq_true rfl) dX1_byRaised_52 (fun H locs hs => ?_)
        cases h
        exact sx_aret C hs hr (by first | exact Or.inl ⟨_, rfl⟩ | exact Or.inr ⟨_, rfl⟩) dX1_byRaised_55
      · replace h := iN (fun q => c5 ((lg_cmp_le _ _).mpr q)) h
        exact t_X1_byRaised_27 C hr h hs (lv_sub hl [0] rfl)
def b_X1_bringDown_76 (σ : Sto) (a0 : Nat) (v3 : Int64) (v5 : Int64) : Option ((Nat ⊕ Unit) × Sto) :=
 (gL σ a0 1 1).bind fun x1 =>
 (pF σ a0 1 1 (.long ((x1 * 10) + v3))).bind fun τ2 =>
 (pF τ2 a0 1 2 (.long v5)).bind fun τ3 =>
 some (.inr (), τ3)
def f_X1_bringDown (σ : Sto) (a0 : Nat) : Option ((Nat ⊕ Unit) × Sto) :=
 (gL σ a0 1 1).bind fun x1 =>
 if x1 ≤ 99999999999999999 then
 (gL σ a0 1 2).bind fun x3 =>
 lt_ (x3 * 5) fun x4 =>
 (gL σ a0 1 0).bind fun x5 =>
 if x5 = 0 then none else
 lt_ ((x4 / x5) * 2) fun x7 =>
 (gL σ a0 1 0).bind fun x8 =>
 if x8 = 0 then none else
 lt_ ((x4 - x4 / x8 * x8) * 2) fun x10 =>
 (gL σ a0 1 0).bind fun x11 =>
 if x10 < x11 then
 b_X1_bringDown_76 σ a0 x7 x10
 else
 (gL σ a0 1 0).bind fun x13 =>
 lt_ (x10 - x13) fun x14 =>
 lt_ (x7 + 1) fun x15 =>
 b_X1_bringDown_76 σ a0 x15 x14
 else
 some (.inl 3, σ)
set_option maxHeartbeats 4000000 in
set_option maxRecDepth 100000 in
theorem t_X1_bringDown_76 {l : Launch} {g : PP} {p : Program} {e : Env} {s : State} {m : MethodId} {args : Array Value} {below : List Frame} {meth : Method} {c : Code} (hfl : l.stackTraces = false) (C : Cx g p s m meth c cX1_bringDown 7 "Tillhouse$Division") (hr : meth.sig.returnType = none) (ht : ∀ x ∈ c.exceptionTable.toList, False)   {σ : Sto} {sz : Nat} {a0 : Nat} {v3 : Int64} {v5 : Int64} {r9 : Nat ⊕ Unit} {σ9 : Sto}
    (h : b_X1_bringDown_76 σ a0 v3 v5 = some (r9, σ9)) 
    {H : Heap} {locs : List Loc} {ls : Array Slot} (hs : HS g s σ sz H locs) (hl : lv_has ls 7 [(0, .ref a0), (3, .long v3), (5, .long v5)]) : W p l e (rmk 6 (cX r9) (cY r9) 100) s m args below meth c H locs 0 0 (vx_MQ below (PstX g (Sum.map id vV r9) σ9 sz) (XpX g (Sum.map id vV r9) σ9 sz) args s (cX r9) (cY r9) (Aw g)) (F0 m 76 ls []) := by
  unfold b_X1_bringDown_76 at h
  refine lv_aload_n C.1 C.2.1 dX1_bringDown_76 rfl (lv_at hl 0 rfl) ?_
  refine lv_aload_n C.1 C.2.1 dX1_bringDown_77 rfl (lv_at hl 0 rfl) ?_
  replace h := ob h; obtain ⟨x1, ex1, h⟩ := h
  refine sx_getV C hs fo_X1_21 (gL_v ex1) dX1_bringDown_78 ?_
  refine lv_ldc2 (v := 10) C.1 C.2.1 C.2.2.2.1 (C.2.2.2.2.1.1 _ q798 _) dX1_bringDown_81 ?_
  refine lv_lmul C.1 C.2.1 dX1_bringDown_84 ?_
  refine lv_lload_n C.1 C.2.1 dX1_bringDown_85 rfl (lv_at hl 1 rfl) ?_
  refine lv_ladd C.1 C.2.1 dX1_bringDown_86 ?_
  replace h := ob h; obtain ⟨τ2, eτ2, h⟩ := h
  refine sx_put C hs fp_X1_21 rfl rfl eτ2 dX1_bringDown_87 (fun H locs hs => ?_)
  refine lv_aload_n C.1 C.2.1 dX1_bringDown_90 rfl (lv_at hl 0 rfl) ?_
  refine lv_lload C.1 C.2.1 dX1_bringDown_91 (lv_at hl 2 rfl) ?_
  replace h := ob h; obtain ⟨τ3, eτ3, h⟩ := h
  refine sx_put C hs fp_X1_24 rfl rfl eτ3 dX1_bringDown_93 (fun H locs hs => ?_)
  cases h
  exact sx_vretX C hs hr dX1_bringDown_96
set_option maxHeartbeats 4000000 in
set_option maxRecDepth 100000 in
theorem c_X1_bringDown {l : Launch} (hfl : l.stackTraces = false) {g : PP} {σ : Sto} {sz : Nat} {a0 : Nat} {r9 : Nat ⊕ Unit} {σ9 : Sto} (h : f_X1_bringDown σ a0 = some (r9, σ9)) : vx_Met l yX1_bringDown [Cond.code yX1_bringDown cX1_bringDown 7 none] (rmk 6 (cX r9) (cY r9) 100) (Pre g σ sz [.ref a0]) (PstX g (Sum.map id vV r9) σ9 sz) (XpX g (Sum.map id vV r9) σ9 sz) (cX r9) (cY r9) (Aw g) := by
  refine vx_ofW (cc := cX1_bringDown) (maxL := 7) (ret := none) (by decide) rfl ?_
  intro p e s m args below meth c s₁ B hml ht hv
  obtain ⟨rfl, C, hs⟩ := ctx_of B hml hv
  have C : Cx g p s m meth c cX1_bringDown 7 "Tillhouse$Division" := C
  have hr := B.returns
  have hl := lv_entry ([.ref a0]) (n := 7) (Nat.le_of_ble_eq_true rfl)
  rw [lg_entry_eq]
  generalize (lg_sl ([.ref a0]) ++ List.replicate (7 - (lg_sl ([.ref a0])).length) Slot.unset).toArray = ls at hl ⊢
  have hl : lv_has ls 7 [(0, .ref a0)] := hl
  unfold f_X1_bringDown at h
  refine lv_aload_n C.1 C.2.1 dX1_bringDown_0 rfl (lv_at hl 0 rfl) ?_
  replace h := ob h; obtain ⟨x1, ex1, h⟩ := h
  refine sx_getV C hs fo_X1_21 (gL_v ex1) dX1_bringDown_1 ?_
  refine lv_ldc2 (v := 99999999999999999) C.1 C.2.1 C.2.2.2.1 (C.2.2.2.2.1.1 _ q792 _) dX1_bringDown_4 ?_
  refine W.lcmp C.1 C.2.1 dX1_bringDown_7 ?_
  refine lv_if_le (tgt := 21) C.1 C.2.1 dX1_bringDown_8 (by decide) (fun c2 => ?_) (fun c2 => ?_)
  · replace h := ip ((lg_cmp_le _ _).mp c2) h
    refine lv_aload_n C.1 C.2.1 dX1_bringDown_21 rfl (lv_at hl 0 rfl) ?_
    replace h := ob h; obtain ⟨x3, ex3, h⟩ := h
    refine sx_getV C hs fo_X1_24 (gL_v ex3) dX1_bringDown_22 ?_
    refine lv_ldc2 (v := 5) C.1 C.2.1 C.2.2.2.1 (C.2.2.2.2.1.1 _ q796 _) dX1_bringDown_25 ?_
    refine lv_lmul C.1 C.2.1 dX1_bringDown_28 ?_
    replace h := ol h; obtain ⟨x4, ex4, h⟩ := h
    refine sx_nmL ex4 ?_
    refine lv_lstore_n (lv' := [(1, .long x4), (0, .ref a0)]) C.1 C.2.1 dX1_bringDown_29 rfl hl (by decide) rfl (fun ls hl => ?_)
    refine lv_lload_n C.1 C.2.1 dX1_bringDown_30 rfl (lv_at hl 0 rfl) ?_
    refine lv_aload_n C.1 C.2.1 dX1_bringDown_31 rfl (lv_at hl 1 rfl) ?_
    replace h := ob h; obtain ⟨x5, ex5, h⟩ := h
    refine sx_getV C hs fo_X1_15 (gL_v ex5) dX1_bringDown_32 ?_
    replace h := on h; obtain ⟨n6, h⟩ := h
    refine lv_ldiv C.1 C.2.1 dX1_bringDown_35 n6 ?_
    refine lv_ldc2 (v := 2) C.1 C.2.1 C.2.2.2.1 (C.2.2.2.2.1.1 _ q797 _) dX1_bringDown_36 ?_
    refine lv_lmul C.1 C.2.1 dX1_bringDown_39 ?_
    replace h := ol h; obtain ⟨x7, ex7, h⟩ := h
    refine sx_nmL ex7 ?_
    refine lv_lstore_n (lv' := [(3, .long x7), (1, .long x4), (0, .ref a0)]) C.1 C.2.1 dX1_bringDown_40 rfl hl (by decide) rfl (fun ls hl => ?_)
    refine lv_lload_n C.1 C.2.1 dX1_bringDown_41 rfl (lv_at hl 1 rfl) ?_
    refine lv_aload_n C.1 C.2.1 dX1_bringDown_42 rfl (lv_at hl 2 rfl) ?_
    replace h := ob h; obtain ⟨x8, ex8, h⟩ := h
    refine sx_getV C hs fo_X1_15 (gL_v ex8) dX1_bringDown_43 ?_
    replace h := on h; obtain ⟨n9, h⟩ := h
    refine lv_lrem C.1 C.2.1 dX1_bringDown_46 n9 ?_
    refine lv_ldc2 (v := 2) C.1 C.2.1 C.2.2.2.1 (C.2.2.2.2.1.1 _ q797 _) dX1_bringDown_47 ?_
    refine lv_lmul C.1 C.2.1 dX1_bringDown_50 ?_
    replace h := ol h; obtain ⟨x10, ex10, h⟩ := h
    refine sx_nmL ex10 ?_
    refine lv_lstore (lv' := [(5, .long x10), (3, .long x7), (1, .long x4), (0, .ref a0)]) C.1 C.2.1 dX1_bringDown_51 hl (by decide) rfl (fun ls hl => ?_)
    refine lv_lload C.1 C.2.1 dX1_bringDown_53 (lv_at hl 0 rfl) ?_
    refine lv_aload_n C.1 C.2.1 dX1_bringDown_55 rfl (lv_at hl 3 rfl) ?_
    replace h := ob h; obtain ⟨x11, ex11, h⟩ := h
    refine sx_getV C hs fo_X1_15 (gL_v ex11) dX1_bringDown_56 ?_
    refine W.lcmp C.1 C.2.1 dX1_bringDown_59 ?_
    refine lv_if_lt (tgt := 76) C.1 C.2.1 dX1_bringDown_60 (by decide) (fun c12 => ?_) (fun c12 => ?_)
    · replace h := ip ((lg_cmp_lt _ _).mp c12) h
      exact t_X1_bringDown_76 hfl C hr ht h hs (lv_sub hl [3, 1, 0] rfl)
    · replace h := iN (fun q => c12 ((lg_cmp_lt _ _).mpr q)) h
      refine lv_lload C.1 C.2.1 dX1_bringDown_63 (lv_at hl 0 rfl) ?_
      refine lv_aload_n C.1 C.2.1 dX1_bringDown_65 rfl (lv_at hl 3 rfl) ?_
      replace h := ob h; obtain ⟨x13, ex13, h⟩ := h
      refine sx_getV C hs fo_X1_15 (gL_v ex13) dX1_bringDown_66 ?_
      refine lv_lsub C.1 C.2.1 dX1_bringDown_69 ?_
      replace h := ol h; obtain ⟨x14, ex14, h⟩ := h
      refine sx_nmL ex14 ?_
      refine lv_lstore (lv' := [(5, .long x14), (3, .long x7), (1, .long x4), (0, .ref a0)]) C.1 C.2.1 dX1_bringDown_70 hl (by decide) rfl (fun ls hl => ?_)
      refine lv_lload_n C.1 C.2.1 dX1_bringDown_72 rfl (lv_at hl 1 rfl) ?_
      refine lv_lconst (v := 1) C.1 C.2.1 dX1_bringDown_73 (by decide) ?_
      refine lv_ladd C.1 C.2.1 dX1_bringDown_74 ?_
      replace h := ol h; obtain ⟨x15, ex15, h⟩ := h
      refine sx_nmL ex15 ?_
      refine lv_lstore_n (lv' := [(3, .long x15), (5, .long x14), (1, .long x4), (0, .ref a0)]) C.1 C.2.1 dX1_bringDown_75 rfl hl (by decide) rfl (fun ls hl => ?_)
      exact t_X1_bringDown_76 hfl C hr ht h hs (lv_sub hl [3, 0, 1] rfl)
  · replace h := iN (fun q => c2 ((lg_cmp_le _ _).mpr q)) h
    cases h
    exact sx_throw C hfl hs to_X1_44_46 ht hl.1 dX1_bringDown_11 dX1_bringDown_14 dX1_bringDown_15 dX1_bringDown_17 dX1_bringDown_20 ⟨by decide, (Nat.le_of_ble_eq_true rfl), (Nat.le_of_ble_eq_true rfl), (Nat.le_of_ble_eq_true rfl)⟩ ⟨(Nat.le_of_ble_eq_true rfl), (Nat.le_of_ble_eq_true rfl)⟩
def f_X6_rest (v0 : Int64) (v2 : Int64) : Option Int32 :=
 if v0 = 0 then
 some (0)
 else
 lt_ (v2 - v0) fun x2 =>
 if v0 = x2 then
 some (2)
 else
 if x2 ≤ v0 then
 some (3)
 else
 some (1)
set_option maxHeartbeats 4000000 in
set_option maxRecDepth 100000 in
theorem c_X6_rest {l : Launch} {g : PP} {σ : Sto} {sz : Nat} {v0 : Int64} {v2 : Int64} {r9 : Int32} (h : f_X6_rest v0 v2 = some r9) : Met l yX6_rest [Cond.code yX6_rest cX6_rest 6 (some .int)] (rmk 0 0 0 0) (Pre g σ sz [.long v0, .long v2]) (Pst g (vI r9) σ sz) 0 0 (Aw g) := by
  refine Met.ofW (cc := cX6_rest) (maxL := 6) (ret := (some .int)) (by decide) rfl ?_
  intro p e s m args below meth c s₁ B hml hv
  obtain ⟨rfl, C, hs⟩ := ctx_of B hml hv
  have C : Cx g p s m meth c cX6_rest 6 "Tillhouse$Reckoning" := C
  have hr := B.returns
  have hl := lv_entry ([.long v0, .long v2]) (n := 6) (Nat.le_of_ble_eq_true rfl)
  rw [lg_entry_eq]
  generalize (lg_sl ([.long v0, .long v2]) ++ List.replicate (6 - (lg_sl ([.long v0, .long v2])).length) Slot.unset).toArray = ls at hl ⊢
  have hl : lv_has ls 6 [(0, .long v0), (2, .long v2)] := hl
  unfold f_X6_rest at h
  refine lv_lload_n C.1 C.2.1 dX6_rest_0 rfl (lv_at hl 0 rfl) ?_
  refine lv_lconst (v := 0) C.1 C.2.1 dX6_rest_1 (by decide) ?_
  refine W.lcmp C.1 C.2.1 dX6_rest_2 ?_
  refine lv_if_ne (tgt := 8) C.1 C.2.1 dX6_rest_3 (by decide) (fun c1 => ?_) (fun c1 => ?_)
  · replace h := iN (fun q => c1 ((lg_cmp_eq _ _).mpr q)) h
    refine lv_lload_n C.1 C.2.1 dX6_rest_8 rfl (lv_at hl 1 rfl) ?_
    refine lv_lload_n C.1 C.2.1 dX6_rest_9 rfl (lv_at hl 0 rfl) ?_
    refine lv_lsub C.1 C.2.1 dX6_rest_10 ?_
    replace h := ol h; obtain ⟨x2, ex2, h⟩ := h
    refine sx_nmL ex2 ?_
    refine lv_lstore (lv' := [(4, .long x2), (0, .long v0), (2, .long v2)]) C.1 C.2.1 dX6_rest_11 hl (by decide) rfl (fun ls hl => ?_)
    refine lv_lload_n C.1 C.2.1 dX6_rest_13 rfl (lv_at hl 1 rfl) ?_
    refine lv_lload C.1 C.2.1 dX6_rest_14 (lv_at hl 0 rfl) ?_
    refine W.lcmp C.1 C.2.1 dX6_rest_16 ?_
    refine lv_if_ne (tgt := 22) C.1 C.2.1 dX6_rest_17 (by decide) (fun c3 => ?_) (fun c3 => ?_)
    · replace h := iN (fun q => c3 ((lg_cmp_eq _ _).mpr q)) h
      refine lv_lload_n C.1 C.2.1 dX6_rest_22 rfl (lv_at hl 1 rfl) ?_
      refine lv_lload C.1 C.2.1 dX6_rest_23 (lv_at hl 0 rfl) ?_
      refine W.lcmp C.1 C.2.1 dX6_rest_25 ?_
      refine lv_if_ge (tgt := 33) C.1 C.2.1 dX6_rest_26 (by decide) (fun c4 => ?_) (fun c4 => ?_)
      · replace h := ip ((lg_cmp_ge _ _).mp c4) h
        refine lv_iconst (v := 3) C.1 C.2.1 dX6_rest_33 (by decide) ?_
        cases h
        exact sx_iret C hs hr rfl dX6_rest_34
      · replace h := iN (fun q => c4 ((lg_cmp_ge _ _).mpr q)) h
        refine lv_iconst (v := 1) C.1 C.2.1 dX6_rest_29 (by decide) ?_
        refine lv_goto (tgt := 34) C.1 C.2.1 dX6_rest_30 (by decide) ?_
        cases h
        exact sx_iret C hs hr rfl dX6_rest_34
    · replace h := ip ((lg_cmp_eq _ _).mp c3) h
      refine lv_iconst (v := 2) C.1 C.2.1 dX6_rest_20 (by decide) ?_
      cases h
      exact sx_iret C hs hr rfl dX6_rest_21
  · replace h := ip ((lg_cmp_eq _ _).mp c1) h
    refine lv_iconst (v := 0) C.1 C.2.1 dX6_rest_6 (by decide) ?_
    cases h
    exact sx_iret C hs hr rfl dX6_rest_7
def f_X1_rest (σ : Sto) (a0 : Nat) : Option Int32 :=
 (gL σ a0 1 2).bind fun x1 =>
 (gL σ a0 1 0).bind fun x2 =>
 (f_X6_rest x1 x2).bind fun x3 =>
 some (x3)
set_option maxHeartbeats 4000000 in
set_option maxRecDepth 100000 in
theorem c_X1_rest {l : Launch} {g : PP} {σ : Sto} {sz : Nat} {a0 : Nat} {r9 : Int32} (h : f_X1_rest σ a0 = some r9) : Met l yX1_rest [Cond.code yX1_rest cX1_rest 1 (some .int)] (rmk 1 0 0 25) (Pre g σ sz [.ref a0]) (Pst g (vI r9) σ sz) 0 0 (Aw g) := by
  refine Met.ofW (cc := cX1_rest) (maxL := 1) (ret := (some .int)) (by decide) rfl ?_
  intro p e s m args below meth c s₁ B hml hv
  obtain ⟨rfl, C, hs⟩ := ctx_of B hml hv
  have C : Cx g p s m meth c cX1_rest 1 "Tillhouse$Division" := C
  have hr := B.returns
  have hl := lv_entry ([.ref a0]) (n := 1) (Nat.le_of_ble_eq_true rfl)
  rw [lg_entry_eq]
  generalize (lg_sl ([.ref a0]) ++ List.replicate (1 - (lg_sl ([.ref a0])).length) Slot.unset).toArray = ls at hl ⊢
  have hl : lv_has ls 1 [(0, .ref a0)] := hl
  unfold f_X1_rest at h
  refine lv_aload_n C.1 C.2.1 dX1_rest_0 rfl (lv_at hl 0 rfl) ?_
  replace h := ob h; obtain ⟨x1, ex1, h⟩ := h
  refine sx_getV C hs fo_X1_24 (gL_v ex1) dX1_rest_1 ?_
  refine lv_aload_n C.1 C.2.1 dX1_rest_4 rfl (lv_at hl 0 rfl) ?_
  replace h := ob h; obtain ⟨x2, ex2, h⟩ := h
  refine sx_getV C hs fo_X1_15 (gL_v ex2) dX1_rest_5 ?_
  replace h := ob h; obtain ⟨x3, ex3, h⟩ := h
  refine sx_callS (As := [.long x1, .long x2]) (rest := []) C hs (c_X6_rest ex3) mo_X6_rest q803 rfl hl.1 ⟨⟨(Nat.le_of_ble_eq_true rfl), (Nat.le_of_ble_eq_true rfl)⟩, (Nat.le_of_ble_eq_true rfl), (Nat.le_of_ble_eq_true rfl)⟩ rfl (Nat.le_of_ble_eq_true rfl) dX1_rest_8 (fun H locs hs => ?_)
  refine W.eq (g2 := F0 m 11 ls [.int x3]) rfl ?_
  cases h
  exact sx_iret C hs hr rfl dX1_rest_11
def f_X2_init (σ : Sto) (sz : Nat) (a0 : Nat) (v1 : Int32) (v2 : Int32) (v3 : Int32) : Option (Unit × Sto × Nat) :=
 (pF σ a0 2 2 (.int 0)).bind fun τ1 =>
 lt_ (nA τ1 sz 2 12 z2) fun τ2 =>
 (pF τ2 a0 2 4 (.ref sz)).bind fun τ3 =>
 lt_ (nA τ3 (sz + 1) 1 12 z1) fun τ4 =>
 (pF τ4 a0 2 5 (.ref (sz + 1))).bind fun τ5 =>
 (pF τ5 a0 2 0 (.int v1)).bind fun τ6 =>
 (pF τ6 a0 2 1 (.int v2)).bind fun τ7 =>
 if okZ v3 = true then (
 (pF τ7 a0 2 3 (.int v3)).bind fun τ8 =>
 some ((), τ8, sz + 2)) else none
set_option maxHeartbeats 4000000 in
set_option maxRecDepth 100000 in
theorem c_X2_init {l : Launch} {g : PP} {σ : Sto} {sz : Nat} {a0 : Nat} {v1 : Int32} {v2 : Int32} {v3 : Int32} {r9 : Unit} {σ9 : Sto} {sz9 : Nat} (h : f_X2_init σ sz a0 v1 v2 v3 = some (r9, σ9, sz9)) : Met l yX2_init [Cond.code yX2_init cX2_init 4 none] (rmk 1 2 24 20) (Pre g σ sz [.ref a0, .int v1, .int v2, .int v3]) (Pst g (vV r9) σ9 sz9) 2 24 (Aw g) := by
  refine Met.ofW (cc := cX2_init) (maxL := 4) (ret := none) (by decide) rfl ?_
  intro p e s m args below meth c s₁ B hml hv
  obtain ⟨rfl, C, hs⟩ := ctx_of B hml hv
  have C : Cx g p s m meth c cX2_init 4 "Tillhouse$Invoice" := C
  have hr := B.returns
  have hin : meth.name = "<init>" := (name_of_methodNamed B.named B.method).1
  have hl := lv_entry ([.ref a0, .int v1, .int v2, .int v3]) (n := 4) (Nat.le_of_ble_eq_true rfl)
  rw [lg_entry_eq]
  generalize (lg_sl ([.ref a0, .int v1, .int v2, .int v3]) ++ List.replicate (4 - (lg_sl ([.ref a0, .int v1, .int v2, .int v3])).length) Slot.unset).toArray = ls at hl ⊢
  have hl : lv_has ls 4 [(0, .ref a0), (1, .int v1), (2, .int v2), (3, .int v3)] := hl
  unfold f_X2_init at h
  refine lv_aload_n C.1 C.2.1 dX2_init_0 rfl (lv_at hl 0 rfl) ?_
  refine sx_objInit C hl q1005 qobj1 qobj2 dX2_init_1 (Nat.le_of_ble_eq_true rfl) (Nat.le_of_ble_eq_true rfl) ?_
  refine lv_aload_n C.1 C.2.1 dX2_init_4 rfl (lv_at hl 0 rfl) ?_
  refine lv_iconst (v := 0) C.1 C.2.1 dX2_init_5 (by decide) ?_
  replace h := ob h; obtain ⟨τ1, eτ1, h⟩ := h
  refine sx_put C hs fp_X2_7 rfl rfl eτ1 dX2_init_6 (fun H locs hs => ?_)
  refine lv_aload_n C.1 C.2.1 dX2_init_9 rfl (lv_at hl 0 rfl) ?_
  refine lv_bipush (v := 12) C.1 C.2.1 dX2_init_10 (by decide) ?_
  replace h := ol h; obtain ⟨τ2, eτ2, h⟩ := h
  refine sx_newa (atype := .long) (k := 2) (N := 12) (f := z2) C hs (by decide) rfl q146 (fun _ => rfl) (by decide) (by decide +kernel) (Nat.le_of_ble_eq_true rfl) (Nat.le_of_ble_eq_true rfl) (Nat.le_of_ble_eq_true rfl) dX2_init_12 (fun H hs => ?_)
  replace hs := HS.nm eτ2 hs
  replace h := ob h; obtain ⟨τ3, eτ3, h⟩ := h
  refine sx_putF C hs fi_X2_13 hin rfl rfl eτ3 dX2_init_14 (fun H locs hs => ?_)
  refine lv_aload_n C.1 C.2.1 dX2_init_17 rfl (lv_at hl 0 rfl) ?_
  refine lv_bipush (v := 12) C.1 C.2.1 dX2_init_18 (by decide) ?_
  replace h := ol h; obtain ⟨τ4, eτ4, h⟩ := h
  refine sx_newa (atype := .int) (k := 1) (N := 12) (f := z1) C hs (by decide) rfl q145 (fun _ => rfl) (by decide) (by decide +kernel) (Nat.le_of_ble_eq_true rfl) (Nat.le_of_ble_eq_true rfl) (Nat.le_of_ble_eq_true rfl) dX2_init_20 (fun H hs => ?_)
  replace hs := HS.nm eτ4 hs
  replace h := ob h; obtain ⟨τ5, eτ5, h⟩ := h
  refine sx_putF C hs fi_X2_17 hin rfl rfl eτ5 dX2_init_22 (fun H locs hs => ?_)
  refine lv_aload_n C.1 C.2.1 dX2_init_25 rfl (lv_at hl 0 rfl) ?_
  refine lv_iload_n C.1 C.2.1 dX2_init_26 rfl (lv_at hl 1 rfl) ?_
  replace h := ob h; obtain ⟨τ6, eτ6, h⟩ := h
  refine sx_putF C hs fi_X2_21 hin rfl rfl eτ6 dX2_init_27 (fun H locs hs => ?_)
  refine lv_aload_n C.1 C.2.1 dX2_init_30 rfl (lv_at hl 0 rfl) ?_
  refine lv_iload_n C.1 C.2.1 dX2_init_31 rfl (lv_at hl 2 rfl) ?_
  replace h := ob h; obtain ⟨τ7, eτ7, h⟩ := h
  refine sx_putF C hs fi_X2_24 hin rfl rfl eτ7 dX2_init_32 (fun H locs hs => ?_)
  refine lv_aload_n C.1 C.2.1 dX2_init_35 rfl (lv_at hl 0 rfl) ?_
  refine lv_iload_n C.1 C.2.1 dX2_init_36 rfl (lv_at hl 3 rfl) ?_
  replace h := oi h; obtain ⟨n9, h⟩ := h
  replace h := ob h; obtain ⟨τ8, eτ8, h⟩ := h
  refine sx_putF C hs fi_X2_27 hin (okZ_n n9).1 (okZ_n n9).2 eτ8 dX2_init_37 (fun H locs hs => ?_)
  cases h
  exact sx_vret C hs hr dX2_init_40
def f_X2_isFull (σ : Sto) (a0 : Nat) : Option Int32 :=
 (gI σ a0 2 2).bind fun x1 =>
 if x1 < 12 then
 some (0)
 else
 some (1)
set_option maxHeartbeats 4000000 in
set_option maxRecDepth 100000 in
theorem c_X2_isFull {l : Launch} {g : PP} {σ : Sto} {sz : Nat} {a0 : Nat} {r9 : Int32} (h : f_X2_isFull σ a0 = some r9) : Met l yX2_isFull [Cond.code yX2_isFull cX2_isFull 1 (some .boolean)] (rmk 0 0 0 0) (Pre g σ sz [.ref a0]) (Pst g (vI r9) σ sz) 0 0 (Aw g) := by
  refine Met.ofW (cc := cX2_isFull) (maxL := 1) (ret := (some .boolean)) (by decide) rfl ?_
  intro p e s m args below meth c s₁ B hml hv
  obtain ⟨rfl, C, hs⟩ := ctx_of B hml hv
  have C : Cx g p s m meth c cX2_isFull 1 "Tillhouse$Invoice" := C
  have hr := B.returns
  have hl := lv_entry ([.ref a0]) (n := 1) (Nat.le_of_ble_eq_true rfl)
  rw [lg_entry_eq]
  generalize (lg_sl ([.ref a0]) ++ List.replicate (1 - (lg_sl ([.ref a0])).length) Slot.unset).toArray = ls at hl ⊢
  have hl : lv_has ls 1 [(0, .ref a0)] := hl
  unfold f_X2_isFull at h
  refine lv_aload_n C.1 C.2.1 dX2_isFull_0 rfl (lv_at hl 0 rfl) ?_
  replace h := ob h; obtain ⟨x1, ex1, h⟩ := h
  refine sx_getV C hs fo_X2_7 (gI_v ex1) dX2_isFull_1 ?_
  refine lv_bipush (v := 12) C.1 C.2.1 dX2_isFull_4 (by decide) ?_
  refine lv_icmp_lt (tgt := 13) C.1 C.2.1 dX2_isFull_6 (by decide) (fun c2 => ?_) (fun c2 => ?_)
  · replace h := ip c2 h
    refine lv_iconst (v := 0) C.1 C.2.1 dX2_isFull_13 (by decide) ?_
    cases h
    exact sx_iret C hs hr (by decide) dX2_isFull_14
  · replace h := iN c2 h
    refine lv_iconst (v := 1) C.1 C.2.1 dX2_isFull_9 (by decide) ?_
    refine lv_goto (tgt := 14) C.1 C.2.1 dX2_isFull_10 (by decide) ?_
    cases h
    exact sx_iret C hs hr (by decide) dX2_isFull_14
def b_X2_add_39 (σ : Sto) (a0 : Nat) : Option (Int32 × Sto) :=
 (gI σ a0 2 2).bind fun x1 =>
 some ((x1 - 1), σ)
def f_X2_add (σ : Sto) (a0 : Nat) (v1 : Int64) (v3 : Int32) : Option (Int32 × Sto) :=
 (gI σ a0 2 2).bind fun x1 =>
 if 12 ≤ x1 then
 b_X2_add_39 σ a0
 else
 (gR σ a0 2 4).bind fun p3 =>
 (gI σ a0 2 2).bind fun x4 =>
 (sL σ p3 2 x4 v1).bind fun τ5 =>
 (gR τ5 a0 2 5).bind fun p6 =>
 (gI τ5 a0 2 2).bind fun x7 =>
 (sI τ5 p6 1 x7 v3).bind fun τ8 =>
 (gI τ8 a0 2 2).bind fun x9 =>
 (pF τ8 a0 2 2 (.int (x9 + 1))).bind fun τ10 =>
 b_X2_add_39 τ10 a0
set_option maxHeartbeats 4000000 in
set_option maxRecDepth 100000 in
theorem t_X2_add_39 {l : Launch} {g : PP} {p : Program} {e : Env} {s : State} {m : MethodId} {args : Array Value} {below : List Frame} {meth : Method} {c : Code} (C : Cx g p s m meth c cX2_add 4 "Tillhouse$Invoice") (hr : meth.sig.returnType = some .int)   {σ : Sto} {sz : Nat} {a0 : Nat} {r9 : Int32} {σ9 : Sto}
    (h : b_X2_add_39 σ a0 = some (r9, σ9)) 
    {H : Heap} {locs : List Loc} {ls : Array Slot} (hs : HS g s σ sz H locs) (hl : lv_has ls 4 [(0, .ref a0)]) : W p l e (rmk 0 0 0 0) s m args below meth c H locs 0 0 (MQ below (Pst g (vI r9) σ9 sz) args s 0 0 (Aw g)) (F0 m 39 ls []) := by
  unfold b_X2_add_39 at h
  refine lv_aload_n C.1 C.2.1 dX2_add_39 rfl (lv_at hl 0 rfl) ?_
  replace h := ob h; obtain ⟨x1, ex1, h⟩ := h
  refine sx_getV C hs fo_X2_7 (gI_v ex1) dX2_add_40 ?_
  refine lv_iconst (v := 1) C.1 C.2.1 dX2_add_43 (by decide) ?_
  refine lv_isub C.1 C.2.1 dX2_add_44 ?_
  cases h
  exact sx_iret C hs hr rfl dX2_add_45
set_option maxHeartbeats 4000000 in
set_option maxRecDepth 100000 in
theorem c_X2_add {l : Launch} {g : PP} {σ : Sto} {sz : Nat} {a0 : Nat} {v1 : Int64} {v3 : Int32} {r9 : Int32} {σ9 : Sto} (h : f_X2_add σ a0 v1 v3 = some (r9, σ9)) : Met l yX2_add [Cond.code yX2_add cX2_add 4 (some .int)] (rmk 0 0 0 0) (Pre g σ sz [.ref a0, .long v1, .int v3]) (Pst g (vI r9) σ9 sz) 0 0 (Aw g) := by
  refine Met.ofW (cc := cX2_add) (maxL := 4) (ret := (some .int)) (by decide) rfl ?_
  intro p e s m args below meth c s₁ B hml hv
  obtain ⟨rfl, C, hs⟩ := ctx_of B hml hv
  have C : Cx g p s m meth c cX2_add 4 "Tillhouse$Invoice" := C
  have hr := B.returns
  have hl := lv_entry ([.ref a0, .long v1, .int v3]) (n := 4) (Nat.le_of_ble_eq_true rfl)
  rw [lg_entry_eq]
  generalize (lg_sl ([.ref a0, .long v1, .int v3]) ++ List.replicate (4 - (lg_sl ([.ref a0, .long v1, .int v3])).length) Slot.unset).toArray = ls at hl ⊢
  have hl : lv_has ls 4 [(0, .ref a0), (1, .long v1), (3, .int v3)] := hl
  unfold f_X2_add at h
  refine lv_aload_n C.1 C.2.1 dX2_add_0 rfl (lv_at hl 0 rfl) ?_
  replace h := ob h; obtain ⟨x1, ex1, h⟩ := h
  refine sx_getV C hs fo_X2_7 (gI_v ex1) dX2_add_1 ?_
  refine lv_bipush (v := 12) C.1 C.2.1 dX2_add_4 (by decide) ?_
  refine lv_icmp_ge (tgt := 39) C.1 C.2.1 dX2_add_6 (by decide) (fun c2 => ?_) (fun c2 => ?_)
  · replace h := ip c2 h
    exact t_X2_add_39 C hr h hs (lv_sub hl [0] rfl)
  · replace h := iN c2 h
    refine lv_aload_n C.1 C.2.1 dX2_add_9 rfl (lv_at hl 0 rfl) ?_
    replace h := ob h; obtain ⟨p3, ep3, h⟩ := h
    refine sx_getV C hs fo_X2_13 (gR_v ep3) dX2_add_10 ?_
    refine lv_aload_n C.1 C.2.1 dX2_add_13 rfl (lv_at hl 0 rfl) ?_
    replace h := ob h; obtain ⟨x4, ex4, h⟩ := h
    refine sx_getV C hs fo_X2_7 (gI_v ex4) dX2_add_14 ?_
    refine lv_lload_n C.1 C.2.1 dX2_add_17 rfl (lv_at hl 1 rfl) ?_
    replace h := ob h; obtain ⟨τ5, eτ5, h⟩ := h
    refine sx_last C hs eτ5 dX2_add_18 (fun H locs hs => ?_)
    refine lv_aload_n C.1 C.2.1 dX2_add_19 rfl (lv_at hl 0 rfl) ?_
    replace h := ob h; obtain ⟨p6, ep6, h⟩ := h
    refine sx_getV C hs fo_X2_17 (gR_v ep6) dX2_add_20 ?_
    refine lv_aload_n C.1 C.2.1 dX2_add_23 rfl (lv_at hl 0 rfl) ?_
    replace h := ob h; obtain ⟨x7, ex7, h⟩ := h
    refine sx_getV C hs fo_X2_7 (gI_v ex7) dX2_add_24 ?_
    refine lv_iload_n C.1 C.2.1 dX2_add_27 rfl (lv_at hl 2 rfl) ?_
    replace h := ob h; obtain ⟨τ8, eτ8, h⟩ := h
    refine sx_iast C hs eτ8 dX2_add_28 (fun H locs hs => ?_)
    refine lv_aload_n C.1 C.2.1 dX2_add_29 rfl (lv_at hl 0 rfl) ?_
    refine lv_dup C.1 C.2.1 dX2_add_30 rfl ?_
    replace h := ob h; obtain ⟨x9, ex9, h⟩ := h
    refine sx_getV C hs fo_X2_7 (gI_v ex9) dX2_add_31 ?_
    refine lv_iconst (v := 1) C.1 C.2.1 dX2_add_34 (by decide) ?_
    refine lv_iadd C.1 C.2.1 dX2_add_35 ?_
    replace h := ob h; obtain ⟨τ10, eτ10, h⟩ := h
    refine sx_put C hs fp_X2_7 rfl rfl eτ10 dX2_add_36 (fun H locs hs => ?_)
    exact t_X2_add_39 C hr h hs (lv_sub hl [0] rfl)
def f_X6_goesAway (v0 : Int64) (v2 : Int32) (v3 : Int32) (v4 : Int32) : Option ((Nat ⊕ Int32)) :=
 if v4 = 99 then
 if v3 = 0 then
 some (.inr 1)
 else
 some (.inr 0)
 else
 if v4 = 100 then
 some (.inr 0)
 else
 if v4 = 101 then
 if v2 = 3 then
 some (.inr 1)
 else
 if v2 = 2 then
 if (v0 - v0 / 2 * 2) = 1 then
 some (.inr 1)
 else
 some (.inr 0)
 else
 some (.inr 0)
 else
 if v4 = 102 then
 if okZ v3 = true then (
 some (.inr v3)) else none
 else
 if v4 = 104 then
 if v2 < 2 then
 some (.inr 0)
 else
 some (.inr 1)
 else
 if v4 = 108 then
 if v2 = 3 then
 some (.inr 1)
 else
 some (.inr 0)
 else
 if v4 = 117 then
 some (.inr 1)
 else
 some (.inl 3)
set_option maxHeartbeats 4000000 in
set_option maxRecDepth 100000 in
theorem c_X6_goesAway {l : Launch} (hfl : l.stackTraces = false) {g : PP} {σ : Sto} {sz : Nat} {v0 : Int64} {v2 : Int32} {v3 : Int32} {v4 : Int32} {r9 : Nat ⊕ Int32} (h : f_X6_goesAway v0 v2 v3 v4 = some r9) : vx_Met l yX6_goesAway [Cond.code yX6_goesAway cX6_goesAway 5 (some .boolean)] (rmk 6 (cX r9) (cY r9) 100) (Pre g σ sz [.long v0, .int v2, .int v3, .int v4]) (PstX g (Sum.map id vI r9) σ sz) (XpX g (Sum.map id vI r9) σ sz) (cX r9) (cY r9) (Aw g) := by
  refine vx_ofW (cc := cX6_goesAway) (maxL := 5) (ret := (some .boolean)) (by decide) rfl ?_
  intro p e s m args below meth c s₁ B hml ht hv
  obtain ⟨rfl, C, hs⟩ := ctx_of B hml hv
  have C : Cx g p s m meth c cX6_goesAway 5 "Tillhouse$Reckoning" := C
  have hr := B.returns
  have hl := lv_entry ([.long v0, .int v2, .int v3, .int v4]) (n := 5) (Nat.le_of_ble_eq_true rfl)
  rw [lg_entry_eq]
  generalize (lg_sl ([.long v0, .int v2, .int v3, .int v4]) ++ List.replicate (5 - (lg_sl ([.long v0, .int v2, .int v3, .int v4])).length) Slot.unset).toArray = ls at hl ⊢
  have hl : lv_has ls 5 [(0, .long v0), (2, .int v2), (3, .int v3), (4, .int v4)] := hl
  unfold f_X6_goesAway at h
  refine lv_iload C.1 C.2.1 dX6_goesAway_0 (lv_at hl 3 rfl) ?_
  rcases Decidable.em (v4 = 99) with c1 | c1
  · replace h := ip c1 h
    refine sx_tblK (tgt := 96) (off := 94) 99 C dX6_goesAway_2 c1 (by decide) (by decide) ?_
    refine lv_iload_n C.1 C.2.1 dX6_goesAway_96 rfl (lv_at hl 2 rfl) ?_
    refine lv_if_ne (tgt := 104) C.1 C.2.1 dX6_goesAway_97 (by decide) (fun c2 => ?_) (fun c2 => ?_)
    · replace h := iN c2 h
      refine lv_iconst (v := 0) C.1 C.2.1 dX6_goesAway_104 (by decide) ?_
      cases h
      exact sx_iretX C hs hr (by decide) dX6_goesAway_105
    · replace h := ip c2 h
      refine lv_iconst (v := 1) C.1 C.2.1 dX6_goesAway_100 (by decide) ?_
      refine lv_goto (tgt := 105) C.1 C.2.1 dX6_goesAway_101 (by decide) ?_
      cases h
      exact sx_iretX C hs hr (by decide) dX6_goesAway_105
  · replace h := iN c1 h
    rcases Decidable.em (v4 = 100) with c3 | c3
    · replace h := ip c3 h
      refine sx_tblK (tgt := 94) (off := 92) 100 C dX6_goesAway_2 c3 (by decide) (by decide) ?_
      refine lv_iconst (v := 0) C.1 C.2.1 dX6_goesAway_94 (by decide) ?_
      cases h
      exact sx_iretX C hs hr (by decide) dX6_goesAway_95
    · replace h := iN c3 h
      rcases Decidable.em (v4 = 101) with c4 | c4
      · replace h := ip c4 h
        refine sx_tblK (tgt := 130) (off := 128) 101 C dX6_goesAway_2 c4 (by decide) (by decide) ?_
        refine lv_iload_n C.1 C.2.1 dX6_goesAway_130 rfl (lv_at hl 1 rfl) ?_
        refine lv_iconst (v := 3) C.1 C.2.1 dX6_goesAway_131 (by decide) ?_
        refine lv_icmp_eq (tgt := 150) C.1 C.2.1 dX6_goesAway_132 (by decide) (fun c5 => ?_) (fun c5 => ?_)
        · replace h := ip c5 h
          refine lv_iconst (v := 1) C.1 C.2.1 dX6_goesAway_150 (by decide) ?_
          refine lv_goto (tgt := 155) C.1 C.2.1 dX6_goesAway_151 (by decide) ?_
          cases h
          exact sx_iretX C hs hr (by decide) dX6_goesAway_155
        · replace h := iN c5 h
          refine lv_iload_n C.1 C.2.1 dX6_goesAway_135 rfl (lv_at hl 1 rfl) ?_
          refine lv_iconst (v := 2) C.1 C.2.1 dX6_goesAway_136 (by decide) ?_
          refine lv_icmp_ne (tgt := 154) C.1 C.2.1 dX6_goesAway_137 (by decide) (fun c6 => ?_) (fun c6 => ?_)
          · replace h := iN c6 h
            refine lv_iconst (v := 0) C.1 C.2.1 dX6_goesAway_154 (by decide) ?_
            cases h
            exact sx_iretX C hs hr (by decide) dX6_goesAway_155
          · replace h := ip c6 h
            refine lv_lload_n C.1 C.2.1 dX6_goesAway_140 rfl (lv_at hl 0 rfl) ?_
            refine lv_ldc2 (v := 2) C.1 C.2.1 C.2.2.2.1 (C.2.2.2.2.1.1 _ q722 _) dX6_goesAway_141 ?_
            refine lv_lrem C.1 C.2.1 dX6_goesAway_144 (by decide) ?_
            refine lv_lconst (v := 1) C.1 C.2.1 dX6_goesAway_145 (by decide) ?_
            refine W.lcmp C.1 C.2.1 dX6_goesAway_146 ?_
            refine lv_if_ne (tgt := 154) C.1 C.2.1 dX6_goesAway_147 (by decide) (fun c7 => ?_) (fun c7 => ?_)
            · replace h := iN (fun q => c7 ((lg_cmp_eq _ _).mpr q)) h
              refine lv_iconst (v := 0) C.1 C.2.1 dX6_goesAway_154 (by decide) ?_
              cases h
              exact sx_iretX C hs hr (by decide) dX6_goesAway_155
            · replace h := ip ((lg_cmp_eq _ _).mp c7) h
              refine lv_iconst (v := 1) C.1 C.2.1 dX6_goesAway_150 (by decide) ?_
              refine lv_goto (tgt := 155) C.1 C.2.1 dX6_goesAway_151 (by decide) ?_
              cases h
              exact sx_iretX C hs hr (by decide) dX6_goesAway_155
      · replace h := iN c4 h
        rcases Decidable.em (v4 = 102) with c8 | c8
        · replace h := ip c8 h
          refine sx_tblK (tgt := 106) (off := 104) 102 C dX6_goesAway_2 c8 (by decide) (by decide) ?_
          refine lv_iload_n C.1 C.2.1 dX6_goesAway_106 rfl (lv_at hl 2 rfl) ?_
          replace h := oi h; obtain ⟨n9, h⟩ := h
          cases h
          exact sx_iretX C hs hr (okZ_n n9).1 dX6_goesAway_107
        · replace h := iN c8 h
          rcases Decidable.em (v4 = 104) with c10 | c10
          · replace h := ip c10 h
            refine sx_tblK (tgt := 108) (off := 106) 104 C dX6_goesAway_2 c10 (by decide) (by decide) ?_
            refine lv_iload_n C.1 C.2.1 dX6_goesAway_108 rfl (lv_at hl 1 rfl) ?_
            refine lv_iconst (v := 2) C.1 C.2.1 dX6_goesAway_109 (by decide) ?_
            refine lv_icmp_lt (tgt := 117) C.1 C.2.1 dX6_goesAway_110 (by decide) (fun c11 => ?_) (fun c11 => ?_)
            · replace h := ip c11 h
              refine lv_iconst (v := 0) C.1 C.2.1 dX6_goesAway_117 (by decide) ?_
              cases h
              exact sx_iretX C hs hr (by decide) dX6_goesAway_118
            · replace h := iN c11 h
              refine lv_iconst (v := 1) C.1 C.2.1 dX6_goesAway_113 (by decide) ?_
              refine lv_goto (tgt := 118) C.1 C.2.1 dX6_goesAway_114 (by decide) ?_
              cases h
              exact sx_iretX C hs hr (by decide) dX6_goesAway_118
          · replace h := iN c10 h
            rcases Decidable.em (v4 = 108) with c12 | c12
            · replace h := ip c12 h
              refine sx_tblK (tgt := 119) (off := 117) 108 C dX6_goesAway_2 c12 (by decide) (by decide) ?_
              refine lv_iload_n C.1 C.2.1 dX6_goesAway_119 rfl (lv_at hl 1 rfl) ?_
              refine lv_iconst (v := 3) C.1 C.2.1 dX6_goesAway_120 (by decide) ?_
              refine lv_icmp_ne (tgt := 128) C.1 C.2.1 dX6_goesAway_121 (by decide) (fun c13 => ?_) (fun c13 => ?_)
              · replace h := iN c13 h
                refine lv_iconst (v := 0) C.1 C.2.1 dX6_goesAway_128 (by decide) ?_
                cases h
                exact sx_iretX C hs hr (by decide) dX6_goesAway_129
              · replace h := ip c13 h
                refine lv_iconst (v := 1) C.1 C.2.1 dX6_goesAway_124 (by decide) ?_
                refine lv_goto (tgt := 129) C.1 C.2.1 dX6_goesAway_125 (by decide) ?_
                cases h
                exact sx_iretX C hs hr (by decide) dX6_goesAway_129
            · replace h := iN c12 h
              rcases Decidable.em (v4 = 117) with c14 | c14
              · replace h := ip c14 h
                refine sx_tblK (tgt := 92) (off := 90) 117 C dX6_goesAway_2 c14 (by decide) (by decide) ?_
                refine lv_iconst (v := 1) C.1 C.2.1 dX6_goesAway_92 (by decide) ?_
                cases h
                exact sx_iretX C hs hr (by decide) dX6_goesAway_93
              · replace h := iN c14 h
                refine sx_tblD (tgt := 156) [99, 100, 101, 102, 104, 108, 117] C dX6_goesAway_2 (by decide) (by decide) (List.forall_mem_cons.mpr ⟨c1, (List.forall_mem_cons.mpr ⟨c3, (List.forall_mem_cons.mpr ⟨c4, (List.forall_mem_cons.mpr ⟨c8, (List.forall_mem_cons.mpr ⟨c10, (List.forall_mem_cons.mpr ⟨c12, (List.forall_mem_cons.mpr ⟨c14, (fun _ h => nomatch h)⟩)⟩)⟩)⟩)⟩)⟩)⟩) (by decide) ?_
                cases h
                exact sx_throw C hfl hs to_X6_17_19 ht hl.1 dX6_goesAway_156 dX6_goesAway_159 dX6_goesAway_160 dX6_goesAway_162 dX6_goesAway_165 ⟨by decide, (Nat.le_of_ble_eq_true rfl), (Nat.le_of_ble_eq_true rfl), (Nat.le_of_ble_eq_true rfl)⟩ ⟨(Nat.le_of_ble_eq_true rfl), (Nat.le_of_ble_eq_true rfl)⟩
def f_X6_settled (v0 : Int64) (v2 : Int32) (v3 : Int32) (v4 : Int32) : Option ((Nat ⊕ Int64)) :=
 if v2 = 0 then
 some (.inr v0)
 else
 (f_X6_goesAway v0 v2 v3 v4).bind fun u3 =>
 bs u3 (fun j4 => some (.inl j4)) fun x2 =>
 if x2 = 0 then
 some (.inr v0)
 else
 some (.inr (v0 + 1))
set_option maxHeartbeats 4000000 in
set_option maxRecDepth 100000 in
theorem c_X6_settled {l : Launch} (hfl : l.stackTraces = false) {g : PP} {σ : Sto} {sz : Nat} {v0 : Int64} {v2 : Int32} {v3 : Int32} {v4 : Int32} {r9 : Nat ⊕ Int64} (h : f_X6_settled v0 v2 v3 v4 = some r9) : vx_Met l yX6_settled [Cond.code yX6_settled cX6_settled 5 (some .long)] (rmk 7 (cX r9) (cY r9) 124) (Pre g σ sz [.long v0, .int v2, .int v3, .int v4]) (PstX g (Sum.map id vL r9) σ sz) (XpX g (Sum.map id vL r9) σ sz) (cX r9) (cY r9) (Aw g) := by
  refine vx_ofW (cc := cX6_settled) (maxL := 5) (ret := (some .long)) (by decide) rfl ?_
  intro p e s m args below meth c s₁ B hml ht hv
  obtain ⟨rfl, C, hs⟩ := ctx_of B hml hv
  have C : Cx g p s m meth c cX6_settled 5 "Tillhouse$Reckoning" := C
  have hr := B.returns
  have hl := lv_entry ([.long v0, .int v2, .int v3, .int v4]) (n := 5) (Nat.le_of_ble_eq_true rfl)
  rw [lg_entry_eq]
  generalize (lg_sl ([.long v0, .int v2, .int v3, .int v4]) ++ List.replicate (5 - (lg_sl ([.long v0, .int v2, .int v3, .int v4])).length) Slot.unset).toArray = ls at hl ⊢
  have hl : lv_has ls 5 [(0, .long v0), (2, .int v2), (3, .int v3), (4, .int v4)] := hl
  unfold f_X6_settled at h
  refine lv_iload_n C.1 C.2.1 dX6_settled_0 rfl (lv_at hl 1 rfl) ?_
  refine lv_if_ne (tgt := 6) C.1 C.2.1 dX6_settled_1 (by decide) (fun c1 => ?_) (fun c1 => ?_)
  · replace h := iN c1 h
    refine lv_lload_n C.1 C.2.1 dX6_settled_6 rfl (lv_at hl 0 rfl) ?_
    refine lv_iload_n C.1 C.2.1 dX6_settled_7 rfl (lv_at hl 1 rfl) ?_
    refine lv_iload_n C.1 C.2.1 dX6_settled_8 rfl (lv_at hl 2 rfl) ?_
    refine lv_iload C.1 C.2.1 dX6_settled_9 (lv_at hl 3 rfl) ?_
    replace h := ob h; obtain ⟨u3, ex2, h⟩ := h
    rcases u3 with j4 | x2
    · replace h := bsl h
      cases h
      refine sx_xcallS (As := [.long v0, .int v2, .int v3, .int v4]) (rest := []) C hs (c_X6_goesAway hfl ex2) mo_X6_goesAway q719 rfl hl.1 ⟨⟨(Nat.le_of_ble_eq_true rfl), (Nat.le_of_ble_eq_true rfl)⟩, (Nat.le_of_ble_eq_true rfl), (Nat.le_of_ble_eq_true rfl)⟩ rfl (Nat.le_of_ble_eq_true rfl) dX6_settled_11 (fun k9 hk9 ce q9 H locs a1 a2 a3 a4 a5 a6 => ?_) (fun vr hv => (inlr hv).elim)
      obtain rfl := Sum.inl.inj hk9
      exact sx_out C ht a1 a2 a3 a4 a5 a6 (Nat.le_of_ble_eq_true rfl) (Nat.le_of_ble_eq_true rfl)
    · replace h := bsr h
      refine sx_xcallS (As := [.long v0, .int v2, .int v3, .int v4]) (rest := []) C hs (c_X6_goesAway hfl ex2) mo_X6_goesAway q719 rfl hl.1 ⟨⟨(Nat.le_of_ble_eq_true rfl), (Nat.le_of_ble_eq_true rfl)⟩, (Nat.le_of_ble_eq_true rfl), (Nat.le_of_ble_eq_true rfl)⟩ rfl (Nat.le_of_ble_eq_true rfl) dX6_settled_11 (fun k9 hk9 => (inrl hk9).elim) (fun vr hv H locs hs => ?_)
      obtain rfl := Sum.inr.inj hv
      refine W.eq (g2 := F0 m 14 ls [.int x2]) rfl ?_
      refine W.widen (k := 0) (n := 0) (Nat.le_of_ble_eq_true rfl) (Nat.le_of_ble_eq_true rfl) ?_
      refine lv_if_eq (tgt := 23) C.1 C.2.1 dX6_settled_14 (by decide) (fun c5 => ?_) (fun c5 => ?_)
      · replace h := ip c5 h
        refine lv_lload_n C.1 C.2.1 dX6_settled_23 rfl (lv_at hl 0 rfl) ?_
        cases h
        exact sx_lretX C hs hr dX6_settled_24
      · replace h := iN c5 h
        refine lv_lload_n C.1 C.2.1 dX6_settled_17 rfl (lv_at hl 0 rfl) ?_
        refine lv_lconst (v := 1) C.1 C.2.1 dX6_settled_18 (by decide) ?_
        refine lv_ladd C.1 C.2.1 dX6_settled_19 ?_
        refine lv_goto (tgt := 24) C.1 C.2.1 dX6_settled_20 (by decide) ?_
        cases h
        exact sx_lretX C hs hr dX6_settled_24
  · replace h := ip c1 h
    refine lv_lload_n C.1 C.2.1 dX6_settled_4 rfl (lv_at hl 0 rfl) ?_
    cases h
    exact sx_lretX C hs hr dX6_settled_5
def f_X6_partOf (v0 : Int64) (v2 : Int32) (v3 : Int64) (v5 : Int32) : Option ((Nat ⊕ Int64)) :=
 if 1 ≤ v3 then
 if v3 = 0 then none else
 lt_ ((v0 - v0 / v3 * v3) * (Int32.toInt64 v2)) fun x3 =>
 if v3 = 0 then none else
 if v3 = 0 then none else
 lt_ (((v0 / v3) * (Int32.toInt64 v2)) + (x3 / v3)) fun x6 =>
 if v3 = 0 then none else
 (f_X6_rest (x3 - x3 / v3 * v3) v3).bind fun x8 =>
 (f_X6_settled x6 x8 0 v5).bind fun u10 =>
 bs u10 (fun j11 => some (.inl j11)) fun x9 =>
 some (.inr x9)
 else
 some (.inl 3)
set_option maxHeartbeats 4000000 in
set_option maxRecDepth 100000 in
theorem c_X6_partOf {l : Launch} (hfl : l.stackTraces = false) {g : PP} {σ : Sto} {sz : Nat} {v0 : Int64} {v2 : Int32} {v3 : Int64} {v5 : Int32} {r9 : Nat ⊕ Int64} (h : f_X6_partOf v0 v2 v3 v5 = some r9) : vx_Met l yX6_partOf [Cond.code yX6_partOf cX6_partOf 10 (some .long)] (rmk 8 (cX r9) (cY r9) 148) (Pre g σ sz [.long v0, .int v2, .long v3, .int v5]) (PstX g (Sum.map id vL r9) σ sz) (XpX g (Sum.map id vL r9) σ sz) (cX r9) (cY r9) (Aw g) := by
  refine vx_ofW (cc := cX6_partOf) (maxL := 10) (ret := (some .long)) (by decide) rfl ?_
  intro p e s m args below meth c s₁ B hml ht hv
  obtain ⟨rfl, C, hs⟩ := ctx_of B hml hv
  have C : Cx g p s m meth c cX6_partOf 10 "Tillhouse$Reckoning" := C
  have hr := B.returns
  have hl := lv_entry ([.long v0, .int v2, .long v3, .int v5]) (n := 10) (Nat.le_of_ble_eq_true rfl)
  rw [lg_entry_eq]
  generalize (lg_sl ([.long v0, .int v2, .long v3, .int v5]) ++ List.replicate (10 - (lg_sl ([.long v0, .int v2, .long v3, .int v5])).length) Slot.unset).toArray = ls at hl ⊢
  have hl : lv_has ls 10 [(0, .long v0), (2, .int v2), (3, .long v3), (5, .int v5)] := hl
  unfold f_X6_partOf at h
  refine lv_lload_n C.1 C.2.1 dX6_partOf_0 rfl (lv_at hl 2 rfl) ?_
  refine lv_lconst (v := 1) C.1 C.2.1 dX6_partOf_1 (by decide) ?_
  refine W.lcmp C.1 C.2.1 dX6_partOf_2 ?_
  refine lv_if_ge (tgt := 16) C.1 C.2.1 dX6_partOf_3 (by decide) (fun c1 => ?_) (fun c1 => ?_)
  · replace h := ip ((lg_cmp_ge _ _).mp c1) h
    refine lv_lload_n C.1 C.2.1 dX6_partOf_16 rfl (lv_at hl 0 rfl) ?_
    refine lv_lload_n C.1 C.2.1 dX6_partOf_17 rfl (lv_at hl 2 rfl) ?_
    replace h := on h; obtain ⟨n2, h⟩ := h
    refine lv_lrem C.1 C.2.1 dX6_partOf_18 n2 ?_
    refine lv_iload_n C.1 C.2.1 dX6_partOf_19 rfl (lv_at hl 1 rfl) ?_
    refine lv_i2l (v := Int32.toInt64 v2) C.1 C.2.1 dX6_partOf_20 rfl ?_
    refine lv_lmul C.1 C.2.1 dX6_partOf_21 ?_
    replace h := ol h; obtain ⟨x3, ex3, h⟩ := h
    refine sx_nmL ex3 ?_
    refine lv_lstore (lv' := [(6, .long x3), (0, .long v0), (2, .int v2), (3, .long v3), (5, .int v5)]) C.1 C.2.1 dX6_partOf_22 hl (by decide) rfl (fun ls hl => ?_)
    refine lv_lload_n C.1 C.2.1 dX6_partOf_24 rfl (lv_at hl 1 rfl) ?_
    refine lv_lload_n C.1 C.2.1 dX6_partOf_25 rfl (lv_at hl 3 rfl) ?_
    replace h := on h; obtain ⟨n4, h⟩ := h
    refine lv_ldiv C.1 C.2.1 dX6_partOf_26 n4 ?_
    refine lv_iload_n C.1 C.2.1 dX6_partOf_27 rfl (lv_at hl 2 rfl) ?_
    refine lv_i2l (v := Int32.toInt64 v2) C.1 C.2.1 dX6_partOf_28 rfl ?_
    refine lv_lmul C.1 C.2.1 dX6_partOf_29 ?_
    refine lv_lload C.1 C.2.1 dX6_partOf_30 (lv_at hl 0 rfl) ?_
    refine lv_lload_n C.1 C.2.1 dX6_partOf_32 rfl (lv_at hl 3 rfl) ?_
    replace h := on h; obtain ⟨n5, h⟩ := h
    refine lv_ldiv C.1 C.2.1 dX6_partOf_33 n5 ?_
    refine lv_ladd C.1 C.2.1 dX6_partOf_34 ?_
    replace h := ol h; obtain ⟨x6, ex6, h⟩ := h
    refine sx_nmL ex6 ?_
    refine lv_lstore (lv' := [(8, .long x6), (6, .long x3), (0, .long v0), (2, .int v2), (3, .long v3), (5, .int v5)]) C.1 C.2.1 dX6_partOf_35 hl (by decide) rfl (fun ls hl => ?_)
    refine lv_lload C.1 C.2.1 dX6_partOf_37 (lv_at hl 0 rfl) ?_
    refine lv_lload C.1 C.2.1 dX6_partOf_39 (lv_at hl 1 rfl) ?_
    refine lv_lload_n C.1 C.2.1 dX6_partOf_41 rfl (lv_at hl 4 rfl) ?_
    replace h := on h; obtain ⟨n7, h⟩ := h
    refine lv_lrem C.1 C.2.1 dX6_partOf_42 n7 ?_
    refine lv_lload_n C.1 C.2.1 dX6_partOf_43 rfl (lv_at hl 4 rfl) ?_
    replace h := ob h; obtain ⟨x8, ex8, h⟩ := h
    refine sx_callS (As := [.long (x3 - x3 / v3 * v3), .long v3]) (rest := [.long x6]) C hs (c_X6_rest ex8) mo_X6_rest q1095 rfl hl.1 ⟨⟨(Nat.le_of_ble_eq_true rfl), (Nat.le_of_ble_eq_true rfl)⟩, (Nat.le_of_ble_eq_true rfl), (Nat.le_of_ble_eq_true rfl)⟩ rfl (Nat.le_of_ble_eq_true rfl) dX6_partOf_44 (fun H locs hs => ?_)
    refine W.eq (g2 := F0 m 47 ls [.int x8, .long x6]) rfl ?_
    refine lv_iconst (v := 0) C.1 C.2.1 dX6_partOf_47 (by decide) ?_
    refine lv_iload C.1 C.2.1 dX6_partOf_48 (lv_at hl 5 rfl) ?_
    replace h := ob h; obtain ⟨u10, ex9, h⟩ := h
    rcases u10 with j11 | x9
    · replace h := bsl h
      cases h
      refine sx_xcallS (As := [.long x6, .int x8, .int 0, .int v5]) (rest := []) C hs (c_X6_settled hfl ex9) mo_X6_settled q1096 rfl hl.1 ⟨⟨(Nat.le_of_ble_eq_true rfl), (Nat.le_of_ble_eq_true rfl)⟩, (Nat.le_of_ble_eq_true rfl), (Nat.le_of_ble_eq_true rfl)⟩ rfl (Nat.le_of_ble_eq_true rfl) dX6_partOf_50 (fun k9 hk9 ce q9 H locs a1 a2 a3 a4 a5 a6 => ?_) (fun vr hv => (inlr hv).elim)
      obtain rfl := Sum.inl.inj hk9
      exact sx_out C ht a1 a2 a3 a4 a5 a6 (Nat.le_of_ble_eq_true rfl) (Nat.le_of_ble_eq_true rfl)
    · replace h := bsr h
      refine sx_xcallS (As := [.long x6, .int x8, .int 0, .int v5]) (rest := []) C hs (c_X6_settled hfl ex9) mo_X6_settled q1096 rfl hl.1 ⟨⟨(Nat.le_of_ble_eq_true rfl), (Nat.le_of_ble_eq_true rfl)⟩, (Nat.le_of_ble_eq_true rfl), (Nat.le_of_ble_eq_true rfl)⟩ rfl (Nat.le_of_ble_eq_true rfl) dX6_partOf_50 (fun k9 hk9 => (inrl hk9).elim) (fun vr hv H locs hs => ?_)
      obtain rfl := Sum.inr.inj hv
      refine W.eq (g2 := F0 m 53 ls [.long x9]) rfl ?_
      refine W.widen (k := 0) (n := 0) (Nat.le_of_ble_eq_true rfl) (Nat.le_of_ble_eq_true rfl) ?_
      cases h
      exact sx_lretX C hs hr dX6_partOf_53
  · replace h := iN (fun q => c1 ((lg_cmp_ge _ _).mpr q)) h
    cases h
    exact sx_throw C hfl hs to_X6_17_28 ht hl.1 dX6_partOf_6 dX6_partOf_9 dX6_partOf_10 dX6_partOf_12 dX6_partOf_15 ⟨by decide, (Nat.le_of_ble_eq_true rfl), (Nat.le_of_ble_eq_true rfl), (Nat.le_of_ble_eq_true rfl)⟩ ⟨(Nat.le_of_ble_eq_true rfl), (Nat.le_of_ble_eq_true rfl)⟩
def f_X6_quotient (v0 : Int64) (v2 : Int64) (v4 : Int32) : Option ((Nat ⊕ Int64)) :=
 (f_X6_partOf v0 1 v2 v4).bind fun u2 =>
 bs u2 (fun j3 => some (.inl j3)) fun x1 =>
 some (.inr x1)
set_option maxHeartbeats 4000000 in
set_option maxRecDepth 100000 in
theorem c_X6_quotient {l : Launch} (hfl : l.stackTraces = false) {g : PP} {σ : Sto} {sz : Nat} {v0 : Int64} {v2 : Int64} {v4 : Int32} {r9 : Nat ⊕ Int64} (h : f_X6_quotient v0 v2 v4 = some r9) : vx_Met l yX6_quotient [Cond.code yX6_quotient cX6_quotient 5 (some .long)] (rmk 9 (cX r9) (cY r9) 177) (Pre g σ sz [.long v0, .long v2, .int v4]) (PstX g (Sum.map id vL r9) σ sz) (XpX g (Sum.map id vL r9) σ sz) (cX r9) (cY r9) (Aw g) := by
  refine vx_ofW (cc := cX6_quotient) (maxL := 5) (ret := (some .long)) (by decide) rfl ?_
  intro p e s m args below meth c s₁ B hml ht hv
  obtain ⟨rfl, C, hs⟩ := ctx_of B hml hv
  have C : Cx g p s m meth c cX6_quotient 5 "Tillhouse$Reckoning" := C
  have hr := B.returns
  have hl := lv_entry ([.long v0, .long v2, .int v4]) (n := 5) (Nat.le_of_ble_eq_true rfl)
  rw [lg_entry_eq]
  generalize (lg_sl ([.long v0, .long v2, .int v4]) ++ List.replicate (5 - (lg_sl ([.long v0, .long v2, .int v4])).length) Slot.unset).toArray = ls at hl ⊢
  have hl : lv_has ls 5 [(0, .long v0), (2, .long v2), (4, .int v4)] := hl
  unfold f_X6_quotient at h
  refine lv_lload_n C.1 C.2.1 dX6_quotient_0 rfl (lv_at hl 0 rfl) ?_
  refine lv_iconst (v := 1) C.1 C.2.1 dX6_quotient_1 (by decide) ?_
  refine lv_lload_n C.1 C.2.1 dX6_quotient_2 rfl (lv_at hl 1 rfl) ?_
  refine lv_iload C.1 C.2.1 dX6_quotient_3 (lv_at hl 2 rfl) ?_
  replace h := ob h; obtain ⟨u2, ex1, h⟩ := h
  rcases u2 with j3 | x1
  · replace h := bsl h
    cases h
    refine sx_xcallS (As := [.long v0, .int 1, .long v2, .int v4]) (rest := []) C hs (c_X6_partOf hfl ex1) mo_X6_partOf q1091 rfl hl.1 ⟨⟨(Nat.le_of_ble_eq_true rfl), (Nat.le_of_ble_eq_true rfl)⟩, (Nat.le_of_ble_eq_true rfl), (Nat.le_of_ble_eq_true rfl)⟩ rfl (Nat.le_of_ble_eq_true rfl) dX6_quotient_5 (fun k9 hk9 ce q9 H locs a1 a2 a3 a4 a5 a6 => ?_) (fun vr hv => (inlr hv).elim)
    obtain rfl := Sum.inl.inj hk9
    exact sx_out C ht a1 a2 a3 a4 a5 a6 (Nat.le_of_ble_eq_true rfl) (Nat.le_of_ble_eq_true rfl)
  · replace h := bsr h
    refine sx_xcallS (As := [.long v0, .int 1, .long v2, .int v4]) (rest := []) C hs (c_X6_partOf hfl ex1) mo_X6_partOf q1091 rfl hl.1 ⟨⟨(Nat.le_of_ble_eq_true rfl), (Nat.le_of_ble_eq_true rfl)⟩, (Nat.le_of_ble_eq_true rfl), (Nat.le_of_ble_eq_true rfl)⟩ rfl (Nat.le_of_ble_eq_true rfl) dX6_quotient_5 (fun k9 hk9 => (inrl hk9).elim) (fun vr hv H locs hs => ?_)
    obtain rfl := Sum.inr.inj hv
    refine W.eq (g2 := F0 m 8 ls [.long x1]) rfl ?_
    refine W.widen (k := 0) (n := 0) (Nat.le_of_ble_eq_true rfl) (Nat.le_of_ble_eq_true rfl) ?_
    cases h
    exact sx_lretX C hs hr dX6_quotient_8
def f_X2_lineNet (σ : Sto) (a0 : Nat) (v1 : Int32) (v2 : Int32) : Option ((Nat ⊕ Int64)) :=
 (gR σ a0 2 4).bind fun p1 =>
 (aL σ p1 2 v1).bind fun x2 =>
 (f_X6_quotient x2 1000000 v2).bind fun u4 =>
 bs u4 (fun j5 => some (.inl j5)) fun x3 =>
 some (.inr x3)
set_option maxHeartbeats 4000000 in
set_option maxRecDepth 100000 in
theorem c_X2_lineNet {l : Launch} (hfl : l.stackTraces = false) {g : PP} {σ : Sto} {sz : Nat} {a0 : Nat} {v1 : Int32} {v2 : Int32} {r9 : Nat ⊕ Int64} (h : f_X2_lineNet σ a0 v1 v2 = some r9) : vx_Met l yX2_lineNet [Cond.code yX2_lineNet cX2_lineNet 3 (some .long)] (rmk 10 (cX r9) (cY r9) 201) (Pre g σ sz [.ref a0, .int v1, .int v2]) (PstX g (Sum.map id vL r9) σ sz) (XpX g (Sum.map id vL r9) σ sz) (cX r9) (cY r9) (Aw g) := by
  refine vx_ofW (cc := cX2_lineNet) (maxL := 3) (ret := (some .long)) (by decide) rfl ?_
  intro p e s m args below meth c s₁ B hml ht hv
  obtain ⟨rfl, C, hs⟩ := ctx_of B hml hv
  have C : Cx g p s m meth c cX2_lineNet 3 "Tillhouse$Invoice" := C
  have hr := B.returns
  have hl := lv_entry ([.ref a0, .int v1, .int v2]) (n := 3) (Nat.le_of_ble_eq_true rfl)
  rw [lg_entry_eq]
  generalize (lg_sl ([.ref a0, .int v1, .int v2]) ++ List.replicate (3 - (lg_sl ([.ref a0, .int v1, .int v2])).length) Slot.unset).toArray = ls at hl ⊢
  have hl : lv_has ls 3 [(0, .ref a0), (1, .int v1), (2, .int v2)] := hl
  unfold f_X2_lineNet at h
  refine lv_aload_n C.1 C.2.1 dX2_lineNet_0 rfl (lv_at hl 0 rfl) ?_
  replace h := ob h; obtain ⟨p1, ep1, h⟩ := h
  refine sx_getV C hs fo_X2_13 (gR_v ep1) dX2_lineNet_1 ?_
  refine lv_iload_n C.1 C.2.1 dX2_lineNet_4 rfl (lv_at hl 1 rfl) ?_
  replace h := ob h; obtain ⟨x2, ex2, h⟩ := h
  refine sx_lald C hs ex2 dX2_lineNet_5 ?_
  refine lv_ldc2 (v := 1000000) C.1 C.2.1 C.2.2.2.1 (C.2.2.2.2.1.1 _ q1087 _) dX2_lineNet_6 ?_
  refine lv_iload_n C.1 C.2.1 dX2_lineNet_9 rfl (lv_at hl 2 rfl) ?_
  replace h := ob h; obtain ⟨u4, ex3, h⟩ := h
  rcases u4 with j5 | x3
  · replace h := bsl h
    cases h
    refine sx_xcallS (As := [.long x2, .long 1000000, .int v2]) (rest := []) C hs (c_X6_quotient hfl ex3) mo_X6_quotient q1088 rfl hl.1 ⟨⟨(Nat.le_of_ble_eq_true rfl), (Nat.le_of_ble_eq_true rfl)⟩, (Nat.le_of_ble_eq_true rfl), (Nat.le_of_ble_eq_true rfl)⟩ rfl (Nat.le_of_ble_eq_true rfl) dX2_lineNet_10 (fun k9 hk9 ce q9 H locs a1 a2 a3 a4 a5 a6 => ?_) (fun vr hv => (inlr hv).elim)
    obtain rfl := Sum.inl.inj hk9
    exact sx_out C ht a1 a2 a3 a4 a5 a6 (Nat.le_of_ble_eq_true rfl) (Nat.le_of_ble_eq_true rfl)
  · replace h := bsr h
    refine sx_xcallS (As := [.long x2, .long 1000000, .int v2]) (rest := []) C hs (c_X6_quotient hfl ex3) mo_X6_quotient q1088 rfl hl.1 ⟨⟨(Nat.le_of_ble_eq_true rfl), (Nat.le_of_ble_eq_true rfl)⟩, (Nat.le_of_ble_eq_true rfl), (Nat.le_of_ble_eq_true rfl)⟩ rfl (Nat.le_of_ble_eq_true rfl) dX2_lineNet_10 (fun k9 hk9 => (inrl hk9).elim) (fun vr hv H locs hs => ?_)
    obtain rfl := Sum.inr.inj hv
    refine W.eq (g2 := F0 m 13 ls [.long x3]) rfl ?_
    refine W.widen (k := 0) (n := 0) (Nat.le_of_ble_eq_true rfl) (Nat.le_of_ble_eq_true rfl) ?_
    cases h
    exact sx_lretX C hs hr dX2_lineNet_13
def b_X2_netSum_39 (N : Nat) (k5 : Sto × Nat × Int32 × Int64 × Int32 → Option ((Nat ⊕ Int64))) (σ : Sto) (a0 : Nat) (v1 : Int32) (v4 : Int32) (s0 : Int64) (s1 : Int64) : Option ((Nat ⊕ Int64)) :=
 lt_ (s1 + s0) fun x1 =>
 lt_ (v4 + 1) fun x2 =>
 k5 (σ, a0, v1, x1, x2)
def b_X2_netSum_5_body (N : Nat) (k5 : Sto × Nat × Int32 × Int64 × Int32 → Option ((Nat ⊕ Int64))) (σ : Sto) (a0 : Nat) (v1 : Int32) (v2 : Int64) (v4 : Int32) : Option ((Nat ⊕ Int64)) :=
 (gI σ a0 2 2).bind fun x1 =>
 if x1 ≤ v4 then
 (gI σ a0 2 3).bind fun x3 =>
 if x3 = 0 then
 (f_X6_quotient v2 1000000 v1).bind fun u6 =>
 bs u6 (fun j7 => some (.inl j7)) fun x5 =>
 some (.inr x5)
 else
 some (.inr v2)
 else
 (gI σ a0 2 3).bind fun x8 =>
 if x8 = 0 then
 (gR σ a0 2 4).bind fun p10 =>
 (aL σ p10 2 v4).bind fun x11 =>
 b_X2_netSum_39 N k5 σ a0 v1 v4 x11 v2
 else
 (isO σ a0 2).bind fun _ =>
 (f_X2_lineNet σ a0 v4 v1).bind fun u14 =>
 bs u14 (fun j15 => some (.inl j15)) fun x13 =>
 b_X2_netSum_39 N k5 σ a0 v1 v4 x13 v2
def b_X2_netSum_5 (N : Nat) (σ : Sto) (a0 : Nat) (v1 : Int32) (v2 : Int64) (v4 : Int32) : Option ((Nat ⊕ Int64)) :=
  lp (fun k e => b_X2_netSum_5_body N k e.1 e.2.1 e.2.2.1 e.2.2.2.1 e.2.2.2.2) N (σ, a0, v1, v2, v4)
def f_X2_netSum (N : Nat) (σ : Sto) (a0 : Nat) (v1 : Int32) : Option ((Nat ⊕ Int64)) :=
 b_X2_netSum_5 N σ a0 v1 0 0
set_option maxHeartbeats 4000000 in
set_option maxRecDepth 100000 in
theorem t_X2_netSum_39 {l : Launch} {g : PP} {p : Program} {e : Env} {s : State} {m : MethodId} {args : Array Value} {below : List Frame} {meth : Method} {c : Code} (hfl : l.stackTraces = false) (C : Cx g p s m meth c cX2_netSum 5 "Tillhouse$Invoice") (hr : meth.sig.returnType = some .long) (ht : ∀ x ∈ c.exceptionTable.toList, False) {N : Nat} {k5 : Sto × Nat × Int32 × Int64 × Int32 → Option ((Nat ⊕ Int64))} {σ : Sto} {sz : Nat} {a0 : Nat} {v1 : Int32} {v4 : Int32} {s0 : Int64} {s1 : Int64} {r9 : Nat ⊕ Int64}
    (h : b_X2_netSum_39 N k5 σ a0 v1 v4 s0 s1 = some r9) (hk5 : ∀ (σ : Sto) (a0 : Nat) (v1 : Int32) (v2 : Int64) (v4 : Int32), k5 (σ, a0, v1, v2, v4) = some r9 → ∀ (H : Heap) (locs : List Loc) (ls : Array Slot), HS g s σ sz H locs → lv_has ls 5 [(0, .ref a0), (1, .int v1), (2, .long v2), (4, .int v4)] → W p l e (rmk 11 (cX r9) (cY r9) 223) s m args below meth c H locs 0 0 (vx_MQ below (PstX g (Sum.map id vL r9) σ sz) (XpX g (Sum.map id vL r9) σ sz) args s (cX r9) (cY r9) (Aw g)) (F0 m 5 ls []))
    {H : Heap} {locs : List Loc} {ls : Array Slot} (hs : HS g s σ sz H locs) (hl : lv_has ls 5 [(0, .ref a0), (1, .int v1), (4, .int v4)]) : W p l e (rmk 11 (cX r9) (cY r9) 223) s m args below meth c H locs 0 0 (vx_MQ below (PstX g (Sum.map id vL r9) σ sz) (XpX g (Sum.map id vL r9) σ sz) args s (cX r9) (cY r9) (Aw g)) (F0 m 39 ls [.long s0, .long s1]) := by
  unfold b_X2_netSum_39 at h
  refine lv_ladd C.1 C.2.1 dX2_netSum_39 ?_
  replace h := ol h; obtain ⟨x1, ex1, h⟩ := h
  refine sx_nmL ex1 ?_
  refine lv_lstore_n (lv' := [(2, .long x1), (0, .ref a0), (1, .int v1), (4, .int v4)]) C.1 C.2.1 dX2_netSum_40 rfl hl (by decide) rfl (fun ls hl => ?_)
  replace h := ol h; obtain ⟨x2, ex2, h⟩ := h
  refine lv_iinc (v := x2) (lv' := [(4, .int x2), (2, .long x1), (0, .ref a0), (1, .int v1)]) C.1 C.2.1 dX2_netSum_41 hl (k := 3) rfl (by rw [ex2]; rfl) (by decide) rfl (fun ls hl => ?_)
  refine lv_goto (tgt := 5) C.1 C.2.1 dX2_netSum_44 (by decide) ?_
  exact hk5 σ a0 v1 x1 x2 h _ _ _ hs (lv_sub hl [2, 3, 1, 0] rfl)
set_option maxHeartbeats 4000000 in
set_option maxRecDepth 100000 in
theorem tb_X2_netSum_5 {l : Launch} {g : PP} {p : Program} {e : Env} {s : State} {m : MethodId} {args : Array Value} {below : List Frame} {meth : Method} {c : Code} (hfl : l.stackTraces = false) (C : Cx g p s m meth c cX2_netSum 5 "Tillhouse$Invoice") (hr : meth.sig.returnType = some .long) (ht : ∀ x ∈ c.exceptionTable.toList, False) {N : Nat}  {k5 : Sto × Nat × Int32 × Int64 × Int32 → Option ((Nat ⊕ Int64))} {σ : Sto} {sz : Nat} {a0 : Nat} {v1 : Int32} {v2 : Int64} {v4 : Int32} {r9 : Nat ⊕ Int64}
    (h : b_X2_netSum_5_body N k5 σ a0 v1 v2 v4 = some r9)  (hk5 : ∀ (σ : Sto) (a0 : Nat) (v1 : Int32) (v2 : Int64) (v4 : Int32), k5 (σ, a0, v1, v2, v4) = some r9 → ∀ (H : Heap) (locs : List Loc) (ls : Array Slot), HS g s σ sz H locs → lv_has ls 5 [(0, .ref a0), (1, .int v1), (2, .long v2), (4, .int v4)] → W p l e (rmk 11 (cX r9) (cY r9) 223) s m args below meth c H locs 0 0 (vx_MQ below (PstX g (Sum.map id vL r9) σ sz) (XpX g (Sum.map id vL r9) σ sz) args s (cX r9) (cY r9) (Aw g)) (F0 m 5 ls []))
    {H : Heap} {locs : List Loc} {ls : Array Slot} (hs : HS g s σ sz H locs) (hl : lv_has ls 5 [(0, .ref a0), (1, .int v1), (2, .long v2), (4, .int v4)]) : W p l e (rmk 11 (cX r9) (cY r9) 223) s m args below meth c H locs 0 0 (vx_MQ below (PstX g (Sum.map id vL r9) σ sz) (XpX g (Sum.map id vL r9) σ sz) args s (cX r9) (cY r9) (Aw g)) (F0 m 5 ls []) := by
  unfold b_X2_netSum_5_body at h
  refine lv_iload C.1 C.2.1 dX2_netSum_5 (lv_at hl 3 rfl) ?_
  refine lv_aload_n C.1 C.2.1 dX2_netSum_7 rfl (lv_at hl 0 rfl) ?_
  replace h := ob h; obtain ⟨x1, ex1, h⟩ := h
  refine sx_getV C hs fo_X2_7 (gI_v ex1) dX2_netSum_8 ?_
  refine lv_icmp_ge (tgt := 47) C.1 C.2.1 dX2_netSum_11 (by decide) (fun c2 => ?_) (fun c2 => ?_)
  · replace h := ip c2 h
    refine lv_aload_n C.1 C.2.1 dX2_netSum_47 rfl (lv_at hl 0 rfl) ?_
    replace h := ob h; obtain ⟨x3, ex3, h⟩ := h
    refine sx_getV C hs fo_X2_27 (gI_v ex3) dX2_netSum_48 ?_
    refine lv_if_eq (tgt := 58) C.1 C.2.1 dX2_netSum_51 (by decide) (fun c4 => ?_) (fun c4 => ?_)
    · replace h := ip c4 h
      refine lv_lload_n C.1 C.2.1 dX2_netSum_58 rfl (lv_at hl 2 rfl) ?_
      refine lv_ldc2 (v := 1000000) C.1 C.2.1 C.2.2.2.1 (C.2.2.2.2.1.1 _ q1087 _) dX2_netSum_59 ?_
      refine lv_iload_n C.1 C.2.1 dX2_netSum_62 rfl (lv_at hl 1 rfl) ?_
      replace h := ob h; obtain ⟨u6, ex5, h⟩ := h
      rcases u6 with j7 | x5
      · replace h := bsl h
        cases h
        refine sx_xcallS (As := [.long v2, .long 1000000, .int v1]) (rest := []) C hs (c_X6_quotient hfl ex5) mo_X6_quotient q1088 rfl hl.1 ⟨⟨(Nat.le_of_ble_eq_true rfl), (Nat.le_of_ble_eq_true rfl)⟩, (Nat.le_of_ble_eq_true rfl), (Nat.le_of_ble_eq_true rfl)⟩ rfl (Nat.le_of_ble_eq_true rfl) dX2_netSum_63 (fun k9 hk9 ce q9 H locs a1 a2 a3 a4 a5 a6 => ?_) (fun vr hv => (inlr hv).elim)
        obtain rfl := Sum.inl.inj hk9
        exact sx_out C ht a1 a2 a3 a4 a5 a6 (Nat.le_of_ble_eq_true rfl) (Nat.le_of_ble_eq_true rfl)
      · replace h := bsr h
        refine sx_xcallS (As := [.long v2, .long 1000000, .int v1]) (rest := []) C hs (c_X6_quotient hfl ex5) mo_X6_quotient q1088 rfl hl.1 ⟨⟨(Nat.le_of_ble_eq_true rfl), (Nat.le_of_ble_eq_true rfl)⟩, (Nat.le_of_ble_eq_true rfl), (Nat.le_of_ble_eq_true rfl)⟩ rfl (Nat.le_of_ble_eq_true rfl) dX2_netSum_63 (fun k9 hk9 => (inrl hk9).elim) (fun vr hv H locs hs => ?_)
        obtain rfl := Sum.inr.inj hv
        refine W.eq (g2 := F0 m 66 ls [.long x5]) rfl ?_
        refine W.widen (k := 0) (n := 0) (Nat.le_of_ble_eq_true rfl) (Nat.le_of_ble_eq_true rfl) ?_
        cases h
        exact sx_lretX C hs hr dX2_netSum_66
    · replace h := iN c4 h
      refine lv_lload_n C.1 C.2.1 dX2_netSum_54 rfl (lv_at hl 2 rfl) ?_
      refine lv_goto (tgt := 66) C.1 C.2.1 dX2_netSum_55 (by decide) ?_
      cases h
      exact sx_lretX C hs hr dX2_netSum_66
  · replace h := iN c2 h
    refine lv_lload_n C.1 C.2.1 dX2_netSum_14 rfl (lv_at hl 2 rfl) ?_
    refine lv_aload_n C.1 C.2.1 dX2_netSum_15 rfl (lv_at hl 0 rfl) ?_
    replace h := ob h; obtain ⟨x8, ex8, h⟩ := h
    refine sx_getV C hs fo_X2_27 (gI_v ex8) dX2_netSum_16 ?_
    refine lv_if_eq (tgt := 32) C.1 C.2.1 dX2_netSum_19 (by decide) (fun c9 => ?_) (fun c9 => ?_)
    · replace h := ip c9 h
      refine lv_aload_n C.1 C.2.1 dX2_netSum_32 rfl (lv_at hl 0 rfl) ?_
      replace h := ob h; obtain ⟨p10, ep10, h⟩ := h
      refine sx_getV C hs fo_X2_13 (gR_v ep10) dX2_netSum_33 ?_
      refine lv_iload C.1 C.2.1 dX2_netSum_36 (lv_at hl 3 rfl) ?_
      replace h := ob h; obtain ⟨x11, ex11, h⟩ := h
      refine sx_lald C hs ex11 dX2_netSum_38 ?_
      exact t_X2_netSum_39 hfl C hr ht h hk5 hs (lv_sub hl [0, 1, 3] rfl)
    · replace h := iN c9 h
      refine lv_aload_n C.1 C.2.1 dX2_netSum_22 rfl (lv_at hl 0 rfl) ?_
      refine lv_iload C.1 C.2.1 dX2_netSum_23 (lv_at hl 3 rfl) ?_
      refine lv_iload_n C.1 C.2.1 dX2_netSum_25 rfl (lv_at hl 1 rfl) ?_
      replace h := ob h; obtain ⟨⟨⟩, i12, h⟩ := h
      replace h := ob h; obtain ⟨u14, ex13, h⟩ := h
      rcases u14 with j15 | x13
      · replace h := bsl h
        cases h
        refine sx_xcallV (As := [.int v4, .int v1]) (rest := [.long v2]) C hs (c_X2_lineNet hfl ex13) mo_X2_lineNet q1108 i12 rfl rfl hl.1 ⟨⟨(Nat.le_of_ble_eq_true rfl), (Nat.le_of_ble_eq_true rfl)⟩, (Nat.le_of_ble_eq_true rfl), (Nat.le_of_ble_eq_true rfl)⟩ rfl (Nat.le_of_ble_eq_true rfl) dX2_netSum_26 (fun k9 hk9 ce q9 H locs a1 a2 a3 a4 a5 a6 => ?_) (fun vr hv => (inlr hv).elim)
        obtain rfl := Sum.inl.inj hk9
        exact sx_out C ht a1 a2 a3 a4 a5 a6 (Nat.le_of_ble_eq_true rfl) (Nat.le_of_ble_eq_true rfl)
      · replace h := bsr h
        refine sx_xcallV (As := [.int v4, .int v1]) (rest := [.long v2]) C hs (c_X2_lineNet hfl ex13) mo_X2_lineNet q1108 i12 rfl rfl hl.1 ⟨⟨(Nat.le_of_ble_eq_true rfl), (Nat.le_of_ble_eq_true rfl)⟩, (Nat.le_of_ble_eq_true rfl), (Nat.le_of_ble_eq_true rfl)⟩ rfl (Nat.le_of_ble_eq_true rfl) dX2_netSum_26 (fun k9 hk9 => (inrl hk9).elim) (fun vr hv H locs hs => ?_)
        obtain rfl := Sum.inr.inj hv
        refine W.eq (g2 := F0 m 29 ls [.long x13, .long v2]) rfl ?_
        refine W.widen (k := 0) (n := 0) (Nat.le_of_ble_eq_true rfl) (Nat.le_of_ble_eq_true rfl) ?_
        refine lv_goto (tgt := 39) C.1 C.2.1 dX2_netSum_29 (by decide) ?_
        exact t_X2_netSum_39 hfl C hr ht h hk5 hs (lv_sub hl [0, 1, 3] rfl)
set_option maxHeartbeats 4000000 in
set_option maxRecDepth 100000 in
theorem tl_X2_netSum_5 {l : Launch} {g : PP} {p : Program} {e : Env} {s : State} {m : MethodId} {args : Array Value} {below : List Frame} {meth : Method} {c : Code} (hfl : l.stackTraces = false) (C : Cx g p s m meth c cX2_netSum 5 "Tillhouse$Invoice") (hr : meth.sig.returnType = some .long) (ht : ∀ x ∈ c.exceptionTable.toList, False) {N : Nat}   {sz : Nat} {r9 : Nat ⊕ Int64}  : ∀ (n : Nat) (σ : Sto) (a0 : Nat) (v1 : Int32) (v2 : Int64) (v4 : Int32), lp (fun k e => b_X2_netSum_5_body N k e.1 e.2.1 e.2.2.1 e.2.2.2.1 e.2.2.2.2) n (σ, a0, v1, v2, v4) = some r9 → ∀ (H : Heap) (locs : List Loc) (ls : Array Slot), HS g s σ sz H locs → lv_has ls 5 [(0, .ref a0), (1, .int v1), (2, .long v2), (4, .int v4)] → W p l e (rmk 11 (cX r9) (cY r9) 223) s m args below meth c H locs 0 0 (vx_MQ below (PstX g (Sum.map id vL r9) σ sz) (XpX g (Sum.map id vL r9) σ sz) args s (cX r9) (cY r9) (Aw g)) (F0 m 5 ls []) := by
  intro n
  induction n with
  | zero => intro σ a0 v1 v2 v4 h; exact absurd h (fun q => nomatch q)
  | succ n ih =>
    intro σ a0 v1 v2 v4 h H locs ls hs hl
    exact tb_X2_netSum_5 (N := N) hfl C hr ht h (fun σ a0 v1 v2 v4 h H locs ls hs hl => ih σ a0 v1 v2 v4 h H locs ls hs hl) hs hl
set_option maxHeartbeats 4000000 in
set_option maxRecDepth 100000 in
theorem t_X2_netSum_5 {l : Launch} {g : PP} {p : Program} {e : Env} {s : State} {m : MethodId} {args : Array Value} {below : List Frame} {meth : Method} {c : Code} (hfl : l.stackTraces = false) (C : Cx g p s m meth c cX2_netSum 5 "Tillhouse$Invoice") (hr : meth.sig.returnType = some .long) (ht : ∀ x ∈ c.exceptionTable.toList, False) {N : Nat}  {σ : Sto} {sz : Nat} {a0 : Nat} {v1 : Int32} {v2 : Int64} {v4 : Int32} {r9 : Nat ⊕ Int64}
    (h : b_X2_netSum_5 N σ a0 v1 v2 v4 = some r9) 
    {H : Heap} {locs : List Loc} {ls : Array Slot} (hs : HS g s σ sz H locs) (hl : lv_has ls 5 [(0, .ref a0), (1, .int v1), (2, .long v2), (4, .int v4)]) : W p l e (rmk 11 (cX r9) (cY r9) 223) s m args below meth c H locs 0 0 (vx_MQ below (PstX g (Sum.map id vL r9) σ sz) (XpX g (Sum.map id vL r9) σ sz) args s (cX r9) (cY r9) (Aw g)) (F0 m 5 ls []) := tl_X2_netSum_5 hfl C hr ht N σ a0 v1 v2 v4 h H locs ls hs hl
set_option maxHeartbeats 4000000 in
set_option maxRecDepth 100000 in
theorem c_X2_netSum {l : Launch} (hfl : l.stackTraces = false) {g : PP} {N : Nat} {σ : Sto} {sz : Nat} {a0 : Nat} {v1 : Int32} {r9 : Nat ⊕ Int64} (h : f_X2_netSum N σ a0 v1 = some r9) : vx_Met l yX2_netSum [Cond.code yX2_netSum cX2_netSum 5 (some .long)] (rmk 11 (cX r9) (cY r9) 223) (Pre g σ sz [.ref a0, .int v1]) (PstX g (Sum.map id vL r9) σ sz) (XpX g (Sum.map id vL r9) σ sz) (cX r9) (cY r9) (Aw g) := by
  refine vx_ofW (cc := cX2_netSum) (maxL := 5) (ret := (some .long)) (by decide) rfl ?_
  intro p e s m args below meth c s₁ B hml ht hv
  obtain ⟨rfl, C, hs⟩ := ctx_of B hml hv
  have C : Cx g p s m meth c cX2_netSum 5 "Tillhouse$Invoice" := C
  have hr := B.returns
  have hl := lv_entry ([.ref a0, .int v1]) (n := 5) (Nat.le_of_ble_eq_true rfl)
  rw [lg_entry_eq]
  generalize (lg_sl ([.ref a0, .int v1]) ++ List.replicate (5 - (lg_sl ([.ref a0, .int v1])).length) Slot.unset).toArray = ls at hl ⊢
  have hl : lv_has ls 5 [(0, .ref a0), (1, .int v1)] := hl
  unfold f_X2_netSum at h
  refine lv_lconst (v := 0) C.1 C.2.1 dX2_netSum_0 (by decide) ?_
  refine lv_lstore_n (lv' := [(2, .long 0), (0, .ref a0), (1, .int v1)]) C.1 C.2.1 dX2_netSum_1 rfl hl (by decide) rfl (fun ls hl => ?_)
  refine lv_iconst (v := 0) C.1 C.2.1 dX2_netSum_2 (by decide) ?_
  refine lv_istore (lv' := [(4, .int 0), (2, .long 0), (0, .ref a0), (1, .int v1)]) C.1 C.2.1 dX2_netSum_3 hl (by decide) rfl (fun ls hl => ?_)
  exact t_X2_netSum_5 hfl C hr ht h hs (lv_sub hl [2, 3, 1, 0] rfl)
def f_X2_lineTax (σ : Sto) (a0 : Nat) (v1 : Int32) (v2 : Int32) : Option ((Nat ⊕ Int64)) :=
 (isO σ a0 2).bind fun _ =>
 (f_X2_lineNet σ a0 v1 v2).bind fun u3 =>
 bs u3 (fun j4 => some (.inl j4)) fun x2 =>
 (gR σ a0 2 5).bind fun p5 =>
 (aI σ p5 1 v1).bind fun x6 =>
 (f_X6_partOf x2 x6 10000 v2).bind fun u8 =>
 bs u8 (fun j9 => some (.inl j9)) fun x7 =>
 some (.inr x7)
set_option maxHeartbeats 4000000 in
set_option maxRecDepth 100000 in
theorem c_X2_lineTax {l : Launch} (hfl : l.stackTraces = false) {g : PP} {σ : Sto} {sz : Nat} {a0 : Nat} {v1 : Int32} {v2 : Int32} {r9 : Nat ⊕ Int64} (h : f_X2_lineTax σ a0 v1 v2 = some r9) : vx_Met l yX2_lineTax [Cond.code yX2_lineTax cX2_lineTax 3 (some .long)] (rmk 11 (cX r9) (cY r9) 223) (Pre g σ sz [.ref a0, .int v1, .int v2]) (PstX g (Sum.map id vL r9) σ sz) (XpX g (Sum.map id vL r9) σ sz) (cX r9) (cY r9) (Aw g) := by
  refine vx_ofW (cc := cX2_lineTax) (maxL := 3) (ret := (some .long)) (by decide) rfl ?_
  intro p e s m args below meth c s₁ B hml ht hv
  obtain ⟨rfl, C, hs⟩ := ctx_of B hml hv
  have C : Cx g p s m meth c cX2_lineTax 3 "Tillhouse$Invoice" := C
  have hr := B.returns
  have hl := lv_entry ([.ref a0, .int v1, .int v2]) (n := 3) (Nat.le_of_ble_eq_true rfl)
  rw [lg_entry_eq]
  generalize (lg_sl ([.ref a0, .int v1, .int v2]) ++ List.replicate (3 - (lg_sl ([.ref a0, .int v1, .int v2])).length) Slot.unset).toArray = ls at hl ⊢
  have hl : lv_has ls 3 [(0, .ref a0), (1, .int v1), (2, .int v2)] := hl
  unfold f_X2_lineTax at h
  refine lv_aload_n C.1 C.2.1 dX2_lineTax_0 rfl (lv_at hl 0 rfl) ?_
  refine lv_iload_n C.1 C.2.1 dX2_lineTax_1 rfl (lv_at hl 1 rfl) ?_
  refine lv_iload_n C.1 C.2.1 dX2_lineTax_2 rfl (lv_at hl 2 rfl) ?_
  replace h := ob h; obtain ⟨⟨⟩, i1, h⟩ := h
  replace h := ob h; obtain ⟨u3, ex2, h⟩ := h
  rcases u3 with j4 | x2
  · replace h := bsl h
    cases h
    refine sx_xcallV (As := [.int v1, .int v2]) (rest := []) C hs (c_X2_lineNet hfl ex2) mo_X2_lineNet q1108 i1 rfl rfl hl.1 ⟨⟨(Nat.le_of_ble_eq_true rfl), (Nat.le_of_ble_eq_true rfl)⟩, (Nat.le_of_ble_eq_true rfl), (Nat.le_of_ble_eq_true rfl)⟩ rfl (Nat.le_of_ble_eq_true rfl) dX2_lineTax_3 (fun k9 hk9 ce q9 H locs a1 a2 a3 a4 a5 a6 => ?_) (fun vr hv => (inlr hv).elim)
    obtain rfl := Sum.inl.inj hk9
    exact sx_out C ht a1 a2 a3 a4 a5 a6 (Nat.le_of_ble_eq_true rfl) (Nat.le_of_ble_eq_true rfl)
  · replace h := bsr h
    refine sx_xcallV (As := [.int v1, .int v2]) (rest := []) C hs (c_X2_lineNet hfl ex2) mo_X2_lineNet q1108 i1 rfl rfl hl.1 ⟨⟨(Nat.le_of_ble_eq_true rfl), (Nat.le_of_ble_eq_true rfl)⟩, (Nat.le_of_ble_eq_true rfl), (Nat.le_of_ble_eq_true rfl)⟩ rfl (Nat.le_of_ble_eq_true rfl) dX2_lineTax_3 (fun k9 hk9 => (inrl hk9).elim) (fun vr hv H locs hs => ?_)
    obtain rfl := Sum.inr.inj hv
    refine W.eq (g2 := F0 m 6 ls [.long x2]) rfl ?_
    refine W.widen (k := 0) (n := 0) (Nat.le_of_ble_eq_true rfl) (Nat.le_of_ble_eq_true rfl) ?_
    refine lv_aload_n C.1 C.2.1 dX2_lineTax_6 rfl (lv_at hl 0 rfl) ?_
    replace h := ob h; obtain ⟨p5, ep5, h⟩ := h
    refine sx_getV C hs fo_X2_17 (gR_v ep5) dX2_lineTax_7 ?_
    refine lv_iload_n C.1 C.2.1 dX2_lineTax_10 rfl (lv_at hl 1 rfl) ?_
    replace h := ob h; obtain ⟨x6, ex6, h⟩ := h
    refine sx_iald C hs ex6 dX2_lineTax_11 ?_
    refine lv_ldc2 (v := 10000) C.1 C.2.1 C.2.2.2.1 (C.2.2.2.2.1.1 _ q1124 _) dX2_lineTax_12 ?_
    refine lv_iload_n C.1 C.2.1 dX2_lineTax_15 rfl (lv_at hl 2 rfl) ?_
    replace h := ob h; obtain ⟨u8, ex7, h⟩ := h
    rcases u8 with j9 | x7
    · replace h := bsl h
      cases h
      refine sx_xcallS (As := [.long x2, .int x6, .long 10000, .int v2]) (rest := []) C hs (c_X6_partOf hfl ex7) mo_X6_partOf q1125 rfl hl.1 ⟨⟨(Nat.le_of_ble_eq_true rfl), (Nat.le_of_ble_eq_true rfl)⟩, (Nat.le_of_ble_eq_true rfl), (Nat.le_of_ble_eq_true rfl)⟩ rfl (Nat.le_of_ble_eq_true rfl) dX2_lineTax_16 (fun k9 hk9 ce q9 H locs a1 a2 a3 a4 a5 a6 => ?_) (fun vr hv => (inlr hv).elim)
      obtain rfl := Sum.inl.inj hk9
      exact sx_out C ht a1 a2 a3 a4 a5 a6 (Nat.le_of_ble_eq_true rfl) (Nat.le_of_ble_eq_true rfl)
    · replace h := bsr h
      refine sx_xcallS (As := [.long x2, .int x6, .long 10000, .int v2]) (rest := []) C hs (c_X6_partOf hfl ex7) mo_X6_partOf q1125 rfl hl.1 ⟨⟨(Nat.le_of_ble_eq_true rfl), (Nat.le_of_ble_eq_true rfl)⟩, (Nat.le_of_ble_eq_true rfl), (Nat.le_of_ble_eq_true rfl)⟩ rfl (Nat.le_of_ble_eq_true rfl) dX2_lineTax_16 (fun k9 hk9 => (inrl hk9).elim) (fun vr hv H locs hs => ?_)
      obtain rfl := Sum.inr.inj hv
      refine W.eq (g2 := F0 m 19 ls [.long x7]) rfl ?_
      refine W.widen (k := 0) (n := 0) (Nat.le_of_ble_eq_true rfl) (Nat.le_of_ble_eq_true rfl) ?_
      cases h
      exact sx_lretX C hs hr dX2_lineTax_19
def b_X2_taxOfLikeLines_48 (N : Nat) (k5 : Sto × Nat × Int32 × Int32 × Int64 × Int32 → Option ((Nat ⊕ Int64))) (σ : Sto) (a0 : Nat) (v1 : Int32) (v2 : Int32) (v3 : Int64) (v5 : Int32) : Option ((Nat ⊕ Int64)) :=
 lt_ (v5 + 1) fun x1 =>
 k5 (σ, a0, v1, v2, v3, x1)
def b_X2_taxOfLikeLines_5_body (N : Nat) (k5 : Sto × Nat × Int32 × Int32 × Int64 × Int32 → Option ((Nat ⊕ Int64))) (σ : Sto) (a0 : Nat) (v1 : Int32) (v2 : Int32) (v3 : Int64) (v5 : Int32) : Option ((Nat ⊕ Int64)) :=
 (gI σ a0 2 2).bind fun x1 =>
 if x1 ≤ v5 then
 (gR σ a0 2 5).bind fun p3 =>
 (aI σ p3 1 v1).bind fun x4 =>
 (f_X6_partOf v3 x4 10000000000 v2).bind fun u6 =>
 bs u6 (fun j7 => some (.inl j7)) fun x5 =>
 some (.inr x5)
 else
 (gR σ a0 2 5).bind fun p8 =>
 (aI σ p8 1 v5).bind fun x9 =>
 (gR σ a0 2 5).bind fun p10 =>
 (aI σ p10 1 v1).bind fun x11 =>
 if x9 = x11 then
 if v1 ≤ v5 then
 (gR σ a0 2 4).bind fun p14 =>
 (aL σ p14 2 v5).bind fun x15 =>
 lt_ (v3 + x15) fun x16 =>
 b_X2_taxOfLikeLines_48 N k5 σ a0 v1 v2 x16 v5
 else
 some (.inr 0)
 else
 b_X2_taxOfLikeLines_48 N k5 σ a0 v1 v2 v3 v5
def b_X2_taxOfLikeLines_5 (N : Nat) (σ : Sto) (a0 : Nat) (v1 : Int32) (v2 : Int32) (v3 : Int64) (v5 : Int32) : Option ((Nat ⊕ Int64)) :=
  lp (fun k e => b_X2_taxOfLikeLines_5_body N k e.1 e.2.1 e.2.2.1 e.2.2.2.1 e.2.2.2.2.1 e.2.2.2.2.2) N (σ, a0, v1, v2, v3, v5)
def f_X2_taxOfLikeLines (N : Nat) (σ : Sto) (a0 : Nat) (v1 : Int32) (v2 : Int32) : Option ((Nat ⊕ Int64)) :=
 b_X2_taxOfLikeLines_5 N σ a0 v1 v2 0 0
set_option maxHeartbeats 4000000 in
set_option maxRecDepth 100000 in
theorem t_X2_taxOfLikeLines_48 {l : Launch} {g : PP} {p : Program} {e : Env} {s : State} {m : MethodId} {args : Array Value} {below : List Frame} {meth : Method} {c : Code} (hfl : l.stackTraces = false) (C : Cx g p s m meth c cX2_taxOfLikeLines 6 "Tillhouse$Invoice") (hr : meth.sig.returnType = some .long) (ht : ∀ x ∈ c.exceptionTable.toList, False) {N : Nat} {k5 : Sto × Nat × Int32 × Int32 × Int64 × Int32 → Option ((Nat ⊕ Int64))} {σ : Sto} {sz : Nat} {a0 : Nat} {v1 : Int32} {v2 : Int32} {v3 : Int64} {v5 : Int32} {r9 : Nat ⊕ Int64}
    (h : b_X2_taxOfLikeLines_48 N k5 σ a0 v1 v2 v3 v5 = some r9) (hk5 : ∀ (σ : Sto) (a0 : Nat) (v1 : Int32) (v2 : Int32) (v3 : Int64) (v5 : Int32), k5 (σ, a0, v1, v2, v3, v5) = some r9 → ∀ (H : Heap) (locs : List Loc) (ls : Array Slot), HS g s σ sz H locs → lv_has ls 6 [(0, .ref a0), (1, .int v1), (2, .int v2), (3, .long v3), (5, .int v5)] → W p l e (rmk 9 (cX r9) (cY r9) 177) s m args below meth c H locs 0 0 (vx_MQ below (PstX g (Sum.map id vL r9) σ sz) (XpX g (Sum.map id vL r9) σ sz) args s (cX r9) (cY r9) (Aw g)) (F0 m 5 ls []))
    {H : Heap} {locs : List Loc} {ls : Array Slot} (hs : HS g s σ sz H locs) (hl : lv_has ls 6 [(0, .ref a0), (1, .int v1), (2, .int v2), (3, .long v3), (5, .int v5)]) : W p l e (rmk 9 (cX r9) (cY r9) 177) s m args below meth c H locs 0 0 (vx_MQ below (PstX g (Sum.map id vL r9) σ sz) (XpX g (Sum.map id vL r9) σ sz) args s (cX r9) (cY r9) (Aw g)) (F0 m 48 ls []) := by
  unfold b_X2_taxOfLikeLines_48 at h
  replace h := ol h; obtain ⟨x1, ex1, h⟩ := h
  refine lv_iinc (v := x1) (lv' := [(5, .int x1), (0, .ref a0), (1, .int v1), (2, .int v2), (3, .long v3)]) C.1 C.2.1 dX2_taxOfLikeLines_48 hl (k := 4) rfl (by rw [ex1]; rfl) (by decide) rfl (fun ls hl => ?_)
  refine lv_goto (tgt := 5) C.1 C.2.1 dX2_taxOfLikeLines_51 (by decide) ?_
  exact hk5 σ a0 v1 v2 v3 x1 h _ _ _ hs (lv_sub hl [1, 2, 3, 4, 0] rfl)
set_option maxHeartbeats 4000000 in
set_option maxRecDepth 100000 in
theorem tb_X2_taxOfLikeLines_5 {l : Launch} {g : PP} {p : Program} {e : Env} {s : State} {m : MethodId} {args : Array Value} {below : List Frame} {meth : Method} {c : Code} (hfl : l.stackTraces = false) (C : Cx g p s m meth c cX2_taxOfLikeLines 6 "Tillhouse$Invoice") (hr : meth.sig.returnType = some .long) (ht : ∀ x ∈ c.exceptionTable.toList, False) {N : Nat}  {k5 : Sto × Nat × Int32 × Int32 × Int64 × Int32 → Option ((Nat ⊕ Int64))} {σ : Sto} {sz : Nat} {a0 : Nat} {v1 : Int32} {v2 : Int32} {v3 : Int64} {v5 : Int32} {r9 : Nat ⊕ Int64}
    (h : b_X2_taxOfLikeLines_5_body N k5 σ a0 v1 v2 v3 v5 = some r9)  (hk5 : ∀ (σ : Sto) (a0 : Nat) (v1 : Int32) (v2 : Int32) (v3 : Int64) (v5 : Int32), k5 (σ, a0, v1, v2, v3, v5) = some r9 → ∀ (H : Heap) (locs : List Loc) (ls : Array Slot), HS g s σ sz H locs → lv_has ls 6 [(0, .ref a0), (1, .int v1), (2, .int v2), (3, .long v3), (5, .int v5)] → W p l e (rmk 9 (cX r9) (cY r9) 177) s m args below meth c H locs 0 0 (vx_MQ below (PstX g (Sum.map id vL r9) σ sz) (XpX g (Sum.map id vL r9) σ sz) args s (cX r9) (cY r9) (Aw g)) (F0 m 5 ls []))
    {H : Heap} {locs : List Loc} {ls : Array Slot} (hs : HS g s σ sz H locs) (hl : lv_has ls 6 [(0, .ref a0), (1, .int v1), (2, .int v2), (3, .long v3), (5, .int v5)]) : W p l e (rmk 9 (cX r9) (cY r9) 177) s m args below meth c H locs 0 0 (vx_MQ below (PstX g (Sum.map id vL r9) σ sz) (XpX g (Sum.map id vL r9) σ sz) args s (cX r9) (cY r9) (Aw g)) (F0 m 5 ls []) := by
  unfold b_X2_taxOfLikeLines_5_body at h
  refine lv_iload C.1 C.2.1 dX2_taxOfLikeLines_5 (lv_at hl 4 rfl) ?_
  refine lv_aload_n C.1 C.2.1 dX2_taxOfLikeLines_7 rfl (lv_at hl 0 rfl) ?_
  replace h := ob h; obtain ⟨x1, ex1, h⟩ := h
  refine sx_getV C hs fo_X2_7 (gI_v ex1) dX2_taxOfLikeLines_8 ?_
  refine lv_icmp_ge (tgt := 54) C.1 C.2.1 dX2_taxOfLikeLines_11 (by decide) (fun c2 => ?_) (fun c2 => ?_)
  · replace h := ip c2 h
    refine lv_lload_n C.1 C.2.1 dX2_taxOfLikeLines_54 rfl (lv_at hl 3 rfl) ?_
    refine lv_aload_n C.1 C.2.1 dX2_taxOfLikeLines_55 rfl (lv_at hl 0 rfl) ?_
    replace h := ob h; obtain ⟨p3, ep3, h⟩ := h
    refine sx_getV C hs fo_X2_17 (gR_v ep3) dX2_taxOfLikeLines_56 ?_
    refine lv_iload_n C.1 C.2.1 dX2_taxOfLikeLines_59 rfl (lv_at hl 1 rfl) ?_
    replace h := ob h; obtain ⟨x4, ex4, h⟩ := h
    refine sx_iald C hs ex4 dX2_taxOfLikeLines_60 ?_
    refine lv_ldc2 (v := 10000000000) C.1 C.2.1 C.2.2.2.1 (C.2.2.2.2.1.1 _ q1130 _) dX2_taxOfLikeLines_61 ?_
    refine lv_iload_n C.1 C.2.1 dX2_taxOfLikeLines_64 rfl (lv_at hl 2 rfl) ?_
    replace h := ob h; obtain ⟨u6, ex5, h⟩ := h
    rcases u6 with j7 | x5
    · replace h := bsl h
      cases h
      refine sx_xcallS (As := [.long v3, .int x4, .long 10000000000, .int v2]) (rest := []) C hs (c_X6_partOf hfl ex5) mo_X6_partOf q1125 rfl hl.1 ⟨⟨(Nat.le_of_ble_eq_true rfl), (Nat.le_of_ble_eq_true rfl)⟩, (Nat.le_of_ble_eq_true rfl), (Nat.le_of_ble_eq_true rfl)⟩ rfl (Nat.le_of_ble_eq_true rfl) dX2_taxOfLikeLines_65 (fun k9 hk9 ce q9 H locs a1 a2 a3 a4 a5 a6 => ?_) (fun vr hv => (inlr hv).elim)
      obtain rfl := Sum.inl.inj hk9
      exact sx_out C ht a1 a2 a3 a4 a5 a6 (Nat.le_of_ble_eq_true rfl) (Nat.le_of_ble_eq_true rfl)
    · replace h := bsr h
      refine sx_xcallS (As := [.long v3, .int x4, .long 10000000000, .int v2]) (rest := []) C hs (c_X6_partOf hfl ex5) mo_X6_partOf q1125 rfl hl.1 ⟨⟨(Nat.le_of_ble_eq_true rfl), (Nat.le_of_ble_eq_true rfl)⟩, (Nat.le_of_ble_eq_true rfl), (Nat.le_of_ble_eq_true rfl)⟩ rfl (Nat.le_of_ble_eq_true rfl) dX2_taxOfLikeLines_65 (fun k9 hk9 => (inrl hk9).elim) (fun vr hv H locs hs => ?_)
      obtain rfl := Sum.inr.inj hv
      refine W.eq (g2 := F0 m 68 ls [.long x5]) rfl ?_
      refine W.widen (k := 0) (n := 0) (Nat.le_of_ble_eq_true rfl) (Nat.le_of_ble_eq_true rfl) ?_
      cases h
      exact sx_lretX C hs hr dX2_taxOfLikeLines_68
  · replace h := iN c2 h
    refine lv_aload_n C.1 C.2.1 dX2_taxOfLikeLines_14 rfl (lv_at hl 0 rfl) ?_
    replace h := ob h; obtain ⟨p8, ep8, h⟩ := h
    refine sx_getV C hs fo_X2_17 (gR_v ep8) dX2_taxOfLikeLines_15 ?_
    refine lv_iload C.1 C.2.1 dX2_taxOfLikeLines_18 (lv_at hl 4 rfl) ?_
    replace h := ob h; obtain ⟨x9, ex9, h⟩ := h
    refine sx_iald C hs ex9 dX2_taxOfLikeLines_20 ?_
    refine lv_aload_n C.1 C.2.1 dX2_taxOfLikeLines_21 rfl (lv_at hl 0 rfl) ?_
    replace h := ob h; obtain ⟨p10, ep10, h⟩ := h
    refine sx_getV C hs fo_X2_17 (gR_v ep10) dX2_taxOfLikeLines_22 ?_
    refine lv_iload_n C.1 C.2.1 dX2_taxOfLikeLines_25 rfl (lv_at hl 1 rfl) ?_
    replace h := ob h; obtain ⟨x11, ex11, h⟩ := h
    refine sx_iald C hs ex11 dX2_taxOfLikeLines_26 ?_
    refine lv_icmp_ne (tgt := 48) C.1 C.2.1 dX2_taxOfLikeLines_27 (by decide) (fun c12 => ?_) (fun c12 => ?_)
    · replace h := iN c12 h
      exact t_X2_taxOfLikeLines_48 hfl C hr ht h hk5 hs (lv_sub hl [0, 1, 2, 3, 4] rfl)
    · replace h := ip c12 h
      refine lv_iload C.1 C.2.1 dX2_taxOfLikeLines_30 (lv_at hl 4 rfl) ?_
      refine lv_iload_n C.1 C.2.1 dX2_taxOfLikeLines_32 rfl (lv_at hl 1 rfl) ?_
      refine lv_icmp_ge (tgt := 38) C.1 C.2.1 dX2_taxOfLikeLines_33 (by decide) (fun c13 => ?_) (fun c13 => ?_)
      · replace h := ip c13 h
        refine lv_lload_n C.1 C.2.1 dX2_taxOfLikeLines_38 rfl (lv_at hl 3 rfl) ?_
        refine lv_aload_n C.1 C.2.1 dX2_taxOfLikeLines_39 rfl (lv_at hl 0 rfl) ?_
        replace h := ob h; obtain ⟨p14, ep14, h⟩ := h
        refine sx_getV C hs fo_X2_13 (gR_v ep14) dX2_taxOfLikeLines_40 ?_
        refine lv_iload C.1 C.2.1 dX2_taxOfLikeLines_43 (lv_at hl 4 rfl) ?_
        replace h := ob h; obtain ⟨x15, ex15, h⟩ := h
        refine sx_lald C hs ex15 dX2_taxOfLikeLines_45 ?_
        refine lv_ladd C.1 C.2.1 dX2_taxOfLikeLines_46 ?_
        replace h := ol h; obtain ⟨x16, ex16, h⟩ := h
        refine sx_nmL ex16 ?_
        refine lv_lstore_n (lv' := [(3, .long x16), (0, .ref a0), (1, .int v1), (2, .int v2), (5, .int v5)]) C.1 C.2.1 dX2_taxOfLikeLines_47 rfl hl (by decide) rfl (fun ls hl => ?_)
        exact t_X2_taxOfLikeLines_48 hfl C hr ht h hk5 hs (lv_sub hl [1, 2, 3, 0, 4] rfl)
      · replace h := iN c13 h
        refine lv_lconst (v := 0) C.1 C.2.1 dX2_taxOfLikeLines_36 (by decide) ?_
        cases h
        exact sx_lretX C hs hr dX2_taxOfLikeLines_37
set_option maxHeartbeats 4000000 in
set_option maxRecDepth 100000 in
theorem tl_X2_taxOfLikeLines_5 {l : Launch} {g : PP} {p : Program} {e : Env} {s : State} {m : MethodId} {args : Array Value} {below : List Frame} {meth : Method} {c : Code} (hfl : l.stackTraces = false) (C : Cx g p s m meth c cX2_taxOfLikeLines 6 "Tillhouse$Invoice") (hr : meth.sig.returnType = some .long) (ht : ∀ x ∈ c.exceptionTable.toList, False) {N : Nat}   {sz : Nat} {r9 : Nat ⊕ Int64}  : ∀ (n : Nat) (σ : Sto) (a0 : Nat) (v1 : Int32) (v2 : Int32) (v3 : Int64) (v5 : Int32), lp (fun k e => b_X2_taxOfLikeLines_5_body N k e.1 e.2.1 e.2.2.1 e.2.2.2.1 e.2.2.2.2.1 e.2.2.2.2.2) n (σ, a0, v1, v2, v3, v5) = some r9 → ∀ (H : Heap) (locs : List Loc) (ls : Array Slot), HS g s σ sz H locs → lv_has ls 6 [(0, .ref a0), (1, .int v1), (2, .int v2), (3, .long v3), (5, .int v5)] → W p l e (rmk 9 (cX r9) (cY r9) 177) s m args below meth c H locs 0 0 (vx_MQ below (PstX g (Sum.map id vL r9) σ sz) (XpX g (Sum.map id vL r9) σ sz) args s (cX r9) (cY r9) (Aw g)) (F0 m 5 ls []) := by
  intro n
  induction n with
  | zero => intro σ a0 v1 v2 v3 v5 h; exact absurd h (fun q => nomatch q)
  | succ n ih =>
    intro σ a0 v1 v2 v3 v5 h H locs ls hs hl
    exact tb_X2_taxOfLikeLines_5 (N := N) hfl C hr ht h (fun σ a0 v1 v2 v3 v5 h H locs ls hs hl => ih σ a0 v1 v2 v3 v5 h H locs ls hs hl) hs hl
set_option maxHeartbeats 4000000 in
set_option maxRecDepth 100000 in
theorem t_X2_taxOfLikeLines_5 {l : Launch} {g : PP} {p : Program} {e : Env} {s : State} {m : MethodId} {args : Array Value} {below : List Frame} {meth : Method} {c : Code} (hfl : l.stackTraces = false) (C : Cx g p s m meth c cX2_taxOfLikeLines 6 "Tillhouse$Invoice") (hr : meth.sig.returnType = some .long) (ht : ∀ x ∈ c.exceptionTable.toList, False) {N : Nat}  {σ : Sto} {sz : Nat} {a0 : Nat} {v1 : Int32} {v2 : Int32} {v3 : Int64} {v5 : Int32} {r9 : Nat ⊕ Int64}
    (h : b_X2_taxOfLikeLines_5 N σ a0 v1 v2 v3 v5 = some r9) 
    {H : Heap} {locs : List Loc} {ls : Array Slot} (hs : HS g s σ sz H locs) (hl : lv_has ls 6 [(0, .ref a0), (1, .int v1), (2, .int v2), (3, .long v3), (5, .int v5)]) : W p l e (rmk 9 (cX r9) (cY r9) 177) s m args below meth c H locs 0 0 (vx_MQ below (PstX g (Sum.map id vL r9) σ sz) (XpX g (Sum.map id vL r9) σ sz) args s (cX r9) (cY r9) (Aw g)) (F0 m 5 ls []) := tl_X2_taxOfLikeLines_5 hfl C hr ht N σ a0 v1 v2 v3 v5 h H locs ls hs hl
set_option maxHeartbeats 4000000 in
set_option maxRecDepth 100000 in
theorem c_X2_taxOfLikeLines {l : Launch} (hfl : l.stackTraces = false) {g : PP} {N : Nat} {σ : Sto} {sz : Nat} {a0 : Nat} {v1 : Int32} {v2 : Int32} {r9 : Nat ⊕ Int64} (h : f_X2_taxOfLikeLines N σ a0 v1 v2 = some r9) : vx_Met l yX2_taxOfLikeLines [Cond.code yX2_taxOfLikeLines cX2_taxOfLikeLines 6 (some .long)] (rmk 9 (cX r9) (cY r9) 177) (Pre g σ sz [.ref a0, .int v1, .int v2]) (PstX g (Sum.map id vL r9) σ sz) (XpX g (Sum.map id vL r9) σ sz) (cX r9) (cY r9) (Aw g) := by
  refine vx_ofW (cc := cX2_taxOfLikeLines) (maxL := 6) (ret := (some .long)) (by decide) rfl ?_
  intro p e s m args below meth c s₁ B hml ht hv
  obtain ⟨rfl, C, hs⟩ := ctx_of B hml hv
  have C : Cx g p s m meth c cX2_taxOfLikeLines 6 "Tillhouse$Invoice" := C
  have hr := B.returns
  have hl := lv_entry ([.ref a0, .int v1, .int v2]) (n := 6) (Nat.le_of_ble_eq_true rfl)
  rw [lg_entry_eq]
  generalize (lg_sl ([.ref a0, .int v1, .int v2]) ++ List.replicate (6 - (lg_sl ([.ref a0, .int v1, .int v2])).length) Slot.unset).toArray = ls at hl ⊢
  have hl : lv_has ls 6 [(0, .ref a0), (1, .int v1), (2, .int v2)] := hl
  unfold f_X2_taxOfLikeLines at h
  refine lv_lconst (v := 0) C.1 C.2.1 dX2_taxOfLikeLines_0 (by decide) ?_
  refine lv_lstore_n (lv' := [(3, .long 0), (0, .ref a0), (1, .int v1), (2, .int v2)]) C.1 C.2.1 dX2_taxOfLikeLines_1 rfl hl (by decide) rfl (fun ls hl => ?_)
  refine lv_iconst (v := 0) C.1 C.2.1 dX2_taxOfLikeLines_2 (by decide) ?_
  refine lv_istore (lv' := [(5, .int 0), (3, .long 0), (0, .ref a0), (1, .int v1), (2, .int v2)]) C.1 C.2.1 dX2_taxOfLikeLines_3 hl (by decide) rfl (fun ls hl => ?_)
  exact t_X2_taxOfLikeLines_5 hfl C hr ht h hs (lv_sub hl [2, 3, 4, 1, 0] rfl)
def b_X2_taxSum_39 (N : Nat) (k5 : Sto × Nat × Int32 × Int64 × Int32 → Option ((Nat ⊕ Int64))) (σ : Sto) (a0 : Nat) (v1 : Int32) (v4 : Int32) (s0 : Int64) (s1 : Int64) : Option ((Nat ⊕ Int64)) :=
 lt_ (s1 + s0) fun x1 =>
 lt_ (v4 + 1) fun x2 =>
 k5 (σ, a0, v1, x1, x2)
def b_X2_taxSum_5_body (N : Nat) (k5 : Sto × Nat × Int32 × Int64 × Int32 → Option ((Nat ⊕ Int64))) (σ : Sto) (a0 : Nat) (v1 : Int32) (v2 : Int64) (v4 : Int32) : Option ((Nat ⊕ Int64)) :=
 (gI σ a0 2 2).bind fun x1 =>
 if x1 ≤ v4 then
 some (.inr v2)
 else
 (gI σ a0 2 3).bind fun x3 =>
 if x3 = 0 then
 (isO σ a0 2).bind fun _ =>
 (f_X2_taxOfLikeLines N σ a0 v4 v1).bind fun u7 =>
 bs u7 (fun j8 => some (.inl j8)) fun x6 =>
 b_X2_taxSum_39 N k5 σ a0 v1 v4 x6 v2
 else
 (isO σ a0 2).bind fun _ =>
 (f_X2_lineTax σ a0 v4 v1).bind fun u11 =>
 bs u11 (fun j12 => some (.inl j12)) fun x10 =>
 b_X2_taxSum_39 N k5 σ a0 v1 v4 x10 v2
def b_X2_taxSum_5 (N : Nat) (σ : Sto) (a0 : Nat) (v1 : Int32) (v2 : Int64) (v4 : Int32) : Option ((Nat ⊕ Int64)) :=
  lp (fun k e => b_X2_taxSum_5_body N k e.1 e.2.1 e.2.2.1 e.2.2.2.1 e.2.2.2.2) N (σ, a0, v1, v2, v4)
def f_X2_taxSum (N : Nat) (σ : Sto) (a0 : Nat) (v1 : Int32) : Option ((Nat ⊕ Int64)) :=
 b_X2_taxSum_5 N σ a0 v1 0 0
set_option maxHeartbeats 4000000 in
set_option maxRecDepth 100000 in
theorem t_X2_taxSum_39 {l : Launch} {g : PP} {p : Program} {e : Env} {s : State} {m : MethodId} {args : Array Value} {below : List Frame} {meth : Method} {c : Code} (hfl : l.stackTraces = false) (C : Cx g p s m meth c cX2_taxSum 5 "Tillhouse$Invoice") (hr : meth.sig.returnType = some .long) (ht : ∀ x ∈ c.exceptionTable.toList, False) {N : Nat} {k5 : Sto × Nat × Int32 × Int64 × Int32 → Option ((Nat ⊕ Int64))} {σ : Sto} {sz : Nat} {a0 : Nat} {v1 : Int32} {v4 : Int32} {s0 : Int64} {s1 : Int64} {r9 : Nat ⊕ Int64}
    (h : b_X2_taxSum_39 N k5 σ a0 v1 v4 s0 s1 = some r9) (hk5 : ∀ (σ : Sto) (a0 : Nat) (v1 : Int32) (v2 : Int64) (v4 : Int32), k5 (σ, a0, v1, v2, v4) = some r9 → ∀ (H : Heap) (locs : List Loc) (ls : Array Slot), HS g s σ sz H locs → lv_has ls 5 [(0, .ref a0), (1, .int v1), (2, .long v2), (4, .int v4)] → W p l e (rmk 12 (cX r9) (cY r9) 245) s m args below meth c H locs 0 0 (vx_MQ below (PstX g (Sum.map id vL r9) σ sz) (XpX g (Sum.map id vL r9) σ sz) args s (cX r9) (cY r9) (Aw g)) (F0 m 5 ls []))
    {H : Heap} {locs : List Loc} {ls : Array Slot} (hs : HS g s σ sz H locs) (hl : lv_has ls 5 [(0, .ref a0), (1, .int v1), (4, .int v4)]) : W p l e (rmk 12 (cX r9) (cY r9) 245) s m args below meth c H locs 0 0 (vx_MQ below (PstX g (Sum.map id vL r9) σ sz) (XpX g (Sum.map id vL r9) σ sz) args s (cX r9) (cY r9) (Aw g)) (F0 m 39 ls [.long s0, .long s1]) := by
  unfold b_X2_taxSum_39 at h
  refine lv_ladd C.1 C.2.1 dX2_taxSum_39 ?_
  replace h := ol h; obtain ⟨x1, ex1, h⟩ := h
  refine sx_nmL ex1 ?_
  refine lv_lstore_n (lv' := [(2, .long x1), (0, .ref a0), (1, .int v1), (4, .int v4)]) C.1 C.2.1 dX2_taxSum_40 rfl hl (by decide) rfl (fun ls hl => ?_)
  replace h := ol h; obtain ⟨x2, ex2, h⟩ := h
  refine lv_iinc (v := x2) (lv' := [(4, .int x2), (2, .long x1), (0, .ref a0), (1, .int v1)]) C.1 C.2.1 dX2_taxSum_41 hl (k := 3) rfl (by rw [ex2]; rfl) (by decide) rfl (fun ls hl => ?_)
  refine lv_goto (tgt := 5) C.1 C.2.1 dX2_taxSum_44 (by decide) ?_
  exact hk5 σ a0 v1 x1 x2 h _ _ _ hs (lv_sub hl [2, 3, 1, 0] rfl)
set_option maxHeartbeats 4000000 in
set_option maxRecDepth 100000 in
theorem tb_X2_taxSum_5 {l : Launch} {g : PP} {p : Program} {e : Env} {s : State} {m : MethodId} {args : Array Value} {below : List Frame} {meth : Method} {c : Code} (hfl : l.stackTraces = false) (C : Cx g p s m meth c cX2_taxSum 5 "Tillhouse$Invoice") (hr : meth.sig.returnType = some .long) (ht : ∀ x ∈ c.exceptionTable.toList, False) {N : Nat}  {k5 : Sto × Nat × Int32 × Int64 × Int32 → Option ((Nat ⊕ Int64))} {σ : Sto} {sz : Nat} {a0 : Nat} {v1 : Int32} {v2 : Int64} {v4 : Int32} {r9 : Nat ⊕ Int64}
    (h : b_X2_taxSum_5_body N k5 σ a0 v1 v2 v4 = some r9)  (hk5 : ∀ (σ : Sto) (a0 : Nat) (v1 : Int32) (v2 : Int64) (v4 : Int32), k5 (σ, a0, v1, v2, v4) = some r9 → ∀ (H : Heap) (locs : List Loc) (ls : Array Slot), HS g s σ sz H locs → lv_has ls 5 [(0, .ref a0), (1, .int v1), (2, .long v2), (4, .int v4)] → W p l e (rmk 12 (cX r9) (cY r9) 245) s m args below meth c H locs 0 0 (vx_MQ below (PstX g (Sum.map id vL r9) σ sz) (XpX g (Sum.map id vL r9) σ sz) args s (cX r9) (cY r9) (Aw g)) (F0 m 5 ls []))
    {H : Heap} {locs : List Loc} {ls : Array Slot} (hs : HS g s σ sz H locs) (hl : lv_has ls 5 [(0, .ref a0), (1, .int v1), (2, .long v2), (4, .int v4)]) : W p l e (rmk 12 (cX r9) (cY r9) 245) s m args below meth c H locs 0 0 (vx_MQ below (PstX g (Sum.map id vL r9) σ sz) (XpX g (Sum.map id vL r9) σ sz) args s (cX r9) (cY r9) (Aw g)) (F0 m 5 ls []) := by
  unfold b_X2_taxSum_5_body at h
  refine lv_iload C.1 C.2.1 dX2_taxSum_5 (lv_at hl 3 rfl) ?_
  refine lv_aload_n C.1 C.2.1 dX2_taxSum_7 rfl (lv_at hl 0 rfl) ?_
  replace h := ob h; obtain ⟨x1, ex1, h⟩ := h
  refine sx_getV C hs fo_X2_7 (gI_v ex1) dX2_taxSum_8 ?_
  refine lv_icmp_ge (tgt := 47) C.1 C.2.1 dX2_taxSum_11 (by decide) (fun c2 => ?_) (fun c2 => ?_)
  · replace h := ip c2 h
    refine lv_lload_n C.1 C.2.1 dX2_taxSum_47 rfl (lv_at hl 2 rfl) ?_
    cases h
    exact sx_lretX C hs hr dX2_taxSum_48
  · replace h := iN c2 h
    refine lv_lload_n C.1 C.2.1 dX2_taxSum_14 rfl (lv_at hl 2 rfl) ?_
    refine lv_aload_n C.1 C.2.1 dX2_taxSum_15 rfl (lv_at hl 0 rfl) ?_
    replace h := ob h; obtain ⟨x3, ex3, h⟩ := h
    refine sx_getV C hs fo_X2_27 (gI_v ex3) dX2_taxSum_16 ?_
    refine lv_if_eq (tgt := 32) C.1 C.2.1 dX2_taxSum_19 (by decide) (fun c4 => ?_) (fun c4 => ?_)
    · replace h := ip c4 h
      refine lv_aload_n C.1 C.2.1 dX2_taxSum_32 rfl (lv_at hl 0 rfl) ?_
      refine lv_iload C.1 C.2.1 dX2_taxSum_33 (lv_at hl 3 rfl) ?_
      refine lv_iload_n C.1 C.2.1 dX2_taxSum_35 rfl (lv_at hl 1 rfl) ?_
      replace h := ob h; obtain ⟨⟨⟩, i5, h⟩ := h
      replace h := ob h; obtain ⟨u7, ex6, h⟩ := h
      rcases u7 with j8 | x6
      · replace h := bsl h
        cases h
        refine sx_xcallV (As := [.int v4, .int v1]) (rest := [.long v2]) C hs (c_X2_taxOfLikeLines hfl ex6) mo_X2_taxOfLikeLines q1126 i5 rfl rfl hl.1 ⟨⟨(Nat.le_of_ble_eq_true rfl), (Nat.le_of_ble_eq_true rfl)⟩, (Nat.le_of_ble_eq_true rfl), (Nat.le_of_ble_eq_true rfl)⟩ rfl (Nat.le_of_ble_eq_true rfl) dX2_taxSum_36 (fun k9 hk9 ce q9 H locs a1 a2 a3 a4 a5 a6 => ?_) (fun vr hv => (inlr hv).elim)
        obtain rfl := Sum.inl.inj hk9
        exact sx_out C ht a1 a2 a3 a4 a5 a6 (Nat.le_of_ble_eq_true rfl) (Nat.le_of_ble_eq_true rfl)
      · replace h := bsr h
        refine sx_xcallV (As := [.int v4, .int v1]) (rest := [.long v2]) C hs (c_X2_taxOfLikeLines hfl ex6) mo_X2_taxOfLikeLines q1126 i5 rfl rfl hl.1 ⟨⟨(Nat.le_of_ble_eq_true rfl), (Nat.le_of_ble_eq_true rfl)⟩, (Nat.le_of_ble_eq_true rfl), (Nat.le_of_ble_eq_true rfl)⟩ rfl (Nat.le_of_ble_eq_true rfl) dX2_taxSum_36 (fun k9 hk9 => (inrl hk9).elim) (fun vr hv H locs hs => ?_)
        obtain rfl := Sum.inr.inj hv
        refine W.eq (g2 := F0 m 39 ls [.long x6, .long v2]) rfl ?_
        refine W.widen (k := 0) (n := 0) (Nat.le_of_ble_eq_true rfl) (Nat.le_of_ble_eq_true rfl) ?_
        exact t_X2_taxSum_39 hfl C hr ht h hk5 hs (lv_sub hl [0, 1, 3] rfl)
    · replace h := iN c4 h
      refine lv_aload_n C.1 C.2.1 dX2_taxSum_22 rfl (lv_at hl 0 rfl) ?_
      refine lv_iload C.1 C.2.1 dX2_taxSum_23 (lv_at hl 3 rfl) ?_
      refine lv_iload_n C.1 C.2.1 dX2_taxSum_25 rfl (lv_at hl 1 rfl) ?_
      replace h := ob h; obtain ⟨⟨⟩, i9, h⟩ := h
      replace h := ob h; obtain ⟨u11, ex10, h⟩ := h
      rcases u11 with j12 | x10
      · replace h := bsl h
        cases h
        refine sx_xcallV (As := [.int v4, .int v1]) (rest := [.long v2]) C hs (c_X2_lineTax hfl ex10) mo_X2_lineTax q1120 i9 rfl rfl hl.1 ⟨⟨(Nat.le_of_ble_eq_true rfl), (Nat.le_of_ble_eq_true rfl)⟩, (Nat.le_of_ble_eq_true rfl), (Nat.le_of_ble_eq_true rfl)⟩ rfl (Nat.le_of_ble_eq_true rfl) dX2_taxSum_26 (fun k9 hk9 ce q9 H locs a1 a2 a3 a4 a5 a6 => ?_) (fun vr hv => (inlr hv).elim)
        obtain rfl := Sum.inl.inj hk9
        exact sx_out C ht a1 a2 a3 a4 a5 a6 (Nat.le_of_ble_eq_true rfl) (Nat.le_of_ble_eq_true rfl)
      · replace h := bsr h
        refine sx_xcallV (As := [.int v4, .int v1]) (rest := [.long v2]) C hs (c_X2_lineTax hfl ex10) mo_X2_lineTax q1120 i9 rfl rfl hl.1 ⟨⟨(Nat.le_of_ble_eq_true rfl), (Nat.le_of_ble_eq_true rfl)⟩, (Nat.le_of_ble_eq_true rfl), (Nat.le_of_ble_eq_true rfl)⟩ rfl (Nat.le_of_ble_eq_true rfl) dX2_taxSum_26 (fun k9 hk9 => (inrl hk9).elim) (fun vr hv H locs hs => ?_)
        obtain rfl := Sum.inr.inj hv
        refine W.eq (g2 := F0 m 29 ls [.long x10, .long v2]) rfl ?_
        refine W.widen (k := 0) (n := 0) (Nat.le_of_ble_eq_true rfl) (Nat.le_of_ble_eq_true rfl) ?_
        refine lv_goto (tgt := 39) C.1 C.2.1 dX2_taxSum_29 (by decide) ?_
        exact t_X2_taxSum_39 hfl C hr ht h hk5 hs (lv_sub hl [0, 1, 3] rfl)
set_option maxHeartbeats 4000000 in
set_option maxRecDepth 100000 in
theorem tl_X2_taxSum_5 {l : Launch} {g : PP} {p : Program} {e : Env} {s : State} {m : MethodId} {args : Array Value} {below : List Frame} {meth : Method} {c : Code} (hfl : l.stackTraces = false) (C : Cx g p s m meth c cX2_taxSum 5 "Tillhouse$Invoice") (hr : meth.sig.returnType = some .long) (ht : ∀ x ∈ c.exceptionTable.toList, False) {N : Nat}   {sz : Nat} {r9 : Nat ⊕ Int64}  : ∀ (n : Nat) (σ : Sto) (a0 : Nat) (v1 : Int32) (v2 : Int64) (v4 : Int32), lp (fun k e => b_X2_taxSum_5_body N k e.1 e.2.1 e.2.2.1 e.2.2.2.1 e.2.2.2.2) n (σ, a0, v1, v2, v4) = some r9 → ∀ (H : Heap) (locs : List Loc) (ls : Array Slot), HS g s σ sz H locs → lv_has ls 5 [(0, .ref a0), (1, .int v1), (2, .long v2), (4, .int v4)] → W p l e (rmk 12 (cX r9) (cY r9) 245) s m args below meth c H locs 0 0 (vx_MQ below (PstX g (Sum.map id vL r9) σ sz) (XpX g (Sum.map id vL r9) σ sz) args s (cX r9) (cY r9) (Aw g)) (F0 m 5 ls []) := by
  intro n
  induction n with
  | zero => intro σ a0 v1 v2 v4 h; exact absurd h (fun q => nomatch q)
  | succ n ih =>
    intro σ a0 v1 v2 v4 h H locs ls hs hl
    exact tb_X2_taxSum_5 (N := N) hfl C hr ht h (fun σ a0 v1 v2 v4 h H locs ls hs hl => ih σ a0 v1 v2 v4 h H locs ls hs hl) hs hl
set_option maxHeartbeats 4000000 in
set_option maxRecDepth 100000 in
theorem t_X2_taxSum_5 {l : Launch} {g : PP} {p : Program} {e : Env} {s : State} {m : MethodId} {args : Array Value} {below : List Frame} {meth : Method} {c : Code} (hfl : l.stackTraces = false) (C : Cx g p s m meth c cX2_taxSum 5 "Tillhouse$Invoice") (hr : meth.sig.returnType = some .long) (ht : ∀ x ∈ c.exceptionTable.toList, False) {N : Nat}  {σ : Sto} {sz : Nat} {a0 : Nat} {v1 : Int32} {v2 : Int64} {v4 : Int32} {r9 : Nat ⊕ Int64}
    (h : b_X2_taxSum_5 N σ a0 v1 v2 v4 = some r9) 
    {H : Heap} {locs : List Loc} {ls : Array Slot} (hs : HS g s σ sz H locs) (hl : lv_has ls 5 [(0, .ref a0), (1, .int v1), (2, .long v2), (4, .int v4)]) : W p l e (rmk 12 (cX r9) (cY r9) 245) s m args below meth c H locs 0 0 (vx_MQ below (PstX g (Sum.map id vL r9) σ sz) (XpX g (Sum.map id vL r9) σ sz) args s (cX r9) (cY r9) (Aw g)) (F0 m 5 ls []) := tl_X2_taxSum_5 hfl C hr ht N σ a0 v1 v2 v4 h H locs ls hs hl
set_option maxHeartbeats 4000000 in
set_option maxRecDepth 100000 in
theorem c_X2_taxSum {l : Launch} (hfl : l.stackTraces = false) {g : PP} {N : Nat} {σ : Sto} {sz : Nat} {a0 : Nat} {v1 : Int32} {r9 : Nat ⊕ Int64} (h : f_X2_taxSum N σ a0 v1 = some r9) : vx_Met l yX2_taxSum [Cond.code yX2_taxSum cX2_taxSum 5 (some .long)] (rmk 12 (cX r9) (cY r9) 245) (Pre g σ sz [.ref a0, .int v1]) (PstX g (Sum.map id vL r9) σ sz) (XpX g (Sum.map id vL r9) σ sz) (cX r9) (cY r9) (Aw g) := by
  refine vx_ofW (cc := cX2_taxSum) (maxL := 5) (ret := (some .long)) (by decide) rfl ?_
  intro p e s m args below meth c s₁ B hml ht hv
  obtain ⟨rfl, C, hs⟩ := ctx_of B hml hv
  have C : Cx g p s m meth c cX2_taxSum 5 "Tillhouse$Invoice" := C
  have hr := B.returns
  have hl := lv_entry ([.ref a0, .int v1]) (n := 5) (Nat.le_of_ble_eq_true rfl)
  rw [lg_entry_eq]
  generalize (lg_sl ([.ref a0, .int v1]) ++ List.replicate (5 - (lg_sl ([.ref a0, .int v1])).length) Slot.unset).toArray = ls at hl ⊢
  have hl : lv_has ls 5 [(0, .ref a0), (1, .int v1)] := hl
  unfold f_X2_taxSum at h
  refine lv_lconst (v := 0) C.1 C.2.1 dX2_taxSum_0 (by decide) ?_
  refine lv_lstore_n (lv' := [(2, .long 0), (0, .ref a0), (1, .int v1)]) C.1 C.2.1 dX2_taxSum_1 rfl hl (by decide) rfl (fun ls hl => ?_)
  refine lv_iconst (v := 0) C.1 C.2.1 dX2_taxSum_2 (by decide) ?_
  refine lv_istore (lv' := [(4, .int 0), (2, .long 0), (0, .ref a0), (1, .int v1)]) C.1 C.2.1 dX2_taxSum_3 hl (by decide) rfl (fun ls hl => ?_)
  exact t_X2_taxSum_5 hfl C hr ht h hs (lv_sub hl [2, 3, 1, 0] rfl)
def f_X3_init (σ : Sto) (sz : Nat) (a0 : Nat) : Option (Unit × Sto × Nat) :=
 lt_ (nA σ sz 1 200 z1) fun τ1 =>
 (pF τ1 a0 3 0 (.ref sz)).bind fun τ2 =>
 lt_ (nA τ2 (sz + 1) 1 200 z1) fun τ3 =>
 (pF τ3 a0 3 1 (.ref (sz + 1))).bind fun τ4 =>
 lt_ (nA τ4 (sz + 2) 2 200 z2) fun τ5 =>
 (pF τ5 a0 3 2 (.ref (sz + 2))).bind fun τ6 =>
 lt_ (nA τ6 (sz + 3) 1 200 z1) fun τ7 =>
 (pF τ7 a0 3 3 (.ref (sz + 3))).bind fun τ8 =>
 (pF τ8 a0 3 4 (.int 0)).bind fun τ9 =>
 lt_ (nA τ9 (sz + 4) 1 220 z1) fun τ10 =>
 (pF τ10 a0 3 5 (.ref (sz + 4))).bind fun τ11 =>
 lt_ (nA τ11 (sz + 5) 1 220 z1) fun τ12 =>
 (pF τ12 a0 3 6 (.ref (sz + 5))).bind fun τ13 =>
 lt_ (nA τ13 (sz + 6) 1 220 z1) fun τ14 =>
 (pF τ14 a0 3 7 (.ref (sz + 6))).bind fun τ15 =>
 (pF τ15 a0 3 8 (.int 0)).bind fun τ16 =>
 (pF τ16 a0 3 9 (.int (-1))).bind fun τ17 =>
 some ((), τ17, sz + 7)
set_option maxHeartbeats 4000000 in
set_option maxRecDepth 100000 in
theorem c_X3_init {l : Launch} {g : PP} {σ : Sto} {sz : Nat} {a0 : Nat} {r9 : Unit} {σ9 : Sto} {sz9 : Nat} (h : f_X3_init σ sz a0 = some (r9, σ9, sz9)) : Met l yX3_init [Cond.code yX3_init cX3_init 1 none] (rmk 1 7 1460 20) (Pre g σ sz [.ref a0]) (Pst g (vV r9) σ9 sz9) 7 1460 (Aw g) := by
  refine Met.ofW (cc := cX3_init) (maxL := 1) (ret := none) (by decide) rfl ?_
  intro p e s m args below meth c s₁ B hml hv
  obtain ⟨rfl, C, hs⟩ := ctx_of B hml hv
  have C : Cx g p s m meth c cX3_init 1 "Tillhouse$Ledger" := C
  have hr := B.returns
  have hin : meth.name = "<init>" := (name_of_methodNamed B.named B.method).1
  have hl := lv_entry ([.ref a0]) (n := 1) (Nat.le_of_ble_eq_true rfl)
  rw [lg_entry_eq]
  generalize (lg_sl ([.ref a0]) ++ List.replicate (1 - (lg_sl ([.ref a0])).length) Slot.unset).toArray = ls at hl ⊢
  have hl : lv_has ls 1 [(0, .ref a0)] := hl
  unfold f_X3_init at h
  refine lv_aload_n C.1 C.2.1 dX3_init_0 rfl (lv_at hl 0 rfl) ?_
  refine sx_objInit C hl q178 qobj1 qobj2 dX3_init_1 (Nat.le_of_ble_eq_true rfl) (Nat.le_of_ble_eq_true rfl) ?_
  refine lv_aload_n C.1 C.2.1 dX3_init_4 rfl (lv_at hl 0 rfl) ?_
  refine lv_sipush (v := 200) C.1 C.2.1 dX3_init_5 (by decide) ?_
  replace h := ol h; obtain ⟨τ1, eτ1, h⟩ := h
  refine sx_newa (atype := .int) (k := 1) (N := 200) (f := z1) C hs (by decide) rfl q145 (fun _ => rfl) (by decide) (by decide +kernel) (Nat.le_of_ble_eq_true rfl) (Nat.le_of_ble_eq_true rfl) (Nat.le_of_ble_eq_true rfl) dX3_init_8 (fun H hs => ?_)
  replace hs := HS.nm eτ1 hs
  replace h := ob h; obtain ⟨τ2, eτ2, h⟩ := h
  refine sx_putF C hs fi_X3_11 hin rfl rfl eτ2 dX3_init_10 (fun H locs hs => ?_)
  refine lv_aload_n C.1 C.2.1 dX3_init_13 rfl (lv_at hl 0 rfl) ?_
  refine lv_sipush (v := 200) C.1 C.2.1 dX3_init_14 (by decide) ?_
  replace h := ol h; obtain ⟨τ3, eτ3, h⟩ := h
  refine sx_newa (atype := .int) (k := 1) (N := 200) (f := z1) C hs (by decide) rfl q145 (fun _ => rfl) (by decide) (by decide +kernel) (Nat.le_of_ble_eq_true rfl) (Nat.le_of_ble_eq_true rfl) (Nat.le_of_ble_eq_true rfl) dX3_init_17 (fun H hs => ?_)
  replace hs := HS.nm eτ3 hs
  replace h := ob h; obtain ⟨τ4, eτ4, h⟩ := h
  refine sx_putF C hs fi_X3_15 hin rfl rfl eτ4 dX3_init_19 (fun H locs hs => ?_)
  refine lv_aload_n C.1 C.2.1 dX3_init_22 rfl (lv_at hl 0 rfl) ?_
  refine lv_sipush (v := 200) C.1 C.2.1 dX3_init_23 (by decide) ?_
  replace h := ol h; obtain ⟨τ5, eτ5, h⟩ := h
  refine sx_newa (atype := .long) (k := 2) (N := 200) (f := z2) C hs (by decide) rfl q146 (fun _ => rfl) (by decide) (by decide +kernel) (Nat.le_of_ble_eq_true rfl) (Nat.le_of_ble_eq_true rfl) (Nat.le_of_ble_eq_true rfl) dX3_init_26 (fun H hs => ?_)
  replace hs := HS.nm eτ5 hs
  replace h := ob h; obtain ⟨τ6, eτ6, h⟩ := h
  refine sx_putF C hs fi_X3_18 hin rfl rfl eτ6 dX3_init_28 (fun H locs hs => ?_)
  refine lv_aload_n C.1 C.2.1 dX3_init_31 rfl (lv_at hl 0 rfl) ?_
  refine lv_sipush (v := 200) C.1 C.2.1 dX3_init_32 (by decide) ?_
  replace h := ol h; obtain ⟨τ7, eτ7, h⟩ := h
  refine sx_newa (atype := .int) (k := 1) (N := 200) (f := z1) C hs (by decide) rfl q145 (fun _ => rfl) (by decide) (by decide +kernel) (Nat.le_of_ble_eq_true rfl) (Nat.le_of_ble_eq_true rfl) (Nat.le_of_ble_eq_true rfl) dX3_init_35 (fun H hs => ?_)
  replace hs := HS.nm eτ7 hs
  replace h := ob h; obtain ⟨τ8, eτ8, h⟩ := h
  refine sx_putF C hs fi_X3_22 hin rfl rfl eτ8 dX3_init_37 (fun H locs hs => ?_)
  refine lv_aload_n C.1 C.2.1 dX3_init_40 rfl (lv_at hl 0 rfl) ?_
  refine lv_iconst (v := 0) C.1 C.2.1 dX3_init_41 (by decide) ?_
  replace h := ob h; obtain ⟨τ9, eτ9, h⟩ := h
  refine sx_put C hs fp_X3_25 rfl rfl eτ9 dX3_init_42 (fun H locs hs => ?_)
  refine lv_aload_n C.1 C.2.1 dX3_init_45 rfl (lv_at hl 0 rfl) ?_
  refine lv_sipush (v := 220) C.1 C.2.1 dX3_init_46 (by decide) ?_
  replace h := ol h; obtain ⟨τ10, eτ10, h⟩ := h
  refine sx_newa (atype := .int) (k := 1) (N := 220) (f := z1) C hs (by decide) rfl q145 (fun _ => rfl) (by decide) (by decide +kernel) (Nat.le_of_ble_eq_true rfl) (Nat.le_of_ble_eq_true rfl) (Nat.le_of_ble_eq_true rfl) dX3_init_49 (fun H hs => ?_)
  replace hs := HS.nm eτ10 hs
  replace h := ob h; obtain ⟨τ11, eτ11, h⟩ := h
  refine sx_putF C hs fi_X3_29 hin rfl rfl eτ11 dX3_init_51 (fun H locs hs => ?_)
  refine lv_aload_n C.1 C.2.1 dX3_init_54 rfl (lv_at hl 0 rfl) ?_
  refine lv_sipush (v := 220) C.1 C.2.1 dX3_init_55 (by decide) ?_
  replace h := ol h; obtain ⟨τ12, eτ12, h⟩ := h
  refine sx_newa (atype := .int) (k := 1) (N := 220) (f := z1) C hs (by decide) rfl q145 (fun _ => rfl) (by decide) (by decide +kernel) (Nat.le_of_ble_eq_true rfl) (Nat.le_of_ble_eq_true rfl) (Nat.le_of_ble_eq_true rfl) dX3_init_58 (fun H hs => ?_)
  replace hs := HS.nm eτ12 hs
  replace h := ob h; obtain ⟨τ13, eτ13, h⟩ := h
  refine sx_putF C hs fi_X3_32 hin rfl rfl eτ13 dX3_init_60 (fun H locs hs => ?_)
  refine lv_aload_n C.1 C.2.1 dX3_init_63 rfl (lv_at hl 0 rfl) ?_
  refine lv_sipush (v := 220) C.1 C.2.1 dX3_init_64 (by decide) ?_
  replace h := ol h; obtain ⟨τ14, eτ14, h⟩ := h
  refine sx_newa (atype := .int) (k := 1) (N := 220) (f := z1) C hs (by decide) rfl q145 (fun _ => rfl) (by decide) (by decide +kernel) (Nat.le_of_ble_eq_true rfl) (Nat.le_of_ble_eq_true rfl) (Nat.le_of_ble_eq_true rfl) dX3_init_67 (fun H hs => ?_)
  replace hs := HS.nm eτ14 hs
  replace h := ob h; obtain ⟨τ15, eτ15, h⟩ := h
  refine sx_putF C hs fi_X3_35 hin rfl rfl eτ15 dX3_init_69 (fun H locs hs => ?_)
  refine lv_aload_n C.1 C.2.1 dX3_init_72 rfl (lv_at hl 0 rfl) ?_
  refine lv_iconst (v := 0) C.1 C.2.1 dX3_init_73 (by decide) ?_
  replace h := ob h; obtain ⟨τ16, eτ16, h⟩ := h
  refine sx_put C hs fp_X3_38 rfl rfl eτ16 dX3_init_74 (fun H locs hs => ?_)
  refine lv_aload_n C.1 C.2.1 dX3_init_77 rfl (lv_at hl 0 rfl) ?_
  refine lv_iconst (v := (-1)) C.1 C.2.1 dX3_init_78 (by decide) ?_
  replace h := ob h; obtain ⟨τ17, eτ17, h⟩ := h
  refine sx_put C hs fp_X3_41 rfl rfl eτ17 dX3_init_79 (fun H locs hs => ?_)
  cases h
  exact sx_vret C hs hr dX3_init_82
def f_X3_hasRoom (σ : Sto) (a0 : Nat) (v1 : Int32) : Option Int32 :=
 (gI σ a0 3 4).bind fun x1 =>
 if 200 < (x1 + v1) then
 some (0)
 else
 (gI σ a0 3 8).bind fun x3 =>
 if 220 ≤ x3 then
 some (0)
 else
 some (1)
set_option maxHeartbeats 4000000 in
set_option maxRecDepth 100000 in
theorem c_X3_hasRoom {l : Launch} {g : PP} {σ : Sto} {sz : Nat} {a0 : Nat} {v1 : Int32} {r9 : Int32} (h : f_X3_hasRoom σ a0 v1 = some r9) : Met l yX3_hasRoom [Cond.code yX3_hasRoom cX3_hasRoom 2 (some .boolean)] (rmk 0 0 0 0) (Pre g σ sz [.ref a0, .int v1]) (Pst g (vI r9) σ sz) 0 0 (Aw g) := by
  refine Met.ofW (cc := cX3_hasRoom) (maxL := 2) (ret := (some .boolean)) (by decide) rfl ?_
  intro p e s m args below meth c s₁ B hml hv
  obtain ⟨rfl, C, hs⟩ := ctx_of B hml hv
  have C : Cx g p s m meth c cX3_hasRoom 2 "Tillhouse$Ledger" := C
  have hr := B.returns
  have hl := lv_entry ([.ref a0, .int v1]) (n := 2) (Nat.le_of_ble_eq_true rfl)
  rw [lg_entry_eq]
  generalize (lg_sl ([.ref a0, .int v1]) ++ List.replicate (2 - (lg_sl ([.ref a0, .int v1])).length) Slot.unset).toArray = ls at hl ⊢
  have hl : lv_has ls 2 [(0, .ref a0), (1, .int v1)] := hl
  unfold f_X3_hasRoom at h
  refine lv_aload_n C.1 C.2.1 dX3_hasRoom_0 rfl (lv_at hl 0 rfl) ?_
  replace h := ob h; obtain ⟨x1, ex1, h⟩ := h
  refine sx_getV C hs fo_X3_25 (gI_v ex1) dX3_hasRoom_1 ?_
  refine lv_iload_n C.1 C.2.1 dX3_hasRoom_4 rfl (lv_at hl 1 rfl) ?_
  refine lv_iadd C.1 C.2.1 dX3_hasRoom_5 ?_
  refine lv_sipush (v := 200) C.1 C.2.1 dX3_hasRoom_6 (by decide) ?_
  refine lv_icmp_gt (tgt := 26) C.1 C.2.1 dX3_hasRoom_9 (by decide) (fun c2 => ?_) (fun c2 => ?_)
  · replace h := ip c2 h
    refine lv_iconst (v := 0) C.1 C.2.1 dX3_hasRoom_26 (by decide) ?_
    cases h
    exact sx_iret C hs hr (by decide) dX3_hasRoom_27
  · replace h := iN c2 h
    refine lv_aload_n C.1 C.2.1 dX3_hasRoom_12 rfl (lv_at hl 0 rfl) ?_
    replace h := ob h; obtain ⟨x3, ex3, h⟩ := h
    refine sx_getV C hs fo_X3_38 (gI_v ex3) dX3_hasRoom_13 ?_
    refine lv_sipush (v := 220) C.1 C.2.1 dX3_hasRoom_16 (by decide) ?_
    refine lv_icmp_ge (tgt := 26) C.1 C.2.1 dX3_hasRoom_19 (by decide) (fun c4 => ?_) (fun c4 => ?_)
    · replace h := ip c4 h
      refine lv_iconst (v := 0) C.1 C.2.1 dX3_hasRoom_26 (by decide) ?_
      cases h
      exact sx_iret C hs hr (by decide) dX3_hasRoom_27
    · replace h := iN c4 h
      refine lv_iconst (v := 1) C.1 C.2.1 dX3_hasRoom_22 (by decide) ?_
      refine lv_goto (tgt := 27) C.1 C.2.1 dX3_hasRoom_23 (by decide) ?_
      cases h
      exact sx_iret C hs hr (by decide) dX3_hasRoom_27
def f_X3_begin (σ : Sto) (a0 : Nat) (v1 : Int32) (v2 : Int32) : Option (Unit × Sto) :=
 (gI σ a0 3 8).bind fun x1 =>
 if 220 ≤ x1 then
 some ((), σ)
 else
 (gR σ a0 3 5).bind fun p3 =>
 (gI σ a0 3 8).bind fun x4 =>
 (sI σ p3 1 x4 v1).bind fun τ5 =>
 (gR τ5 a0 3 6).bind fun p6 =>
 (gI τ5 a0 3 8).bind fun x7 =>
 (sI τ5 p6 1 x7 v2).bind fun τ8 =>
 (gR τ8 a0 3 7).bind fun p9 =>
 (gI τ8 a0 3 8).bind fun x10 =>
 (gI τ8 a0 3 4).bind fun x11 =>
 (sI τ8 p9 1 x10 x11).bind fun τ12 =>
 (gI τ12 a0 3 8).bind fun x13 =>
 (pF τ12 a0 3 8 (.int (x13 + 1))).bind fun τ14 =>
 some ((), τ14)
set_option maxHeartbeats 4000000 in
set_option maxRecDepth 100000 in
theorem c_X3_begin {l : Launch} {g : PP} {σ : Sto} {sz : Nat} {a0 : Nat} {v1 : Int32} {v2 : Int32} {r9 : Unit} {σ9 : Sto} (h : f_X3_begin σ a0 v1 v2 = some (r9, σ9)) : Met l yX3_begin [Cond.code yX3_begin cX3_begin 3 none] (rmk 0 0 0 0) (Pre g σ sz [.ref a0, .int v1, .int v2]) (Pst g (vV r9) σ9 sz) 0 0 (Aw g) := by
  refine Met.ofW (cc := cX3_begin) (maxL := 3) (ret := none) (by decide) rfl ?_
  intro p e s m args below meth c s₁ B hml hv
  obtain ⟨rfl, C, hs⟩ := ctx_of B hml hv
  have C : Cx g p s m meth c cX3_begin 3 "Tillhouse$Ledger" := C
  have hr := B.returns
  have hl := lv_entry ([.ref a0, .int v1, .int v2]) (n := 3) (Nat.le_of_ble_eq_true rfl)
  rw [lg_entry_eq]
  generalize (lg_sl ([.ref a0, .int v1, .int v2]) ++ List.replicate (3 - (lg_sl ([.ref a0, .int v1, .int v2])).length) Slot.unset).toArray = ls at hl ⊢
  have hl : lv_has ls 3 [(0, .ref a0), (1, .int v1), (2, .int v2)] := hl
  unfold f_X3_begin at h
  refine lv_aload_n C.1 C.2.1 dX3_begin_0 rfl (lv_at hl 0 rfl) ?_
  replace h := ob h; obtain ⟨x1, ex1, h⟩ := h
  refine sx_getV C hs fo_X3_38 (gI_v ex1) dX3_begin_1 ?_
  refine lv_sipush (v := 220) C.1 C.2.1 dX3_begin_4 (by decide) ?_
  refine lv_icmp_ge (tgt := 53) C.1 C.2.1 dX3_begin_7 (by decide) (fun c2 => ?_) (fun c2 => ?_)
  · replace h := ip c2 h
    cases h
    exact sx_vret C hs hr dX3_begin_53
  · replace h := iN c2 h
    refine lv_aload_n C.1 C.2.1 dX3_begin_10 rfl (lv_at hl 0 rfl) ?_
    replace h := ob h; obtain ⟨p3, ep3, h⟩ := h
    refine sx_getV C hs fo_X3_29 (gR_v ep3) dX3_begin_11 ?_
    refine lv_aload_n C.1 C.2.1 dX3_begin_14 rfl (lv_at hl 0 rfl) ?_
    replace h := ob h; obtain ⟨x4, ex4, h⟩ := h
    refine sx_getV C hs fo_X3_38 (gI_v ex4) dX3_begin_15 ?_
    refine lv_iload_n C.1 C.2.1 dX3_begin_18 rfl (lv_at hl 1 rfl) ?_
    replace h := ob h; obtain ⟨τ5, eτ5, h⟩ := h
    refine sx_iast C hs eτ5 dX3_begin_19 (fun H locs hs => ?_)
    refine lv_aload_n C.1 C.2.1 dX3_begin_20 rfl (lv_at hl 0 rfl) ?_
    replace h := ob h; obtain ⟨p6, ep6, h⟩ := h
    refine sx_getV C hs fo_X3_32 (gR_v ep6) dX3_begin_21 ?_
    refine lv_aload_n C.1 C.2.1 dX3_begin_24 rfl (lv_at hl 0 rfl) ?_
    replace h := ob h; obtain ⟨x7, ex7, h⟩ := h
    refine sx_getV C hs fo_X3_38 (gI_v ex7) dX3_begin_25 ?_
    refine lv_iload_n C.1 C.2.1 dX3_begin_28 rfl (lv_at hl 2 rfl) ?_
    replace h := ob h; obtain ⟨τ8, eτ8, h⟩ := h
    refine sx_iast C hs eτ8 dX3_begin_29 (fun H locs hs => ?_)
    refine lv_aload_n C.1 C.2.1 dX3_begin_30 rfl (lv_at hl 0 rfl) ?_
    replace h := ob h; obtain ⟨p9, ep9, h⟩ := h
    refine sx_getV C hs fo_X3_35 (gR_v ep9) dX3_begin_31 ?_
    refine lv_aload_n C.1 C.2.1 dX3_begin_34 rfl (lv_at hl 0 rfl) ?_
    replace h := ob h; obtain ⟨x10, ex10, h⟩ := h
    refine sx_getV C hs fo_X3_38 (gI_v ex10) dX3_begin_35 ?_
    refine lv_aload_n C.1 C.2.1 dX3_begin_38 rfl (lv_at hl 0 rfl) ?_
    replace h := ob h; obtain ⟨x11, ex11, h⟩ := h
    refine sx_getV C hs fo_X3_25 (gI_v ex11) dX3_begin_39 ?_
    replace h := ob h; obtain ⟨τ12, eτ12, h⟩ := h
    refine sx_iast C hs eτ12 dX3_begin_42 (fun H locs hs => ?_)
    refine lv_aload_n C.1 C.2.1 dX3_begin_43 rfl (lv_at hl 0 rfl) ?_
    refine lv_dup C.1 C.2.1 dX3_begin_44 rfl ?_
    replace h := ob h; obtain ⟨x13, ex13, h⟩ := h
    refine sx_getV C hs fo_X3_38 (gI_v ex13) dX3_begin_45 ?_
    refine lv_iconst (v := 1) C.1 C.2.1 dX3_begin_48 (by decide) ?_
    refine lv_iadd C.1 C.2.1 dX3_begin_49 ?_
    replace h := ob h; obtain ⟨τ14, eτ14, h⟩ := h
    refine sx_put C hs fp_X3_38 rfl rfl eτ14 dX3_begin_50 (fun H locs hs => ?_)
    cases h
    exact sx_vret C hs hr dX3_begin_53
def f_X3_enter (σ : Sto) (a0 : Nat) (v1 : Int32) (v2 : Int32) (v3 : Int64) : Option (Int32 × Sto) :=
 (gI σ a0 3 4).bind fun x1 =>
 if 200 ≤ x1 then
 (gI σ a0 3 4).bind fun x3 =>
 some (x3, σ)
 else
 (gI σ a0 3 8).bind fun x4 =>
 if x4 ≤ 0 then
 (gI σ a0 3 4).bind fun x6 =>
 some (x6, σ)
 else
 (gR σ a0 3 0).bind fun p7 =>
 (gI σ a0 3 4).bind fun x8 =>
 (sI σ p7 1 x8 v1).bind fun τ9 =>
 (gR τ9 a0 3 1).bind fun p10 =>
 (gI τ9 a0 3 4).bind fun x11 =>
 (sI τ9 p10 1 x11 v2).bind fun τ12 =>
 (gR τ12 a0 3 2).bind fun p13 =>
 (gI τ12 a0 3 4).bind fun x14 =>
 (sL τ12 p13 2 x14 v3).bind fun τ15 =>
 (gR τ15 a0 3 3).bind fun p16 =>
 (gI τ15 a0 3 4).bind fun x17 =>
 (gR τ15 a0 3 5).bind fun p18 =>
 (gI τ15 a0 3 8).bind fun x19 =>
 (aI τ15 p18 1 (x19 - 1)).bind fun x20 =>
 (sI τ15 p16 1 x17 x20).bind fun τ21 =>
 (gI τ21 a0 3 4).bind fun x22 =>
 (pF τ21 a0 3 4 (.int (x22 + 1))).bind fun τ23 =>
 (gI τ23 a0 3 4).bind fun x24 =>
 some (x24, τ23)
set_option maxHeartbeats 4000000 in
set_option maxRecDepth 100000 in
theorem c_X3_enter {l : Launch} {g : PP} {σ : Sto} {sz : Nat} {a0 : Nat} {v1 : Int32} {v2 : Int32} {v3 : Int64} {r9 : Int32} {σ9 : Sto} (h : f_X3_enter σ a0 v1 v2 v3 = some (r9, σ9)) : Met l yX3_enter [Cond.code yX3_enter cX3_enter 5 (some .int)] (rmk 0 0 0 0) (Pre g σ sz [.ref a0, .int v1, .int v2, .long v3]) (Pst g (vI r9) σ9 sz) 0 0 (Aw g) := by
  refine Met.ofW (cc := cX3_enter) (maxL := 5) (ret := (some .int)) (by decide) rfl ?_
  intro p e s m args below meth c s₁ B hml hv
  obtain ⟨rfl, C, hs⟩ := ctx_of B hml hv
  have C : Cx g p s m meth c cX3_enter 5 "Tillhouse$Ledger" := C
  have hr := B.returns
  have hl := lv_entry ([.ref a0, .int v1, .int v2, .long v3]) (n := 5) (Nat.le_of_ble_eq_true rfl)
  rw [lg_entry_eq]
  generalize (lg_sl ([.ref a0, .int v1, .int v2, .long v3]) ++ List.replicate (5 - (lg_sl ([.ref a0, .int v1, .int v2, .long v3])).length) Slot.unset).toArray = ls at hl ⊢
  have hl : lv_has ls 5 [(0, .ref a0), (1, .int v1), (2, .int v2), (3, .long v3)] := hl
  unfold f_X3_enter at h
  refine lv_aload_n C.1 C.2.1 dX3_enter_0 rfl (lv_at hl 0 rfl) ?_
  replace h := ob h; obtain ⟨x1, ex1, h⟩ := h
  refine sx_getV C hs fo_X3_25 (gI_v ex1) dX3_enter_1 ?_
  refine lv_sipush (v := 200) C.1 C.2.1 dX3_enter_4 (by decide) ?_
  refine lv_icmp_ge (tgt := 77) C.1 C.2.1 dX3_enter_7 (by decide) (fun c2 => ?_) (fun c2 => ?_)
  · replace h := ip c2 h
    refine lv_aload_n C.1 C.2.1 dX3_enter_77 rfl (lv_at hl 0 rfl) ?_
    replace h := ob h; obtain ⟨x3, ex3, h⟩ := h
    refine sx_getV C hs fo_X3_25 (gI_v ex3) dX3_enter_78 ?_
    cases h
    exact sx_iret C hs hr rfl dX3_enter_81
  · replace h := iN c2 h
    refine lv_aload_n C.1 C.2.1 dX3_enter_10 rfl (lv_at hl 0 rfl) ?_
    replace h := ob h; obtain ⟨x4, ex4, h⟩ := h
    refine sx_getV C hs fo_X3_38 (gI_v ex4) dX3_enter_11 ?_
    refine lv_if_le (tgt := 77) C.1 C.2.1 dX3_enter_14 (by decide) (fun c5 => ?_) (fun c5 => ?_)
    · replace h := ip c5 h
      refine lv_aload_n C.1 C.2.1 dX3_enter_77 rfl (lv_at hl 0 rfl) ?_
      replace h := ob h; obtain ⟨x6, ex6, h⟩ := h
      refine sx_getV C hs fo_X3_25 (gI_v ex6) dX3_enter_78 ?_
      cases h
      exact sx_iret C hs hr rfl dX3_enter_81
    · replace h := iN c5 h
      refine lv_aload_n C.1 C.2.1 dX3_enter_17 rfl (lv_at hl 0 rfl) ?_
      replace h := ob h; obtain ⟨p7, ep7, h⟩ := h
      refine sx_getV C hs fo_X3_11 (gR_v ep7) dX3_enter_18 ?_
      refine lv_aload_n C.1 C.2.1 dX3_enter_21 rfl (lv_at hl 0 rfl) ?_
      replace h := ob h; obtain ⟨x8, ex8, h⟩ := h
      refine sx_getV C hs fo_X3_25 (gI_v ex8) dX3_enter_22 ?_
      refine lv_iload_n C.1 C.2.1 dX3_enter_25 rfl (lv_at hl 1 rfl) ?_
      replace h := ob h; obtain ⟨τ9, eτ9, h⟩ := h
      refine sx_iast C hs eτ9 dX3_enter_26 (fun H locs hs => ?_)
      refine lv_aload_n C.1 C.2.1 dX3_enter_27 rfl (lv_at hl 0 rfl) ?_
      replace h := ob h; obtain ⟨p10, ep10, h⟩ := h
      refine sx_getV C hs fo_X3_15 (gR_v ep10) dX3_enter_28 ?_
      refine lv_aload_n C.1 C.2.1 dX3_enter_31 rfl (lv_at hl 0 rfl) ?_
      replace h := ob h; obtain ⟨x11, ex11, h⟩ := h
      refine sx_getV C hs fo_X3_25 (gI_v ex11) dX3_enter_32 ?_
      refine lv_iload_n C.1 C.2.1 dX3_enter_35 rfl (lv_at hl 2 rfl) ?_
      replace h := ob h; obtain ⟨τ12, eτ12, h⟩ := h
      refine sx_iast C hs eτ12 dX3_enter_36 (fun H locs hs => ?_)
      refine lv_aload_n C.1 C.2.1 dX3_enter_37 rfl (lv_at hl 0 rfl) ?_
      replace h := ob h; obtain ⟨p13, ep13, h⟩ := h
      refine sx_getV C hs fo_X3_18 (gR_v ep13) dX3_enter_38 ?_
      refine lv_aload_n C.1 C.2.1 dX3_enter_41 rfl (lv_at hl 0 rfl) ?_
      replace h := ob h; obtain ⟨x14, ex14, h⟩ := h
      refine sx_getV C hs fo_X3_25 (gI_v ex14) dX3_enter_42 ?_
      refine lv_lload_n C.1 C.2.1 dX3_enter_45 rfl (lv_at hl 3 rfl) ?_
      replace h := ob h; obtain ⟨τ15, eτ15, h⟩ := h
      refine sx_last C hs eτ15 dX3_enter_46 (fun H locs hs => ?_)
      refine lv_aload_n C.1 C.2.1 dX3_enter_47 rfl (lv_at hl 0 rfl) ?_
      replace h := ob h; obtain ⟨p16, ep16, h⟩ := h
      refine sx_getV C hs fo_X3_22 (gR_v ep16) dX3_enter_48 ?_
      refine lv_aload_n C.1 C.2.1 dX3_enter_51 rfl (lv_at hl 0 rfl) ?_
      replace h := ob h; obtain ⟨x17, ex17, h⟩ := h
      refine sx_getV C hs fo_X3_25 (gI_v ex17) dX3_enter_52 ?_
      refine lv_aload_n C.1 C.2.1 dX3_enter_55 rfl (lv_at hl 0 rfl) ?_
      replace h := ob h; obtain ⟨p18, ep18, h⟩ := h
      refine sx_getV C hs fo_X3_29 (gR_v ep18) dX3_enter_56 ?_
      refine lv_aload_n C.1 C.2.1 dX3_enter_59 rfl (lv_at hl 0 rfl) ?_
      replace h := ob h; obtain ⟨x19, ex19, h⟩ := h
      refine sx_getV C hs fo_X3_38 (gI_v ex19) dX3_enter_60 ?_
      refine lv_iconst (v := 1) C.1 C.2.1 dX3_enter_63 (by decide) ?_
      refine lv_isub C.1 C.2.1 dX3_enter_64 ?_
      replace h := ob h; obtain ⟨x20, ex20, h⟩ := h
      refine sx_iald C hs ex20 dX3_enter_65 ?_
      replace h := ob h; obtain ⟨τ21, eτ21, h⟩ := h
      refine sx_iast C hs eτ21 dX3_enter_66 (fun H locs hs => ?_)
      refine lv_aload_n C.1 C.2.1 dX3_enter_67 rfl (lv_at hl 0 rfl) ?_
      refine lv_dup C.1 C.2.1 dX3_enter_68 rfl ?_
      replace h := ob h; obtain ⟨x22, ex22, h⟩ := h
      refine sx_getV C hs fo_X3_25 (gI_v ex22) dX3_enter_69 ?_
      refine lv_iconst (v := 1) C.1 C.2.1 dX3_enter_72 (by decide) ?_
      refine lv_iadd C.1 C.2.1 dX3_enter_73 ?_
      replace h := ob h; obtain ⟨τ23, eτ23, h⟩ := h
      refine sx_put C hs fp_X3_25 rfl rfl eτ23 dX3_enter_74 (fun H locs hs => ?_)
      refine lv_aload_n C.1 C.2.1 dX3_enter_77 rfl (lv_at hl 0 rfl) ?_
      replace h := ob h; obtain ⟨x24, ex24, h⟩ := h
      refine sx_getV C hs fo_X3_25 (gI_v ex24) dX3_enter_78 ?_
      cases h
      exact sx_iret C hs hr rfl dX3_enter_81
def b_X3_hasBooking_2_body (N : Nat) (k2 : Sto × Nat × Int32 × Int32 → Option Int32) (σ : Sto) (a0 : Nat) (v1 : Int32) (v2 : Int32) : Option Int32 :=
 (gI σ a0 3 8).bind fun x1 =>
 if x1 ≤ v2 then
 some (0)
 else
 (gR σ a0 3 6).bind fun p3 =>
 (aI σ p3 1 v2).bind fun x4 =>
 if x4 = v1 then
 some (1)
 else
 lt_ (v2 + 1) fun x6 =>
 k2 (σ, a0, v1, x6)
def b_X3_hasBooking_2 (N : Nat) (σ : Sto) (a0 : Nat) (v1 : Int32) (v2 : Int32) : Option Int32 :=
  lp (fun k e => b_X3_hasBooking_2_body N k e.1 e.2.1 e.2.2.1 e.2.2.2) N (σ, a0, v1, v2)
def f_X3_hasBooking (N : Nat) (σ : Sto) (a0 : Nat) (v1 : Int32) : Option Int32 :=
 b_X3_hasBooking_2 N σ a0 v1 0
set_option maxHeartbeats 4000000 in
set_option maxRecDepth 100000 in
theorem tb_X3_hasBooking_2 {l : Launch} {g : PP} {p : Program} {e : Env} {s : State} {m : MethodId} {args : Array Value} {below : List Frame} {meth : Method} {c : Code} (C : Cx g p s m meth c cX3_hasBooking 3 "Tillhouse$Ledger") (hr : meth.sig.returnType = some .boolean) {N : Nat}  {k2 : Sto × Nat × Int32 × Int32 → Option Int32} {σ : Sto} {sz : Nat} {a0 : Nat} {v1 : Int32} {v2 : Int32} {r9 : Int32}
    (h : b_X3_hasBooking_2_body N k2 σ a0 v1 v2 = some r9)  (hk2 : ∀ (σ : Sto) (a0 : Nat) (v1 : Int32) (v2 : Int32), k2 (σ, a0, v1, v2) = some r9 → ∀ (H : Heap) (locs : List Loc) (ls : Array Slot), HS g s σ sz H locs → lv_has ls 3 [(0, .ref a0), (1, .int v1), (2, .int v2)] → W p l e (rmk 0 0 0 0) s m args below meth c H locs 0 0 (MQ below (Pst g (vI r9) σ sz) args s 0 0 (Aw g)) (F0 m 2 ls []))
    {H : Heap} {locs : List Loc} {ls : Array Slot} (hs : HS g s σ sz H locs) (hl : lv_has ls 3 [(0, .ref a0), (1, .int v1), (2, .int v2)]) : W p l e (rmk 0 0 0 0) s m args below meth c H locs 0 0 (MQ below (Pst g (vI r9) σ sz) args s 0 0 (Aw g)) (F0 m 2 ls []) := by
  unfold b_X3_hasBooking_2_body at h
  refine lv_iload_n C.1 C.2.1 dX3_hasBooking_2 rfl (lv_at hl 2 rfl) ?_
  refine lv_aload_n C.1 C.2.1 dX3_hasBooking_3 rfl (lv_at hl 0 rfl) ?_
  replace h := ob h; obtain ⟨x1, ex1, h⟩ := h
  refine sx_getV C hs fo_X3_38 (gI_v ex1) dX3_hasBooking_4 ?_
  refine lv_icmp_ge (tgt := 28) C.1 C.2.1 dX3_hasBooking_7 (by decide) (fun c2 => ?_) (fun c2 => ?_)
  · replace h := ip c2 h
    refine lv_iconst (v := 0) C.1 C.2.1 dX3_hasBooking_28 (by decide) ?_
    cases h
    exact sx_iret C hs hr (by decide) dX3_hasBooking_29
  · replace h := iN c2 h
    refine lv_aload_n C.1 C.2.1 dX3_hasBooking_10 rfl (lv_at hl 0 rfl) ?_
    replace h := ob h; obtain ⟨p3, ep3, h⟩ := h
    refine sx_getV C hs fo_X3_32 (gR_v ep3) dX3_hasBooking_11 ?_
    refine lv_iload_n C.1 C.2.1 dX3_hasBooking_14 rfl (lv_at hl 2 rfl) ?_
    replace h := ob h; obtain ⟨x4, ex4, h⟩ := h
    refine sx_iald C hs ex4 dX3_hasBooking_15 ?_
    refine lv_iload_n C.1 C.2.1 dX3_hasBooking_16 rfl (lv_at hl 1 rfl) ?_
    refine lv_icmp_ne (tgt := 22) C.1 C.2.1 dX3_hasBooking_17 (by decide) (fun c5 => ?_) (fun c5 => ?_)
    · replace h := iN c5 h
      replace h := ol h; obtain ⟨x6, ex6, h⟩ := h
      refine lv_iinc (v := x6) (lv' := [(2, .int x6), (0, .ref a0), (1, .int v1)]) C.1 C.2.1 dX3_hasBooking_22 hl (k := 2) rfl (by rw [ex6]; rfl) (by decide) rfl (fun ls hl => ?_)
      refine lv_goto (tgt := 2) C.1 C.2.1 dX3_hasBooking_25 (by decide) ?_
      exact hk2 σ a0 v1 x6 h _ _ _ hs (lv_sub hl [1, 2, 0] rfl)
    · replace h := ip c5 h
      refine lv_iconst (v := 1) C.1 C.2.1 dX3_hasBooking_20 (by decide) ?_
      cases h
      exact sx_iret C hs hr (by decide) dX3_hasBooking_21
set_option maxHeartbeats 4000000 in
set_option maxRecDepth 100000 in
theorem tl_X3_hasBooking_2 {l : Launch} {g : PP} {p : Program} {e : Env} {s : State} {m : MethodId} {args : Array Value} {below : List Frame} {meth : Method} {c : Code} (C : Cx g p s m meth c cX3_hasBooking 3 "Tillhouse$Ledger") (hr : meth.sig.returnType = some .boolean) {N : Nat}   {sz : Nat} {r9 : Int32}  : ∀ (n : Nat) (σ : Sto) (a0 : Nat) (v1 : Int32) (v2 : Int32), lp (fun k e => b_X3_hasBooking_2_body N k e.1 e.2.1 e.2.2.1 e.2.2.2) n (σ, a0, v1, v2) = some r9 → ∀ (H : Heap) (locs : List Loc) (ls : Array Slot), HS g s σ sz H locs → lv_has ls 3 [(0, .ref a0), (1, .int v1), (2, .int v2)] → W p l e (rmk 0 0 0 0) s m args below meth c H locs 0 0 (MQ below (Pst g (vI r9) σ sz) args s 0 0 (Aw g)) (F0 m 2 ls []) := by
  intro n
  induction n with
  | zero => intro σ a0 v1 v2 h; exact absurd h (fun q => nomatch q)
  | succ n ih =>
    intro σ a0 v1 v2 h H locs ls hs hl
    exact tb_X3_hasBooking_2 (N := N) C hr h (fun σ a0 v1 v2 h H locs ls hs hl => ih σ a0 v1 v2 h H locs ls hs hl) hs hl
set_option maxHeartbeats 4000000 in
set_option maxRecDepth 100000 in
theorem t_X3_hasBooking_2 {l : Launch} {g : PP} {p : Program} {e : Env} {s : State} {m : MethodId} {args : Array Value} {below : List Frame} {meth : Method} {c : Code} (C : Cx g p s m meth c cX3_hasBooking 3 "Tillhouse$Ledger") (hr : meth.sig.returnType = some .boolean) {N : Nat}  {σ : Sto} {sz : Nat} {a0 : Nat} {v1 : Int32} {v2 : Int32} {r9 : Int32}
    (h : b_X3_hasBooking_2 N σ a0 v1 v2 = some r9) 
    {H : Heap} {locs : List Loc} {ls : Array Slot} (hs : HS g s σ sz H locs) (hl : lv_has ls 3 [(0, .ref a0), (1, .int v1), (2, .int v2)]) : W p l e (rmk 0 0 0 0) s m args below meth c H locs 0 0 (MQ below (Pst g (vI r9) σ sz) args s 0 0 (Aw g)) (F0 m 2 ls []) := tl_X3_hasBooking_2 C hr N σ a0 v1 v2 h H locs ls hs hl
set_option maxHeartbeats 4000000 in
set_option maxRecDepth 100000 in
theorem c_X3_hasBooking {l : Launch} {g : PP} {N : Nat} {σ : Sto} {sz : Nat} {a0 : Nat} {v1 : Int32} {r9 : Int32} (h : f_X3_hasBooking N σ a0 v1 = some r9) : Met l yX3_hasBooking [Cond.code yX3_hasBooking cX3_hasBooking 3 (some .boolean)] (rmk 0 0 0 0) (Pre g σ sz [.ref a0, .int v1]) (Pst g (vI r9) σ sz) 0 0 (Aw g) := by
  refine Met.ofW (cc := cX3_hasBooking) (maxL := 3) (ret := (some .boolean)) (by decide) rfl ?_
  intro p e s m args below meth c s₁ B hml hv
  obtain ⟨rfl, C, hs⟩ := ctx_of B hml hv
  have C : Cx g p s m meth c cX3_hasBooking 3 "Tillhouse$Ledger" := C
  have hr := B.returns
  have hl := lv_entry ([.ref a0, .int v1]) (n := 3) (Nat.le_of_ble_eq_true rfl)
  rw [lg_entry_eq]
  generalize (lg_sl ([.ref a0, .int v1]) ++ List.replicate (3 - (lg_sl ([.ref a0, .int v1])).length) Slot.unset).toArray = ls at hl ⊢
  have hl : lv_has ls 3 [(0, .ref a0), (1, .int v1)] := hl
  unfold f_X3_hasBooking at h
  refine lv_iconst (v := 0) C.1 C.2.1 dX3_hasBooking_0 (by decide) ?_
  refine lv_istore_n (lv' := [(2, .int 0), (0, .ref a0), (1, .int v1)]) C.1 C.2.1 dX3_hasBooking_1 rfl hl (by decide) rfl (fun ls hl => ?_)
  exact t_X3_hasBooking_2 C hr h hs (lv_sub hl [1, 2, 0] rfl)
def f_X3_dayOfLatest (σ : Sto) (a0 : Nat) : Option Int32 :=
 (gI σ a0 3 8).bind fun x1 =>
 if x1 ≤ 0 then
 some ((-1))
 else
 (gR σ a0 3 5).bind fun p3 =>
 (gI σ a0 3 8).bind fun x4 =>
 (aI σ p3 1 (x4 - 1)).bind fun x5 =>
 some (x5)
set_option maxHeartbeats 4000000 in
set_option maxRecDepth 100000 in
theorem c_X3_dayOfLatest {l : Launch} {g : PP} {σ : Sto} {sz : Nat} {a0 : Nat} {r9 : Int32} (h : f_X3_dayOfLatest σ a0 = some r9) : Met l yX3_dayOfLatest [Cond.code yX3_dayOfLatest cX3_dayOfLatest 1 (some .int)] (rmk 0 0 0 0) (Pre g σ sz [.ref a0]) (Pst g (vI r9) σ sz) 0 0 (Aw g) := by
  refine Met.ofW (cc := cX3_dayOfLatest) (maxL := 1) (ret := (some .int)) (by decide) rfl ?_
  intro p e s m args below meth c s₁ B hml hv
  obtain ⟨rfl, C, hs⟩ := ctx_of B hml hv
  have C : Cx g p s m meth c cX3_dayOfLatest 1 "Tillhouse$Ledger" := C
  have hr := B.returns
  have hl := lv_entry ([.ref a0]) (n := 1) (Nat.le_of_ble_eq_true rfl)
  rw [lg_entry_eq]
  generalize (lg_sl ([.ref a0]) ++ List.replicate (1 - (lg_sl ([.ref a0])).length) Slot.unset).toArray = ls at hl ⊢
  have hl : lv_has ls 1 [(0, .ref a0)] := hl
  unfold f_X3_dayOfLatest at h
  refine lv_aload_n C.1 C.2.1 dX3_dayOfLatest_0 rfl (lv_at hl 0 rfl) ?_
  replace h := ob h; obtain ⟨x1, ex1, h⟩ := h
  refine sx_getV C hs fo_X3_38 (gI_v ex1) dX3_dayOfLatest_1 ?_
  refine lv_if_le (tgt := 21) C.1 C.2.1 dX3_dayOfLatest_4 (by decide) (fun c2 => ?_) (fun c2 => ?_)
  · replace h := ip c2 h
    refine lv_iconst (v := (-1)) C.1 C.2.1 dX3_dayOfLatest_21 (by decide) ?_
    cases h
    exact sx_iret C hs hr rfl dX3_dayOfLatest_22
  · replace h := iN c2 h
    refine lv_aload_n C.1 C.2.1 dX3_dayOfLatest_7 rfl (lv_at hl 0 rfl) ?_
    replace h := ob h; obtain ⟨p3, ep3, h⟩ := h
    refine sx_getV C hs fo_X3_29 (gR_v ep3) dX3_dayOfLatest_8 ?_
    refine lv_aload_n C.1 C.2.1 dX3_dayOfLatest_11 rfl (lv_at hl 0 rfl) ?_
    replace h := ob h; obtain ⟨x4, ex4, h⟩ := h
    refine sx_getV C hs fo_X3_38 (gI_v ex4) dX3_dayOfLatest_12 ?_
    refine lv_iconst (v := 1) C.1 C.2.1 dX3_dayOfLatest_15 (by decide) ?_
    refine lv_isub C.1 C.2.1 dX3_dayOfLatest_16 ?_
    replace h := ob h; obtain ⟨x5, ex5, h⟩ := h
    refine sx_iald C hs ex5 dX3_dayOfLatest_17 ?_
    refine lv_goto (tgt := 22) C.1 C.2.1 dX3_dayOfLatest_18 (by decide) ?_
    cases h
    exact sx_iret C hs hr rfl dX3_dayOfLatest_22
def f_X3_dropLatest (σ : Sto) (a0 : Nat) : Option (Int32 × Sto) :=
 (gI σ a0 3 8).bind fun x1 =>
 if x1 ≤ 0 then
 (gI σ a0 3 4).bind fun x3 =>
 some (x3, σ)
 else
 (gI σ a0 3 8).bind fun x4 =>
 (pF σ a0 3 8 (.int (x4 - 1))).bind fun τ5 =>
 (gR τ5 a0 3 7).bind fun p6 =>
 (gI τ5 a0 3 8).bind fun x7 =>
 (aI τ5 p6 1 x7).bind fun x8 =>
 (pF τ5 a0 3 4 (.int x8)).bind fun τ9 =>
 (gI τ9 a0 3 4).bind fun x10 =>
 some (x10, τ9)
set_option maxHeartbeats 4000000 in
set_option maxRecDepth 100000 in
theorem c_X3_dropLatest {l : Launch} {g : PP} {σ : Sto} {sz : Nat} {a0 : Nat} {r9 : Int32} {σ9 : Sto} (h : f_X3_dropLatest σ a0 = some (r9, σ9)) : Met l yX3_dropLatest [Cond.code yX3_dropLatest cX3_dropLatest 1 (some .int)] (rmk 0 0 0 0) (Pre g σ sz [.ref a0]) (Pst g (vI r9) σ9 sz) 0 0 (Aw g) := by
  refine Met.ofW (cc := cX3_dropLatest) (maxL := 1) (ret := (some .int)) (by decide) rfl ?_
  intro p e s m args below meth c s₁ B hml hv
  obtain ⟨rfl, C, hs⟩ := ctx_of B hml hv
  have C : Cx g p s m meth c cX3_dropLatest 1 "Tillhouse$Ledger" := C
  have hr := B.returns
  have hl := lv_entry ([.ref a0]) (n := 1) (Nat.le_of_ble_eq_true rfl)
  rw [lg_entry_eq]
  generalize (lg_sl ([.ref a0]) ++ List.replicate (1 - (lg_sl ([.ref a0])).length) Slot.unset).toArray = ls at hl ⊢
  have hl : lv_has ls 1 [(0, .ref a0)] := hl
  unfold f_X3_dropLatest at h
  refine lv_aload_n C.1 C.2.1 dX3_dropLatest_0 rfl (lv_at hl 0 rfl) ?_
  replace h := ob h; obtain ⟨x1, ex1, h⟩ := h
  refine sx_getV C hs fo_X3_38 (gI_v ex1) dX3_dropLatest_1 ?_
  refine lv_if_le (tgt := 30) C.1 C.2.1 dX3_dropLatest_4 (by decide) (fun c2 => ?_) (fun c2 => ?_)
  · replace h := ip c2 h
    refine lv_aload_n C.1 C.2.1 dX3_dropLatest_30 rfl (lv_at hl 0 rfl) ?_
    replace h := ob h; obtain ⟨x3, ex3, h⟩ := h
    refine sx_getV C hs fo_X3_25 (gI_v ex3) dX3_dropLatest_31 ?_
    cases h
    exact sx_iret C hs hr rfl dX3_dropLatest_34
  · replace h := iN c2 h
    refine lv_aload_n C.1 C.2.1 dX3_dropLatest_7 rfl (lv_at hl 0 rfl) ?_
    refine lv_dup C.1 C.2.1 dX3_dropLatest_8 rfl ?_
    replace h := ob h; obtain ⟨x4, ex4, h⟩ := h
    refine sx_getV C hs fo_X3_38 (gI_v ex4) dX3_dropLatest_9 ?_
    refine lv_iconst (v := 1) C.1 C.2.1 dX3_dropLatest_12 (by decide) ?_
    refine lv_isub C.1 C.2.1 dX3_dropLatest_13 ?_
    replace h := ob h; obtain ⟨τ5, eτ5, h⟩ := h
    refine sx_put C hs fp_X3_38 rfl rfl eτ5 dX3_dropLatest_14 (fun H locs hs => ?_)
    refine lv_aload_n C.1 C.2.1 dX3_dropLatest_17 rfl (lv_at hl 0 rfl) ?_
    refine lv_aload_n C.1 C.2.1 dX3_dropLatest_18 rfl (lv_at hl 0 rfl) ?_
    replace h := ob h; obtain ⟨p6, ep6, h⟩ := h
    refine sx_getV C hs fo_X3_35 (gR_v ep6) dX3_dropLatest_19 ?_
    refine lv_aload_n C.1 C.2.1 dX3_dropLatest_22 rfl (lv_at hl 0 rfl) ?_
    replace h := ob h; obtain ⟨x7, ex7, h⟩ := h
    refine sx_getV C hs fo_X3_38 (gI_v ex7) dX3_dropLatest_23 ?_
    replace h := ob h; obtain ⟨x8, ex8, h⟩ := h
    refine sx_iald C hs ex8 dX3_dropLatest_26 ?_
    replace h := ob h; obtain ⟨τ9, eτ9, h⟩ := h
    refine sx_put C hs fp_X3_25 rfl rfl eτ9 dX3_dropLatest_27 (fun H locs hs => ?_)
    refine lv_aload_n C.1 C.2.1 dX3_dropLatest_30 rfl (lv_at hl 0 rfl) ?_
    replace h := ob h; obtain ⟨x10, ex10, h⟩ := h
    refine sx_getV C hs fo_X3_25 (gI_v ex10) dX3_dropLatest_31 ?_
    cases h
    exact sx_iret C hs hr rfl dX3_dropLatest_34
def f_X3_isShut (σ : Sto) (a0 : Nat) (v1 : Int32) : Option Int32 :=
 (gI σ a0 3 9).bind fun x1 =>
 if x1 < v1 then
 some (0)
 else
 some (1)
set_option maxHeartbeats 4000000 in
set_option maxRecDepth 100000 in
theorem c_X3_isShut {l : Launch} {g : PP} {σ : Sto} {sz : Nat} {a0 : Nat} {v1 : Int32} {r9 : Int32} (h : f_X3_isShut σ a0 v1 = some r9) : Met l yX3_isShut [Cond.code yX3_isShut cX3_isShut 2 (some .boolean)] (rmk 0 0 0 0) (Pre g σ sz [.ref a0, .int v1]) (Pst g (vI r9) σ sz) 0 0 (Aw g) := by
  refine Met.ofW (cc := cX3_isShut) (maxL := 2) (ret := (some .boolean)) (by decide) rfl ?_
  intro p e s m args below meth c s₁ B hml hv
  obtain ⟨rfl, C, hs⟩ := ctx_of B hml hv
  have C : Cx g p s m meth c cX3_isShut 2 "Tillhouse$Ledger" := C
  have hr := B.returns
  have hl := lv_entry ([.ref a0, .int v1]) (n := 2) (Nat.le_of_ble_eq_true rfl)
  rw [lg_entry_eq]
  generalize (lg_sl ([.ref a0, .int v1]) ++ List.replicate (2 - (lg_sl ([.ref a0, .int v1])).length) Slot.unset).toArray = ls at hl ⊢
  have hl : lv_has ls 2 [(0, .ref a0), (1, .int v1)] := hl
  unfold f_X3_isShut at h
  refine lv_iload_n C.1 C.2.1 dX3_isShut_0 rfl (lv_at hl 1 rfl) ?_
  refine lv_aload_n C.1 C.2.1 dX3_isShut_1 rfl (lv_at hl 0 rfl) ?_
  replace h := ob h; obtain ⟨x1, ex1, h⟩ := h
  refine sx_getV C hs fo_X3_41 (gI_v ex1) dX3_isShut_2 ?_
  refine lv_icmp_gt (tgt := 12) C.1 C.2.1 dX3_isShut_5 (by decide) (fun c2 => ?_) (fun c2 => ?_)
  · replace h := ip c2 h
    refine lv_iconst (v := 0) C.1 C.2.1 dX3_isShut_12 (by decide) ?_
    cases h
    exact sx_iret C hs hr (by decide) dX3_isShut_13
  · replace h := iN c2 h
    refine lv_iconst (v := 1) C.1 C.2.1 dX3_isShut_8 (by decide) ?_
    refine lv_goto (tgt := 13) C.1 C.2.1 dX3_isShut_9 (by decide) ?_
    cases h
    exact sx_iret C hs hr (by decide) dX3_isShut_13
def b_X3_shutUpTo_36 (N : Nat) (k9 : Sto × Nat × Int32 × Int32 → Option (Int32 × Sto)) (σ : Sto) (a0 : Nat) (v3 : Int32) (s0 : Int32) (s1 : Int32) : Option (Int32 × Sto) :=
 lt_ (s1 + s0) fun x1 =>
 lt_ (v3 + 1) fun x2 =>
 k9 (σ, a0, x1, x2)
def b_X3_shutUpTo_9_body (N : Nat) (k9 : Sto × Nat × Int32 × Int32 → Option (Int32 × Sto)) (σ : Sto) (a0 : Nat) (v2 : Int32) (v3 : Int32) : Option (Int32 × Sto) :=
 (gI σ a0 3 4).bind fun x1 =>
 if x1 ≤ v3 then
 some (v2, σ)
 else
 (gR σ a0 3 3).bind fun p3 =>
 (aI σ p3 1 v3).bind fun x4 =>
 (isO σ a0 3).bind fun _ =>
 (f_X3_isShut σ a0 x4).bind fun x6 =>
 if x6 = 0 then
 b_X3_shutUpTo_36 N k9 σ a0 v3 0 v2
 else
 b_X3_shutUpTo_36 N k9 σ a0 v3 1 v2
def b_X3_shutUpTo_9 (N : Nat) (σ : Sto) (a0 : Nat) (v2 : Int32) (v3 : Int32) : Option (Int32 × Sto) :=
  lp (fun k e => b_X3_shutUpTo_9_body N k e.1 e.2.1 e.2.2.1 e.2.2.2) N (σ, a0, v2, v3)
def f_X3_shutUpTo (N : Nat) (σ : Sto) (a0 : Nat) (v1 : Int32) : Option (Int32 × Sto) :=
 (pF σ a0 3 9 (.int v1)).bind fun τ1 =>
 b_X3_shutUpTo_9 N τ1 a0 0 0
set_option maxHeartbeats 4000000 in
set_option maxRecDepth 100000 in
theorem t_X3_shutUpTo_36 {l : Launch} {g : PP} {p : Program} {e : Env} {s : State} {m : MethodId} {args : Array Value} {below : List Frame} {meth : Method} {c : Code} (C : Cx g p s m meth c cX3_shutUpTo 4 "Tillhouse$Ledger") (hr : meth.sig.returnType = some .int) {N : Nat} {k9 : Sto × Nat × Int32 × Int32 → Option (Int32 × Sto)} {σ : Sto} {sz : Nat} {a0 : Nat} {v3 : Int32} {s0 : Int32} {s1 : Int32} {r9 : Int32} {σ9 : Sto}
    (h : b_X3_shutUpTo_36 N k9 σ a0 v3 s0 s1 = some (r9, σ9)) (hk9 : ∀ (σ : Sto) (a0 : Nat) (v2 : Int32) (v3 : Int32), k9 (σ, a0, v2, v3) = some (r9, σ9) → ∀ (H : Heap) (locs : List Loc) (ls : Array Slot), HS g s σ sz H locs → lv_has ls 4 [(0, .ref a0), (2, .int v2), (3, .int v3)] → W p l e (rmk 1 0 0 21) s m args below meth c H locs 0 0 (MQ below (Pst g (vI r9) σ9 sz) args s 0 0 (Aw g)) (F0 m 9 ls []))
    {H : Heap} {locs : List Loc} {ls : Array Slot} (hs : HS g s σ sz H locs) (hl : lv_has ls 4 [(0, .ref a0), (3, .int v3)]) : W p l e (rmk 1 0 0 21) s m args below meth c H locs 0 0 (MQ below (Pst g (vI r9) σ9 sz) args s 0 0 (Aw g)) (F0 m 36 ls [.int s0, .int s1]) := by
  unfold b_X3_shutUpTo_36 at h
  refine lv_iadd C.1 C.2.1 dX3_shutUpTo_36 ?_
  replace h := ol h; obtain ⟨x1, ex1, h⟩ := h
  refine sx_nmI ex1 ?_
  refine lv_istore_n (lv' := [(2, .int x1), (0, .ref a0), (3, .int v3)]) C.1 C.2.1 dX3_shutUpTo_37 rfl hl (by decide) rfl (fun ls hl => ?_)
  replace h := ol h; obtain ⟨x2, ex2, h⟩ := h
  refine lv_iinc (v := x2) (lv' := [(3, .int x2), (2, .int x1), (0, .ref a0)]) C.1 C.2.1 dX3_shutUpTo_38 hl (k := 2) rfl (by rw [ex2]; rfl) (by decide) rfl (fun ls hl => ?_)
  refine lv_goto (tgt := 9) C.1 C.2.1 dX3_shutUpTo_41 (by decide) ?_
  exact hk9 σ a0 x1 x2 h _ _ _ hs (lv_sub hl [2, 1, 0] rfl)
set_option maxHeartbeats 4000000 in
set_option maxRecDepth 100000 in
theorem tb_X3_shutUpTo_9 {l : Launch} {g : PP} {p : Program} {e : Env} {s : State} {m : MethodId} {args : Array Value} {below : List Frame} {meth : Method} {c : Code} (C : Cx g p s m meth c cX3_shutUpTo 4 "Tillhouse$Ledger") (hr : meth.sig.returnType = some .int) {N : Nat}  {k9 : Sto × Nat × Int32 × Int32 → Option (Int32 × Sto)} {σ : Sto} {sz : Nat} {a0 : Nat} {v2 : Int32} {v3 : Int32} {r9 : Int32} {σ9 : Sto}
    (h : b_X3_shutUpTo_9_body N k9 σ a0 v2 v3 = some (r9, σ9))  (hk9 : ∀ (σ : Sto) (a0 : Nat) (v2 : Int32) (v3 : Int32), k9 (σ, a0, v2, v3) = some (r9, σ9) → ∀ (H : Heap) (locs : List Loc) (ls : Array Slot), HS g s σ sz H locs → lv_has ls 4 [(0, .ref a0), (2, .int v2), (3, .int v3)] → W p l e (rmk 1 0 0 21) s m args below meth c H locs 0 0 (MQ below (Pst g (vI r9) σ9 sz) args s 0 0 (Aw g)) (F0 m 9 ls []))
    {H : Heap} {locs : List Loc} {ls : Array Slot} (hs : HS g s σ sz H locs) (hl : lv_has ls 4 [(0, .ref a0), (2, .int v2), (3, .int v3)]) : W p l e (rmk 1 0 0 21) s m args below meth c H locs 0 0 (MQ below (Pst g (vI r9) σ9 sz) args s 0 0 (Aw g)) (F0 m 9 ls []) := by
  unfold b_X3_shutUpTo_9_body at h
  refine lv_iload_n C.1 C.2.1 dX3_shutUpTo_9 rfl (lv_at hl 2 rfl) ?_
  refine lv_aload_n C.1 C.2.1 dX3_shutUpTo_10 rfl (lv_at hl 0 rfl) ?_
  replace h := ob h; obtain ⟨x1, ex1, h⟩ := h
  refine sx_getV C hs fo_X3_25 (gI_v ex1) dX3_shutUpTo_11 ?_
  refine lv_icmp_ge (tgt := 44) C.1 C.2.1 dX3_shutUpTo_14 (by decide) (fun c2 => ?_) (fun c2 => ?_)
  · replace h := ip c2 h
    refine lv_iload_n C.1 C.2.1 dX3_shutUpTo_44 rfl (lv_at hl 1 rfl) ?_
    cases h
    exact sx_iret C hs hr rfl dX3_shutUpTo_45
  · replace h := iN c2 h
    refine lv_iload_n C.1 C.2.1 dX3_shutUpTo_17 rfl (lv_at hl 1 rfl) ?_
    refine lv_aload_n C.1 C.2.1 dX3_shutUpTo_18 rfl (lv_at hl 0 rfl) ?_
    refine lv_aload_n C.1 C.2.1 dX3_shutUpTo_19 rfl (lv_at hl 0 rfl) ?_
    replace h := ob h; obtain ⟨p3, ep3, h⟩ := h
    refine sx_getV C hs fo_X3_22 (gR_v ep3) dX3_shutUpTo_20 ?_
    refine lv_iload_n C.1 C.2.1 dX3_shutUpTo_23 rfl (lv_at hl 2 rfl) ?_
    replace h := ob h; obtain ⟨x4, ex4, h⟩ := h
    refine sx_iald C hs ex4 dX3_shutUpTo_24 ?_
    replace h := ob h; obtain ⟨⟨⟩, i5, h⟩ := h
    replace h := ob h; obtain ⟨x6, ex6, h⟩ := h
    refine sx_callV (As := [.int x4]) (rest := [.int v2]) C hs (c_X3_isShut ex6) mo_X3_isShut q1329 i5 rfl rfl hl.1 ⟨⟨(Nat.le_of_ble_eq_true rfl), (Nat.le_of_ble_eq_true rfl)⟩, (Nat.le_of_ble_eq_true rfl), (Nat.le_of_ble_eq_true rfl)⟩ rfl (Nat.le_of_ble_eq_true rfl) dX3_shutUpTo_25 (fun H locs hs => ?_)
    refine W.eq (g2 := F0 m 28 ls [.int x6, .int v2]) rfl ?_
    refine lv_if_eq (tgt := 35) C.1 C.2.1 dX3_shutUpTo_28 (by decide) (fun c7 => ?_) (fun c7 => ?_)
    · replace h := ip c7 h
      refine lv_iconst (v := 0) C.1 C.2.1 dX3_shutUpTo_35 (by decide) ?_
      exact t_X3_shutUpTo_36 C hr h hk9 hs (lv_sub hl [0, 2] rfl)
    · replace h := iN c7 h
      refine lv_iconst (v := 1) C.1 C.2.1 dX3_shutUpTo_31 (by decide) ?_
      refine lv_goto (tgt := 36) C.1 C.2.1 dX3_shutUpTo_32 (by decide) ?_
      exact t_X3_shutUpTo_36 C hr h hk9 hs (lv_sub hl [0, 2] rfl)
set_option maxHeartbeats 4000000 in
set_option maxRecDepth 100000 in
theorem tl_X3_shutUpTo_9 {l : Launch} {g : PP} {p : Program} {e : Env} {s : State} {m : MethodId} {args : Array Value} {below : List Frame} {meth : Method} {c : Code} (C : Cx g p s m meth c cX3_shutUpTo 4 "Tillhouse$Ledger") (hr : meth.sig.returnType = some .int) {N : Nat}   {sz : Nat} {r9 : Int32} {σ9 : Sto}  : ∀ (n : Nat) (σ : Sto) (a0 : Nat) (v2 : Int32) (v3 : Int32), lp (fun k e => b_X3_shutUpTo_9_body N k e.1 e.2.1 e.2.2.1 e.2.2.2) n (σ, a0, v2, v3) = some (r9, σ9) → ∀ (H : Heap) (locs : List Loc) (ls : Array Slot), HS g s σ sz H locs → lv_has ls 4 [(0, .ref a0), (2, .int v2), (3, .int v3)] → W p l e (rmk 1 0 0 21) s m args below meth c H locs 0 0 (MQ below (Pst g (vI r9) σ9 sz) args s 0 0 (Aw g)) (F0 m 9 ls []) := by
  intro n
  induction n with
  | zero => intro σ a0 v2 v3 h; exact absurd h (fun q => nomatch q)
  | succ n ih =>
    intro σ a0 v2 v3 h H locs ls hs hl
    exact tb_X3_shutUpTo_9 (N := N) C hr h (fun σ a0 v2 v3 h H locs ls hs hl => ih σ a0 v2 v3 h H locs ls hs hl) hs hl
set_option maxHeartbeats 4000000 in
set_option maxRecDepth 100000 in
theorem t_X3_shutUpTo_9 {l : Launch} {g : PP} {p : Program} {e : Env} {s : State} {m : MethodId} {args : Array Value} {below : List Frame} {meth : Method} {c : Code} (C : Cx g p s m meth c cX3_shutUpTo 4 "Tillhouse$Ledger") (hr : meth.sig.returnType = some .int) {N : Nat}  {σ : Sto} {sz : Nat} {a0 : Nat} {v2 : Int32} {v3 : Int32} {r9 : Int32} {σ9 : Sto}
    (h : b_X3_shutUpTo_9 N σ a0 v2 v3 = some (r9, σ9)) 
    {H : Heap} {locs : List Loc} {ls : Array Slot} (hs : HS g s σ sz H locs) (hl : lv_has ls 4 [(0, .ref a0), (2, .int v2), (3, .int v3)]) : W p l e (rmk 1 0 0 21) s m args below meth c H locs 0 0 (MQ below (Pst g (vI r9) σ9 sz) args s 0 0 (Aw g)) (F0 m 9 ls []) := tl_X3_shutUpTo_9 C hr N σ a0 v2 v3 h H locs ls hs hl
set_option maxHeartbeats 4000000 in
set_option maxRecDepth 100000 in
theorem c_X3_shutUpTo {l : Launch} {g : PP} {N : Nat} {σ : Sto} {sz : Nat} {a0 : Nat} {v1 : Int32} {r9 : Int32} {σ9 : Sto} (h : f_X3_shutUpTo N σ a0 v1 = some (r9, σ9)) : Met l yX3_shutUpTo [Cond.code yX3_shutUpTo cX3_shutUpTo 4 (some .int)] (rmk 1 0 0 21) (Pre g σ sz [.ref a0, .int v1]) (Pst g (vI r9) σ9 sz) 0 0 (Aw g) := by
  refine Met.ofW (cc := cX3_shutUpTo) (maxL := 4) (ret := (some .int)) (by decide) rfl ?_
  intro p e s m args below meth c s₁ B hml hv
  obtain ⟨rfl, C, hs⟩ := ctx_of B hml hv
  have C : Cx g p s m meth c cX3_shutUpTo 4 "Tillhouse$Ledger" := C
  have hr := B.returns
  have hl := lv_entry ([.ref a0, .int v1]) (n := 4) (Nat.le_of_ble_eq_true rfl)
  rw [lg_entry_eq]
  generalize (lg_sl ([.ref a0, .int v1]) ++ List.replicate (4 - (lg_sl ([.ref a0, .int v1])).length) Slot.unset).toArray = ls at hl ⊢
  have hl : lv_has ls 4 [(0, .ref a0), (1, .int v1)] := hl
  unfold f_X3_shutUpTo at h
  refine lv_aload_n C.1 C.2.1 dX3_shutUpTo_0 rfl (lv_at hl 0 rfl) ?_
  refine lv_iload_n C.1 C.2.1 dX3_shutUpTo_1 rfl (lv_at hl 1 rfl) ?_
  replace h := ob h; obtain ⟨τ1, eτ1, h⟩ := h
  refine sx_put C hs fp_X3_41 rfl rfl eτ1 dX3_shutUpTo_2 (fun H locs hs => ?_)
  refine lv_iconst (v := 0) C.1 C.2.1 dX3_shutUpTo_5 (by decide) ?_
  refine lv_istore_n (lv' := [(2, .int 0), (0, .ref a0), (1, .int v1)]) C.1 C.2.1 dX3_shutUpTo_6 rfl hl (by decide) rfl (fun ls hl => ?_)
  refine lv_iconst (v := 0) C.1 C.2.1 dX3_shutUpTo_7 (by decide) ?_
  refine lv_istore_n (lv' := [(3, .int 0), (2, .int 0), (0, .ref a0), (1, .int v1)]) C.1 C.2.1 dX3_shutUpTo_8 rfl hl (by decide) rfl (fun ls hl => ?_)
  exact t_X3_shutUpTo_9 C hr h hs (lv_sub hl [2, 1, 0] rfl)
def b_X3_sum_63 (N : Nat) (k6 : Sto × Nat × Int32 × Int32 × Int32 × Int64 × Int32 → Option Int64) (σ : Sto) (a0 : Nat) (v1 : Int32) (v2 : Int32) (v3 : Int32) (v6 : Int32) (s0 : Int64) (s1 : Int64) : Option Int64 :=
 lt_ (s1 + s0) fun x1 =>
 lt_ (v6 + 1) fun x2 =>
 k6 (σ, a0, v1, v2, v3, x1, x2)
def b_X3_sum_62 (N : Nat) (k6 : Sto × Nat × Int32 × Int32 × Int32 × Int64 × Int32 → Option Int64) (σ : Sto) (a0 : Nat) (v1 : Int32) (v2 : Int32) (v3 : Int32) (v6 : Int32) (s0 : Int64) : Option Int64 :=
 b_X3_sum_63 N k6 σ a0 v1 v2 v3 v6 0 s0
def b_X3_sum_36 (N : Nat) (k6 : Sto × Nat × Int32 × Int32 × Int32 × Int64 × Int32 → Option Int64) (σ : Sto) (a0 : Nat) (v1 : Int32) (v2 : Int32) (v3 : Int32) (v4 : Int64) (v6 : Int32) (s0 : Int32) : Option Int64 :=
 if s0 < v1 then
 b_X3_sum_62 N k6 σ a0 v1 v2 v3 v6 v4
 else
 if v2 < s0 then
 b_X3_sum_62 N k6 σ a0 v1 v2 v3 v6 v4
 else
 (gR σ a0 3 2).bind fun p3 =>
 (aL σ p3 2 v6).bind fun x4 =>
 b_X3_sum_63 N k6 σ a0 v1 v2 v3 v6 x4 v4
def b_X3_sum_6_body (N : Nat) (k6 : Sto × Nat × Int32 × Int32 × Int32 × Int64 × Int32 → Option Int64) (σ : Sto) (a0 : Nat) (v1 : Int32) (v2 : Int32) (v3 : Int32) (v4 : Int64) (v6 : Int32) : Option Int64 :=
 (gI σ a0 3 4).bind fun x1 =>
 if x1 ≤ v6 then
 some (v4)
 else
 if v3 = 0 then
 (gR σ a0 3 1).bind fun p4 =>
 (aI σ p4 1 v6).bind fun x5 =>
 b_X3_sum_36 N k6 σ a0 v1 v2 v3 v4 v6 x5
 else
 (gR σ a0 3 0).bind fun p6 =>
 (aI σ p6 1 v6).bind fun x7 =>
 b_X3_sum_36 N k6 σ a0 v1 v2 v3 v4 v6 x7
def b_X3_sum_6 (N : Nat) (σ : Sto) (a0 : Nat) (v1 : Int32) (v2 : Int32) (v3 : Int32) (v4 : Int64) (v6 : Int32) : Option Int64 :=
  lp (fun k e => b_X3_sum_6_body N k e.1 e.2.1 e.2.2.1 e.2.2.2.1 e.2.2.2.2.1 e.2.2.2.2.2.1 e.2.2.2.2.2.2) N (σ, a0, v1, v2, v3, v4, v6)
def f_X3_sum (N : Nat) (σ : Sto) (a0 : Nat) (v1 : Int32) (v2 : Int32) (v3 : Int32) : Option Int64 :=
 b_X3_sum_6 N σ a0 v1 v2 v3 0 0
set_option maxHeartbeats 4000000 in
set_option maxRecDepth 100000 in
theorem t_X3_sum_63 {l : Launch} {g : PP} {p : Program} {e : Env} {s : State} {m : MethodId} {args : Array Value} {below : List Frame} {meth : Method} {c : Code} (C : Cx g p s m meth c cX3_sum 8 "Tillhouse$Ledger") (hr : meth.sig.returnType = some .long) {N : Nat} {k6 : Sto × Nat × Int32 × Int32 × Int32 × Int64 × Int32 → Option Int64} {σ : Sto} {sz : Nat} {a0 : Nat} {v1 : Int32} {v2 : Int32} {v3 : Int32} {v6 : Int32} {s0 : Int64} {s1 : Int64} {r9 : Int64}
    (h : b_X3_sum_63 N k6 σ a0 v1 v2 v3 v6 s0 s1 = some r9) (hk6 : ∀ (σ : Sto) (a0 : Nat) (v1 : Int32) (v2 : Int32) (v3 : Int32) (v4 : Int64) (v6 : Int32), k6 (σ, a0, v1, v2, v3, v4, v6) = some r9 → ∀ (H : Heap) (locs : List Loc) (ls : Array Slot), HS g s σ sz H locs → lv_has ls 8 [(0, .ref a0), (1, .int v1), (2, .int v2), (3, .int v3), (4, .long v4), (6, .int v6)] → W p l e (rmk 0 0 0 0) s m args below meth c H locs 0 0 (MQ below (Pst g (vL r9) σ sz) args s 0 0 (Aw g)) (F0 m 6 ls []))
    {H : Heap} {locs : List Loc} {ls : Array Slot} (hs : HS g s σ sz H locs) (hl : lv_has ls 8 [(0, .ref a0), (1, .int v1), (2, .int v2), (3, .int v3), (6, .int v6)]) : W p l e (rmk 0 0 0 0) s m args below meth c H locs 0 0 (MQ below (Pst g (vL r9) σ sz) args s 0 0 (Aw g)) (F0 m 63 ls [.long s0, .long s1]) := by
  unfold b_X3_sum_63 at h
  refine lv_ladd C.1 C.2.1 dX3_sum_63 ?_
  replace h := ol h; obtain ⟨x1, ex1, h⟩ := h
  refine sx_nmL ex1 ?_
  refine lv_lstore (lv' := [(4, .long x1), (0, .ref a0), (1, .int v1), (2, .int v2), (3, .int v3), (6, .int v6)]) C.1 C.2.1 dX3_sum_64 hl (by decide) rfl (fun ls hl => ?_)
  replace h := ol h; obtain ⟨x2, ex2, h⟩ := h
  refine lv_iinc (v := x2) (lv' := [(6, .int x2), (4, .long x1), (0, .ref a0), (1, .int v1), (2, .int v2), (3, .int v3)]) C.1 C.2.1 dX3_sum_66 hl (k := 5) rfl (by rw [ex2]; rfl) (by decide) rfl (fun ls hl => ?_)
  refine lv_goto (tgt := 6) C.1 C.2.1 dX3_sum_69 (by decide) ?_
  exact hk6 σ a0 v1 v2 v3 x1 x2 h _ _ _ hs (lv_sub hl [2, 3, 4, 5, 1, 0] rfl)
set_option maxHeartbeats 4000000 in
set_option maxRecDepth 100000 in
theorem t_X3_sum_62 {l : Launch} {g : PP} {p : Program} {e : Env} {s : State} {m : MethodId} {args : Array Value} {below : List Frame} {meth : Method} {c : Code} (C : Cx g p s m meth c cX3_sum 8 "Tillhouse$Ledger") (hr : meth.sig.returnType = some .long) {N : Nat} {k6 : Sto × Nat × Int32 × Int32 × Int32 × Int64 × Int32 → Option Int64} {σ : Sto} {sz : Nat} {a0 : Nat} {v1 : Int32} {v2 : Int32} {v3 : Int32} {v6 : Int32} {s0 : Int64} {r9 : Int64}
    (h : b_X3_sum_62 N k6 σ a0 v1 v2 v3 v6 s0 = some r9) (hk6 : ∀ (σ : Sto) (a0 : Nat) (v1 : Int32) (v2 : Int32) (v3 : Int32) (v4 : Int64) (v6 : Int32), k6 (σ, a0, v1, v2, v3, v4, v6) = some r9 → ∀ (H : Heap) (locs : List Loc) (ls : Array Slot), HS g s σ sz H locs → lv_has ls 8 [(0, .ref a0), (1, .int v1), (2, .int v2), (3, .int v3), (4, .long v4), (6, .int v6)] → W p l e (rmk 0 0 0 0) s m args below meth c H locs 0 0 (MQ below (Pst g (vL r9) σ sz) args s 0 0 (Aw g)) (F0 m 6 ls []))
    {H : Heap} {locs : List Loc} {ls : Array Slot} (hs : HS g s σ sz H locs) (hl : lv_has ls 8 [(0, .ref a0), (1, .int v1), (2, .int v2), (3, .int v3), (6, .int v6)]) : W p l e (rmk 0 0 0 0) s m args below meth c H locs 0 0 (MQ below (Pst g (vL r9) σ sz) args s 0 0 (Aw g)) (F0 m 62 ls [.long s0]) := by
  unfold b_X3_sum_62 at h
  refine lv_lconst (v := 0) C.1 C.2.1 dX3_sum_62 (by decide) ?_
  exact t_X3_sum_63 C hr h hk6 hs (lv_sub hl [0, 1, 2, 3, 4] rfl)
set_option maxHeartbeats 4000000 in
set_option maxRecDepth 100000 in
theorem t_X3_sum_36 {l : Launch} {g : PP} {p : Program} {e : Env} {s : State} {m : MethodId} {args : Array Value} {below : List Frame} {meth : Method} {c : Code} (C : Cx g p s m meth c cX3_sum 8 "Tillhouse$Ledger") (hr : meth.sig.returnType = some .long) {N : Nat} {k6 : Sto × Nat × Int32 × Int32 × Int32 × Int64 × Int32 → Option Int64} {σ : Sto} {sz : Nat} {a0 : Nat} {v1 : Int32} {v2 : Int32} {v3 : Int32} {v4 : Int64} {v6 : Int32} {s0 : Int32} {r9 : Int64}
    (h : b_X3_sum_36 N k6 σ a0 v1 v2 v3 v4 v6 s0 = some r9) (hk6 : ∀ (σ : Sto) (a0 : Nat) (v1 : Int32) (v2 : Int32) (v3 : Int32) (v4 : Int64) (v6 : Int32), k6 (σ, a0, v1, v2, v3, v4, v6) = some r9 → ∀ (H : Heap) (locs : List Loc) (ls : Array Slot), HS g s σ sz H locs → lv_has ls 8 [(0, .ref a0), (1, .int v1), (2, .int v2), (3, .int v3), (4, .long v4), (6, .int v6)] → W p l e (rmk 0 0 0 0) s m args below meth c H locs 0 0 (MQ below (Pst g (vL r9) σ sz) args s 0 0 (Aw g)) (F0 m 6 ls []))
    {H : Heap} {locs : List Loc} {ls : Array Slot} (hs : HS g s σ sz H locs) (hl : lv_has ls 8 [(0, .ref a0), (1, .int v1), (2, .int v2), (3, .int v3), (4, .long v4), (6, .int v6)]) : W p l e (rmk 0 0 0 0) s m args below meth c H locs 0 0 (MQ below (Pst g (vL r9) σ sz) args s 0 0 (Aw g)) (F0 m 36 ls [.int s0]) := by
  unfold b_X3_sum_36 at h
  refine lv_istore (lv' := [(7, .int s0), (0, .ref a0), (1, .int v1), (2, .int v2), (3, .int v3), (4, .long v4), (6, .int v6)]) C.1 C.2.1 dX3_sum_36 hl (by decide) rfl (fun ls hl => ?_)
  refine lv_lload C.1 C.2.1 dX3_sum_38 (lv_at hl 5 rfl) ?_
  refine lv_iload C.1 C.2.1 dX3_sum_40 (lv_at hl 0 rfl) ?_
  refine lv_iload_n C.1 C.2.1 dX3_sum_42 rfl (lv_at hl 2 rfl) ?_
  refine lv_icmp_lt (tgt := 62) C.1 C.2.1 dX3_sum_43 (by decide) (fun c1 => ?_) (fun c1 => ?_)
  · replace h := ip c1 h
    exact t_X3_sum_62 C hr h hk6 hs (lv_sub hl [1, 2, 3, 4, 6] rfl)
  · replace h := iN c1 h
    refine lv_iload C.1 C.2.1 dX3_sum_46 (lv_at hl 0 rfl) ?_
    refine lv_iload_n C.1 C.2.1 dX3_sum_48 rfl (lv_at hl 3 rfl) ?_
    refine lv_icmp_gt (tgt := 62) C.1 C.2.1 dX3_sum_49 (by decide) (fun c2 => ?_) (fun c2 => ?_)
    · replace h := ip c2 h
      exact t_X3_sum_62 C hr h hk6 hs (lv_sub hl [1, 2, 3, 4, 6] rfl)
    · replace h := iN c2 h
      refine lv_aload_n C.1 C.2.1 dX3_sum_52 rfl (lv_at hl 1 rfl) ?_
      replace h := ob h; obtain ⟨p3, ep3, h⟩ := h
      refine sx_getV C hs fo_X3_18 (gR_v ep3) dX3_sum_53 ?_
      refine lv_iload C.1 C.2.1 dX3_sum_56 (lv_at hl 6 rfl) ?_
      replace h := ob h; obtain ⟨x4, ex4, h⟩ := h
      refine sx_lald C hs ex4 dX3_sum_58 ?_
      refine lv_goto (tgt := 63) C.1 C.2.1 dX3_sum_59 (by decide) ?_
      exact t_X3_sum_63 C hr h hk6 hs (lv_sub hl [1, 2, 3, 4, 6] rfl)
set_option maxHeartbeats 4000000 in
set_option maxRecDepth 100000 in
theorem tb_X3_sum_6 {l : Launch} {g : PP} {p : Program} {e : Env} {s : State} {m : MethodId} {args : Array Value} {below : List Frame} {meth : Method} {c : Code} (C : Cx g p s m meth c cX3_sum 8 "Tillhouse$Ledger") (hr : meth.sig.returnType = some .long) {N : Nat}  {k6 : Sto × Nat × Int32 × Int32 × Int32 × Int64 × Int32 → Option Int64} {σ : Sto} {sz : Nat} {a0 : Nat} {v1 : Int32} {v2 : Int32} {v3 : Int32} {v4 : Int64} {v6 : Int32} {r9 : Int64}
    (h : b_X3_sum_6_body N k6 σ a0 v1 v2 v3 v4 v6 = some r9)  (hk6 : ∀ (σ : Sto) (a0 : Nat) (v1 : Int32) (v2 : Int32) (v3 : Int32) (v4 : Int64) (v6 : Int32), k6 (σ, a0, v1, v2, v3, v4, v6) = some r9 → ∀ (H : Heap) (locs : List Loc) (ls : Array Slot), HS g s σ sz H locs → lv_has ls 8 [(0, .ref a0), (1, .int v1), (2, .int v2), (3, .int v3), (4, .long v4), (6, .int v6)] → W p l e (rmk 0 0 0 0) s m args below meth c H locs 0 0 (MQ below (Pst g (vL r9) σ sz) args s 0 0 (Aw g)) (F0 m 6 ls []))
    {H : Heap} {locs : List Loc} {ls : Array Slot} (hs : HS g s σ sz H locs) (hl : lv_has ls 8 [(0, .ref a0), (1, .int v1), (2, .int v2), (3, .int v3), (4, .long v4), (6, .int v6)]) : W p l e (rmk 0 0 0 0) s m args below meth c H locs 0 0 (MQ below (Pst g (vL r9) σ sz) args s 0 0 (Aw g)) (F0 m 6 ls []) := by
  unfold b_X3_sum_6_body at h
  refine lv_iload C.1 C.2.1 dX3_sum_6 (lv_at hl 5 rfl) ?_
  refine lv_aload_n C.1 C.2.1 dX3_sum_8 rfl (lv_at hl 0 rfl) ?_
  replace h := ob h; obtain ⟨x1, ex1, h⟩ := h
  refine sx_getV C hs fo_X3_25 (gI_v ex1) dX3_sum_9 ?_
  refine lv_icmp_ge (tgt := 72) C.1 C.2.1 dX3_sum_12 (by decide) (fun c2 => ?_) (fun c2 => ?_)
  · replace h := ip c2 h
    refine lv_lload C.1 C.2.1 dX3_sum_72 (lv_at hl 4 rfl) ?_
    cases h
    exact sx_lret C hs hr dX3_sum_74
  · replace h := iN c2 h
    refine lv_iload_n C.1 C.2.1 dX3_sum_15 rfl (lv_at hl 3 rfl) ?_
    refine lv_if_eq (tgt := 29) C.1 C.2.1 dX3_sum_16 (by decide) (fun c3 => ?_) (fun c3 => ?_)
    · replace h := ip c3 h
      refine lv_aload_n C.1 C.2.1 dX3_sum_29 rfl (lv_at hl 0 rfl) ?_
      replace h := ob h; obtain ⟨p4, ep4, h⟩ := h
      refine sx_getV C hs fo_X3_15 (gR_v ep4) dX3_sum_30 ?_
      refine lv_iload C.1 C.2.1 dX3_sum_33 (lv_at hl 5 rfl) ?_
      replace h := ob h; obtain ⟨x5, ex5, h⟩ := h
      refine sx_iald C hs ex5 dX3_sum_35 ?_
      exact t_X3_sum_36 C hr h hk6 hs (lv_sub hl [0, 1, 2, 3, 4, 5] rfl)
    · replace h := iN c3 h
      refine lv_aload_n C.1 C.2.1 dX3_sum_19 rfl (lv_at hl 0 rfl) ?_
      replace h := ob h; obtain ⟨p6, ep6, h⟩ := h
      refine sx_getV C hs fo_X3_11 (gR_v ep6) dX3_sum_20 ?_
      refine lv_iload C.1 C.2.1 dX3_sum_23 (lv_at hl 5 rfl) ?_
      replace h := ob h; obtain ⟨x7, ex7, h⟩ := h
      refine sx_iald C hs ex7 dX3_sum_25 ?_
      refine lv_goto (tgt := 36) C.1 C.2.1 dX3_sum_26 (by decide) ?_
      exact t_X3_sum_36 C hr h hk6 hs (lv_sub hl [0, 1, 2, 3, 4, 5] rfl)
set_option maxHeartbeats 4000000 in
set_option maxRecDepth 100000 in
theorem tl_X3_sum_6 {l : Launch} {g : PP} {p : Program} {e : Env} {s : State} {m : MethodId} {args : Array Value} {below : List Frame} {meth : Method} {c : Code} (C : Cx g p s m meth c cX3_sum 8 "Tillhouse$Ledger") (hr : meth.sig.returnType = some .long) {N : Nat}   {sz : Nat} {r9 : Int64}  : ∀ (n : Nat) (σ : Sto) (a0 : Nat) (v1 : Int32) (v2 : Int32) (v3 : Int32) (v4 : Int64) (v6 : Int32), lp (fun k e => b_X3_sum_6_body N k e.1 e.2.1 e.2.2.1 e.2.2.2.1 e.2.2.2.2.1 e.2.2.2.2.2.1 e.2.2.2.2.2.2) n (σ, a0, v1, v2, v3, v4, v6) = some r9 → ∀ (H : Heap) (locs : List Loc) (ls : Array Slot), HS g s σ sz H locs → lv_has ls 8 [(0, .ref a0), (1, .int v1), (2, .int v2), (3, .int v3), (4, .long v4), (6, .int v6)] → W p l e (rmk 0 0 0 0) s m args below meth c H locs 0 0 (MQ below (Pst g (vL r9) σ sz) args s 0 0 (Aw g)) (F0 m 6 ls []) := by
  intro n
  induction n with
  | zero => intro σ a0 v1 v2 v3 v4 v6 h; exact absurd h (fun q => nomatch q)
  | succ n ih =>
    intro σ a0 v1 v2 v3 v4 v6 h H locs ls hs hl
    exact tb_X3_sum_6 (N := N) C hr h (fun σ a0 v1 v2 v3 v4 v6 h H locs ls hs hl => ih σ a0 v1 v2 v3 v4 v6 h H locs ls hs hl) hs hl
set_option maxHeartbeats 4000000 in
set_option maxRecDepth 100000 in
theorem t_X3_sum_6 {l : Launch} {g : PP} {p : Program} {e : Env} {s : State} {m : MethodId} {args : Array Value} {below : List Frame} {meth : Method} {c : Code} (C : Cx g p s m meth c cX3_sum 8 "Tillhouse$Ledger") (hr : meth.sig.returnType = some .long) {N : Nat}  {σ : Sto} {sz : Nat} {a0 : Nat} {v1 : Int32} {v2 : Int32} {v3 : Int32} {v4 : Int64} {v6 : Int32} {r9 : Int64}
    (h : b_X3_sum_6 N σ a0 v1 v2 v3 v4 v6 = some r9) 
    {H : Heap} {locs : List Loc} {ls : Array Slot} (hs : HS g s σ sz H locs) (hl : lv_has ls 8 [(0, .ref a0), (1, .int v1), (2, .int v2), (3, .int v3), (4, .long v4), (6, .int v6)]) : W p l e (rmk 0 0 0 0) s m args below meth c H locs 0 0 (MQ below (Pst g (vL r9) σ sz) args s 0 0 (Aw g)) (F0 m 6 ls []) := tl_X3_sum_6 C hr N σ a0 v1 v2 v3 v4 v6 h H locs ls hs hl
set_option maxHeartbeats 4000000 in
set_option maxRecDepth 100000 in
theorem c_X3_sum {l : Launch} {g : PP} {N : Nat} {σ : Sto} {sz : Nat} {a0 : Nat} {v1 : Int32} {v2 : Int32} {v3 : Int32} {r9 : Int64} (h : f_X3_sum N σ a0 v1 v2 v3 = some r9) : Met l yX3_sum [Cond.code yX3_sum cX3_sum 8 (some .long)] (rmk 0 0 0 0) (Pre g σ sz [.ref a0, .int v1, .int v2, .int v3]) (Pst g (vL r9) σ sz) 0 0 (Aw g) := by
  refine Met.ofW (cc := cX3_sum) (maxL := 8) (ret := (some .long)) (by decide) rfl ?_
  intro p e s m args below meth c s₁ B hml hv
  obtain ⟨rfl, C, hs⟩ := ctx_of B hml hv
  have C : Cx g p s m meth c cX3_sum 8 "Tillhouse$Ledger" := C
  have hr := B.returns
  have hl := lv_entry ([.ref a0, .int v1, .int v2, .int v3]) (n := 8) (Nat.le_of_ble_eq_true rfl)
  rw [lg_entry_eq]
  generalize (lg_sl ([.ref a0, .int v1, .int v2, .int v3]) ++ List.replicate (8 - (lg_sl ([.ref a0, .int v1, .int v2, .int v3])).length) Slot.unset).toArray = ls at hl ⊢
  have hl : lv_has ls 8 [(0, .ref a0), (1, .int v1), (2, .int v2), (3, .int v3)] := hl
  unfold f_X3_sum at h
  refine lv_lconst (v := 0) C.1 C.2.1 dX3_sum_0 (by decide) ?_
  refine lv_lstore (lv' := [(4, .long 0), (0, .ref a0), (1, .int v1), (2, .int v2), (3, .int v3)]) C.1 C.2.1 dX3_sum_1 hl (by decide) rfl (fun ls hl => ?_)
  refine lv_iconst (v := 0) C.1 C.2.1 dX3_sum_3 (by decide) ?_
  refine lv_istore (lv' := [(6, .int 0), (4, .long 0), (0, .ref a0), (1, .int v1), (2, .int v2), (3, .int v3)]) C.1 C.2.1 dX3_sum_4 hl (by decide) rfl (fun ls hl => ?_)
  exact t_X3_sum_6 C hr h hs (lv_sub hl [2, 3, 4, 5, 1, 0] rfl)
def b_X3_leastAbove_55 (N : Nat) (k5 : Sto × Nat × Int32 × Int32 × Int32 → Option Int32) (σ : Sto) (a0 : Nat) (v1 : Int32) (v2 : Int32) (v3 : Int32) : Option Int32 :=
 lt_ (v3 + 1) fun x1 =>
 k5 (σ, a0, v1, v2, x1)
def b_X3_leastAbove_34 (N : Nat) (k5 : Sto × Nat × Int32 × Int32 × Int32 → Option Int32) (σ : Sto) (a0 : Nat) (v1 : Int32) (v2 : Int32) (v3 : Int32) : Option Int32 :=
 (gR σ a0 3 1).bind fun p1 =>
 (aI σ p1 1 v3).bind fun x2 =>
 if x2 ≤ v1 then
 b_X3_leastAbove_55 N k5 σ a0 v1 v2 v3
 else
 (gR σ a0 3 1).bind fun p4 =>
 (aI σ p4 1 v3).bind fun x5 =>
 lt_ ((if x5 < v2 then x5 else v2)) fun x6 =>
 b_X3_leastAbove_55 N k5 σ a0 v1 x6 v3
def b_X3_leastAbove_5_body (N : Nat) (k5 : Sto × Nat × Int32 × Int32 × Int32 → Option Int32) (σ : Sto) (a0 : Nat) (v1 : Int32) (v2 : Int32) (v3 : Int32) : Option Int32 :=
 (gI σ a0 3 4).bind fun x1 =>
 if x1 ≤ v3 then
 some (v2)
 else
 (gR σ a0 3 0).bind fun p3 =>
 (aI σ p3 1 v3).bind fun x4 =>
 if x4 ≤ v1 then
 b_X3_leastAbove_34 N k5 σ a0 v1 v2 v3
 else
 (gR σ a0 3 0).bind fun p6 =>
 (aI σ p6 1 v3).bind fun x7 =>
 lt_ ((if x7 < v2 then x7 else v2)) fun x8 =>
 b_X3_leastAbove_34 N k5 σ a0 v1 x8 v3
def b_X3_leastAbove_5 (N : Nat) (σ : Sto) (a0 : Nat) (v1 : Int32) (v2 : Int32) (v3 : Int32) : Option Int32 :=
  lp (fun k e => b_X3_leastAbove_5_body N k e.1 e.2.1 e.2.2.1 e.2.2.2.1 e.2.2.2.2) N (σ, a0, v1, v2, v3)
def f_X3_leastAbove (N : Nat) (σ : Sto) (a0 : Nat) (v1 : Int32) : Option Int32 :=
 b_X3_leastAbove_5 N σ a0 v1 100 0
set_option maxHeartbeats 4000000 in
set_option maxRecDepth 100000 in
theorem t_X3_leastAbove_55 {l : Launch} {g : PP} {p : Program} {e : Env} {s : State} {m : MethodId} {args : Array Value} {below : List Frame} {meth : Method} {c : Code} (C : Cx g p s m meth c cX3_leastAbove 4 "Tillhouse$Ledger") (hr : meth.sig.returnType = some .int) {N : Nat} {k5 : Sto × Nat × Int32 × Int32 × Int32 → Option Int32} {σ : Sto} {sz : Nat} {a0 : Nat} {v1 : Int32} {v2 : Int32} {v3 : Int32} {r9 : Int32}
    (h : b_X3_leastAbove_55 N k5 σ a0 v1 v2 v3 = some r9) (hk5 : ∀ (σ : Sto) (a0 : Nat) (v1 : Int32) (v2 : Int32) (v3 : Int32), k5 (σ, a0, v1, v2, v3) = some r9 → ∀ (H : Heap) (locs : List Loc) (ls : Array Slot), HS g s σ sz H locs → lv_has ls 4 [(0, .ref a0), (1, .int v1), (2, .int v2), (3, .int v3)] → W p l e (rmk 1 0 0 30) s m args below meth c H locs 0 0 (MQ below (Pst g (vI r9) σ sz) args s 0 0 (Aw g)) (F0 m 5 ls []))
    {H : Heap} {locs : List Loc} {ls : Array Slot} (hs : HS g s σ sz H locs) (hl : lv_has ls 4 [(0, .ref a0), (1, .int v1), (2, .int v2), (3, .int v3)]) : W p l e (rmk 1 0 0 30) s m args below meth c H locs 0 0 (MQ below (Pst g (vI r9) σ sz) args s 0 0 (Aw g)) (F0 m 55 ls []) := by
  unfold b_X3_leastAbove_55 at h
  replace h := ol h; obtain ⟨x1, ex1, h⟩ := h
  refine lv_iinc (v := x1) (lv' := [(3, .int x1), (0, .ref a0), (1, .int v1), (2, .int v2)]) C.1 C.2.1 dX3_leastAbove_55 hl (k := 3) rfl (by rw [ex1]; rfl) (by decide) rfl (fun ls hl => ?_)
  refine lv_goto (tgt := 5) C.1 C.2.1 dX3_leastAbove_58 (by decide) ?_
  exact hk5 σ a0 v1 v2 x1 h _ _ _ hs (lv_sub hl [1, 2, 3, 0] rfl)
set_option maxHeartbeats 4000000 in
set_option maxRecDepth 100000 in
theorem t_X3_leastAbove_34 {l : Launch} {g : PP} {p : Program} {e : Env} {s : State} {m : MethodId} {args : Array Value} {below : List Frame} {meth : Method} {c : Code} (C : Cx g p s m meth c cX3_leastAbove 4 "Tillhouse$Ledger") (hr : meth.sig.returnType = some .int) {N : Nat} {k5 : Sto × Nat × Int32 × Int32 × Int32 → Option Int32} {σ : Sto} {sz : Nat} {a0 : Nat} {v1 : Int32} {v2 : Int32} {v3 : Int32} {r9 : Int32}
    (h : b_X3_leastAbove_34 N k5 σ a0 v1 v2 v3 = some r9) (hk5 : ∀ (σ : Sto) (a0 : Nat) (v1 : Int32) (v2 : Int32) (v3 : Int32), k5 (σ, a0, v1, v2, v3) = some r9 → ∀ (H : Heap) (locs : List Loc) (ls : Array Slot), HS g s σ sz H locs → lv_has ls 4 [(0, .ref a0), (1, .int v1), (2, .int v2), (3, .int v3)] → W p l e (rmk 1 0 0 30) s m args below meth c H locs 0 0 (MQ below (Pst g (vI r9) σ sz) args s 0 0 (Aw g)) (F0 m 5 ls []))
    {H : Heap} {locs : List Loc} {ls : Array Slot} (hs : HS g s σ sz H locs) (hl : lv_has ls 4 [(0, .ref a0), (1, .int v1), (2, .int v2), (3, .int v3)]) : W p l e (rmk 1 0 0 30) s m args below meth c H locs 0 0 (MQ below (Pst g (vI r9) σ sz) args s 0 0 (Aw g)) (F0 m 34 ls []) := by
  unfold b_X3_leastAbove_34 at h
  refine lv_aload_n C.1 C.2.1 dX3_leastAbove_34 rfl (lv_at hl 0 rfl) ?_
  replace h := ob h; obtain ⟨p1, ep1, h⟩ := h
  refine sx_getV C hs fo_X3_15 (gR_v ep1) dX3_leastAbove_35 ?_
  refine lv_iload_n C.1 C.2.1 dX3_leastAbove_38 rfl (lv_at hl 3 rfl) ?_
  replace h := ob h; obtain ⟨x2, ex2, h⟩ := h
  refine sx_iald C hs ex2 dX3_leastAbove_39 ?_
  refine lv_iload_n C.1 C.2.1 dX3_leastAbove_40 rfl (lv_at hl 1 rfl) ?_
  refine lv_icmp_le (tgt := 55) C.1 C.2.1 dX3_leastAbove_41 (by decide) (fun c3 => ?_) (fun c3 => ?_)
  · replace h := ip c3 h
    exact t_X3_leastAbove_55 C hr h hk5 hs (lv_sub hl [0, 1, 2, 3] rfl)
  · replace h := iN c3 h
    refine lv_iload_n C.1 C.2.1 dX3_leastAbove_44 rfl (lv_at hl 2 rfl) ?_
    refine lv_aload_n C.1 C.2.1 dX3_leastAbove_45 rfl (lv_at hl 0 rfl) ?_
    replace h := ob h; obtain ⟨p4, ep4, h⟩ := h
    refine sx_getV C hs fo_X3_15 (gR_v ep4) dX3_leastAbove_46 ?_
    refine lv_iload_n C.1 C.2.1 dX3_leastAbove_49 rfl (lv_at hl 3 rfl) ?_
    replace h := ob h; obtain ⟨x5, ex5, h⟩ := h
    refine sx_iald C hs ex5 dX3_leastAbove_50 ?_
    refine va_mmin C.1 C.2.1 (C.2.2.1.trans hl.1.symm) C.2.2.2.1 (C.2.2.2.2.1.1 _ q1317 _) (C.2.2.2.2.1.1 _ mth_va_mmin_s _) (C.2.2.2.2.1.1 _ qmath _) (C.2.2.2.2.1.1 _ mth_va_mmin_c _) (by exact Nat.le_of_ble_eq_true rfl) (by exact Nat.le_of_ble_eq_true rfl) (by exact Nat.le_of_ble_eq_true rfl) (by exact Nat.le_of_ble_eq_true rfl) dX3_leastAbove_51 ?_
    replace h := ol h; obtain ⟨x6, ex6, h⟩ := h
    refine sx_nmI ex6 ?_
    refine lv_istore_n (lv' := [(2, .int x6), (0, .ref a0), (1, .int v1), (3, .int v3)]) C.1 C.2.1 dX3_leastAbove_54 rfl hl (by decide) rfl (fun ls hl => ?_)
    exact t_X3_leastAbove_55 C hr h hk5 hs (lv_sub hl [1, 2, 0, 3] rfl)
set_option maxHeartbeats 4000000 in
set_option maxRecDepth 100000 in
theorem tb_X3_leastAbove_5 {l : Launch} {g : PP} {p : Program} {e : Env} {s : State} {m : MethodId} {args : Array Value} {below : List Frame} {meth : Method} {c : Code} (C : Cx g p s m meth c cX3_leastAbove 4 "Tillhouse$Ledger") (hr : meth.sig.returnType = some .int) {N : Nat}  {k5 : Sto × Nat × Int32 × Int32 × Int32 → Option Int32} {σ : Sto} {sz : Nat} {a0 : Nat} {v1 : Int32} {v2 : Int32} {v3 : Int32} {r9 : Int32}
    (h : b_X3_leastAbove_5_body N k5 σ a0 v1 v2 v3 = some r9)  (hk5 : ∀ (σ : Sto) (a0 : Nat) (v1 : Int32) (v2 : Int32) (v3 : Int32), k5 (σ, a0, v1, v2, v3) = some r9 → ∀ (H : Heap) (locs : List Loc) (ls : Array Slot), HS g s σ sz H locs → lv_has ls 4 [(0, .ref a0), (1, .int v1), (2, .int v2), (3, .int v3)] → W p l e (rmk 1 0 0 30) s m args below meth c H locs 0 0 (MQ below (Pst g (vI r9) σ sz) args s 0 0 (Aw g)) (F0 m 5 ls []))
    {H : Heap} {locs : List Loc} {ls : Array Slot} (hs : HS g s σ sz H locs) (hl : lv_has ls 4 [(0, .ref a0), (1, .int v1), (2, .int v2), (3, .int v3)]) : W p l e (rmk 1 0 0 30) s m args below meth c H locs 0 0 (MQ below (Pst g (vI r9) σ sz) args s 0 0 (Aw g)) (F0 m 5 ls []) := by
  unfold b_X3_leastAbove_5_body at h
  refine lv_iload_n C.1 C.2.1 dX3_leastAbove_5 rfl (lv_at hl 3 rfl) ?_
  refine lv_aload_n C.1 C.2.1 dX3_leastAbove_6 rfl (lv_at hl 0 rfl) ?_
  replace h := ob h; obtain ⟨x1, ex1, h⟩ := h
  refine sx_getV C hs fo_X3_25 (gI_v ex1) dX3_leastAbove_7 ?_
  refine lv_icmp_ge (tgt := 61) C.1 C.2.1 dX3_leastAbove_10 (by decide) (fun c2 => ?_) (fun c2 => ?_)
  · replace h := ip c2 h
    refine lv_iload_n C.1 C.2.1 dX3_leastAbove_61 rfl (lv_at hl 2 rfl) ?_
    cases h
    exact sx_iret C hs hr rfl dX3_leastAbove_62
  · replace h := iN c2 h
    refine lv_aload_n C.1 C.2.1 dX3_leastAbove_13 rfl (lv_at hl 0 rfl) ?_
    replace h := ob h; obtain ⟨p3, ep3, h⟩ := h
    refine sx_getV C hs fo_X3_11 (gR_v ep3) dX3_leastAbove_14 ?_
    refine lv_iload_n C.1 C.2.1 dX3_leastAbove_17 rfl (lv_at hl 3 rfl) ?_
    replace h := ob h; obtain ⟨x4, ex4, h⟩ := h
    refine sx_iald C hs ex4 dX3_leastAbove_18 ?_
    refine lv_iload_n C.1 C.2.1 dX3_leastAbove_19 rfl (lv_at hl 1 rfl) ?_
    refine lv_icmp_le (tgt := 34) C.1 C.2.1 dX3_leastAbove_20 (by decide) (fun c5 => ?_) (fun c5 => ?_)
    · replace h := ip c5 h
      exact t_X3_leastAbove_34 C hr h hk5 hs (lv_sub hl [0, 1, 2, 3] rfl)
    · replace h := iN c5 h
      refine lv_iload_n C.1 C.2.1 dX3_leastAbove_23 rfl (lv_at hl 2 rfl) ?_
      refine lv_aload_n C.1 C.2.1 dX3_leastAbove_24 rfl (lv_at hl 0 rfl) ?_
      replace h := ob h; obtain ⟨p6, ep6, h⟩ := h
      refine sx_getV C hs fo_X3_11 (gR_v ep6) dX3_leastAbove_25 ?_
      refine lv_iload_n C.1 C.2.1 dX3_leastAbove_28 rfl (lv_at hl 3 rfl) ?_
      replace h := ob h; obtain ⟨x7, ex7, h⟩ := h
      refine sx_iald C hs ex7 dX3_leastAbove_29 ?_
      refine va_mmin C.1 C.2.1 (C.2.2.1.trans hl.1.symm) C.2.2.2.1 (C.2.2.2.2.1.1 _ q1317 _) (C.2.2.2.2.1.1 _ mth_va_mmin_s _) (C.2.2.2.2.1.1 _ qmath _) (C.2.2.2.2.1.1 _ mth_va_mmin_c _) (by exact Nat.le_of_ble_eq_true rfl) (by exact Nat.le_of_ble_eq_true rfl) (by exact Nat.le_of_ble_eq_true rfl) (by exact Nat.le_of_ble_eq_true rfl) dX3_leastAbove_30 ?_
      replace h := ol h; obtain ⟨x8, ex8, h⟩ := h
      refine sx_nmI ex8 ?_
      refine lv_istore_n (lv' := [(2, .int x8), (0, .ref a0), (1, .int v1), (3, .int v3)]) C.1 C.2.1 dX3_leastAbove_33 rfl hl (by decide) rfl (fun ls hl => ?_)
      exact t_X3_leastAbove_34 C hr h hk5 hs (lv_sub hl [1, 2, 0, 3] rfl)
set_option maxHeartbeats 4000000 in
set_option maxRecDepth 100000 in
theorem tl_X3_leastAbove_5 {l : Launch} {g : PP} {p : Program} {e : Env} {s : State} {m : MethodId} {args : Array Value} {below : List Frame} {meth : Method} {c : Code} (C : Cx g p s m meth c cX3_leastAbove 4 "Tillhouse$Ledger") (hr : meth.sig.returnType = some .int) {N : Nat}   {sz : Nat} {r9 : Int32}  : ∀ (n : Nat) (σ : Sto) (a0 : Nat) (v1 : Int32) (v2 : Int32) (v3 : Int32), lp (fun k e => b_X3_leastAbove_5_body N k e.1 e.2.1 e.2.2.1 e.2.2.2.1 e.2.2.2.2) n (σ, a0, v1, v2, v3) = some r9 → ∀ (H : Heap) (locs : List Loc) (ls : Array Slot), HS g s σ sz H locs → lv_has ls 4 [(0, .ref a0), (1, .int v1), (2, .int v2), (3, .int v3)] → W p l e (rmk 1 0 0 30) s m args below meth c H locs 0 0 (MQ below (Pst g (vI r9) σ sz) args s 0 0 (Aw g)) (F0 m 5 ls []) := by
  intro n
  induction n with
  | zero => intro σ a0 v1 v2 v3 h; exact absurd h (fun q => nomatch q)
  | succ n ih =>
    intro σ a0 v1 v2 v3 h H locs ls hs hl
    exact tb_X3_leastAbove_5 (N := N) C hr h (fun σ a0 v1 v2 v3 h H locs ls hs hl => ih σ a0 v1 v2 v3 h H locs ls hs hl) hs hl
set_option maxHeartbeats 4000000 in
set_option maxRecDepth 100000 in
theorem t_X3_leastAbove_5 {l : Launch} {g : PP} {p : Program} {e : Env} {s : State} {m : MethodId} {args : Array Value} {below : List Frame} {meth : Method} {c : Code} (C : Cx g p s m meth c cX3_leastAbove 4 "Tillhouse$Ledger") (hr : meth.sig.returnType = some .int) {N : Nat}  {σ : Sto} {sz : Nat} {a0 : Nat} {v1 : Int32} {v2 : Int32} {v3 : Int32} {r9 : Int32}
    (h : b_X3_leastAbove_5 N σ a0 v1 v2 v3 = some r9) 
    {H : Heap} {locs : List Loc} {ls : Array Slot} (hs : HS g s σ sz H locs) (hl : lv_has ls 4 [(0, .ref a0), (1, .int v1), (2, .int v2), (3, .int v3)]) : W p l e (rmk 1 0 0 30) s m args below meth c H locs 0 0 (MQ below (Pst g (vI r9) σ sz) args s 0 0 (Aw g)) (F0 m 5 ls []) := tl_X3_leastAbove_5 C hr N σ a0 v1 v2 v3 h H locs ls hs hl
set_option maxHeartbeats 4000000 in
set_option maxRecDepth 100000 in
theorem c_X3_leastAbove {l : Launch} {g : PP} {N : Nat} {σ : Sto} {sz : Nat} {a0 : Nat} {v1 : Int32} {r9 : Int32} (h : f_X3_leastAbove N σ a0 v1 = some r9) : Met l yX3_leastAbove [Cond.code yX3_leastAbove cX3_leastAbove 4 (some .int)] (rmk 1 0 0 30) (Pre g σ sz [.ref a0, .int v1]) (Pst g (vI r9) σ sz) 0 0 (Aw g) := by
  refine Met.ofW (cc := cX3_leastAbove) (maxL := 4) (ret := (some .int)) (by decide) rfl ?_
  intro p e s m args below meth c s₁ B hml hv
  obtain ⟨rfl, C, hs⟩ := ctx_of B hml hv
  have C : Cx g p s m meth c cX3_leastAbove 4 "Tillhouse$Ledger" := C
  have hr := B.returns
  have hl := lv_entry ([.ref a0, .int v1]) (n := 4) (Nat.le_of_ble_eq_true rfl)
  rw [lg_entry_eq]
  generalize (lg_sl ([.ref a0, .int v1]) ++ List.replicate (4 - (lg_sl ([.ref a0, .int v1])).length) Slot.unset).toArray = ls at hl ⊢
  have hl : lv_has ls 4 [(0, .ref a0), (1, .int v1)] := hl
  unfold f_X3_leastAbove at h
  refine lv_bipush (v := 100) C.1 C.2.1 dX3_leastAbove_0 (by decide) ?_
  refine lv_istore_n (lv' := [(2, .int 100), (0, .ref a0), (1, .int v1)]) C.1 C.2.1 dX3_leastAbove_2 rfl hl (by decide) rfl (fun ls hl => ?_)
  refine lv_iconst (v := 0) C.1 C.2.1 dX3_leastAbove_3 (by decide) ?_
  refine lv_istore_n (lv' := [(3, .int 0), (2, .int 100), (0, .ref a0), (1, .int v1)]) C.1 C.2.1 dX3_leastAbove_4 rfl hl (by decide) rfl (fun ls hl => ?_)
  exact t_X3_leastAbove_5 C hr h hs (lv_sub hl [2, 3, 1, 0] rfl)
def f_X3_isEven (N : Nat) (σ : Sto) (a0 : Nat) : Option Int32 :=
 (isO σ a0 3).bind fun _ =>
 (f_X3_sum N σ a0 0 99 1).bind fun x2 =>
 (f_X3_sum N σ a0 0 99 0).bind fun x3 =>
 if x2 = x3 then
 some (1)
 else
 some (0)
set_option maxHeartbeats 4000000 in
set_option maxRecDepth 100000 in
theorem c_X3_isEven {l : Launch} {g : PP} {N : Nat} {σ : Sto} {sz : Nat} {a0 : Nat} {r9 : Int32} (h : f_X3_isEven N σ a0 = some r9) : Met l yX3_isEven [Cond.code yX3_isEven cX3_isEven 1 (some .boolean)] (rmk 1 0 0 27) (Pre g σ sz [.ref a0]) (Pst g (vI r9) σ sz) 0 0 (Aw g) := by
  refine Met.ofW (cc := cX3_isEven) (maxL := 1) (ret := (some .boolean)) (by decide) rfl ?_
  intro p e s m args below meth c s₁ B hml hv
  obtain ⟨rfl, C, hs⟩ := ctx_of B hml hv
  have C : Cx g p s m meth c cX3_isEven 1 "Tillhouse$Ledger" := C
  have hr := B.returns
  have hl := lv_entry ([.ref a0]) (n := 1) (Nat.le_of_ble_eq_true rfl)
  rw [lg_entry_eq]
  generalize (lg_sl ([.ref a0]) ++ List.replicate (1 - (lg_sl ([.ref a0])).length) Slot.unset).toArray = ls at hl ⊢
  have hl : lv_has ls 1 [(0, .ref a0)] := hl
  unfold f_X3_isEven at h
  refine lv_aload_n C.1 C.2.1 dX3_isEven_0 rfl (lv_at hl 0 rfl) ?_
  refine lv_iconst (v := 0) C.1 C.2.1 dX3_isEven_1 (by decide) ?_
  refine lv_bipush (v := 99) C.1 C.2.1 dX3_isEven_2 (by decide) ?_
  refine lv_iconst (v := 1) C.1 C.2.1 dX3_isEven_4 (by decide) ?_
  replace h := ob h; obtain ⟨⟨⟩, i1, h⟩ := h
  replace h := ob h; obtain ⟨x2, ex2, h⟩ := h
  refine sx_callV (As := [.int 0, .int 99, .int 1]) (rest := []) C hs (c_X3_sum ex2) mo_X3_sum q324 i1 rfl rfl hl.1 ⟨⟨(Nat.le_of_ble_eq_true rfl), (Nat.le_of_ble_eq_true rfl)⟩, (Nat.le_of_ble_eq_true rfl), (Nat.le_of_ble_eq_true rfl)⟩ rfl (Nat.le_of_ble_eq_true rfl) dX3_isEven_5 (fun H locs hs => ?_)
  refine W.eq (g2 := F0 m 8 ls [.long x2]) rfl ?_
  refine lv_aload_n C.1 C.2.1 dX3_isEven_8 rfl (lv_at hl 0 rfl) ?_
  refine lv_iconst (v := 0) C.1 C.2.1 dX3_isEven_9 (by decide) ?_
  refine lv_bipush (v := 99) C.1 C.2.1 dX3_isEven_10 (by decide) ?_
  refine lv_iconst (v := 0) C.1 C.2.1 dX3_isEven_12 (by decide) ?_
  replace h := ob h; obtain ⟨x3, ex3, h⟩ := h
  refine sx_callV (As := [.int 0, .int 99, .int 0]) (rest := [.long x2]) C hs (c_X3_sum ex3) mo_X3_sum q324 i1 rfl rfl hl.1 ⟨⟨(Nat.le_of_ble_eq_true rfl), (Nat.le_of_ble_eq_true rfl)⟩, (Nat.le_of_ble_eq_true rfl), (Nat.le_of_ble_eq_true rfl)⟩ rfl (Nat.le_of_ble_eq_true rfl) dX3_isEven_13 (fun H locs hs => ?_)
  refine W.eq (g2 := F0 m 16 ls [.long x3, .long x2]) rfl ?_
  refine W.lcmp C.1 C.2.1 dX3_isEven_16 ?_
  refine lv_if_ne (tgt := 24) C.1 C.2.1 dX3_isEven_17 (by decide) (fun c4 => ?_) (fun c4 => ?_)
  · replace h := iN (fun q => c4 ((lg_cmp_eq _ _).mpr q)) h
    refine lv_iconst (v := 0) C.1 C.2.1 dX3_isEven_24 (by decide) ?_
    cases h
    exact sx_iret C hs hr (by decide) dX3_isEven_25
  · replace h := ip ((lg_cmp_eq _ _).mp c4) h
    refine lv_iconst (v := 1) C.1 C.2.1 dX3_isEven_20 (by decide) ?_
    refine lv_goto (tgt := 25) C.1 C.2.1 dX3_isEven_21 (by decide) ?_
    cases h
    exact sx_iret C hs hr (by decide) dX3_isEven_25
def f_X4_init (σ : Sto) (sz : Nat) (a0 : Nat) : Option (Unit × Sto × Nat) :=
 lt_ (nA σ sz 2 120 z2) fun τ1 =>
 (pF τ1 a0 4 0 (.ref sz)).bind fun τ2 =>
 lt_ (nA τ2 (sz + 1) 2 120 z2) fun τ3 =>
 (pF τ3 a0 4 1 (.ref (sz + 1))).bind fun τ4 =>
 lt_ (nA τ4 (sz + 2) 2 120 z2) fun τ5 =>
 (pF τ5 a0 4 2 (.ref (sz + 2))).bind fun τ6 =>
 (pF τ6 a0 4 3 (.int 0)).bind fun τ7 =>
 (pF τ7 a0 4 4 (.long 0)).bind fun τ8 =>
 some ((), τ8, sz + 3)
set_option maxHeartbeats 4000000 in
set_option maxRecDepth 100000 in
theorem c_X4_init {l : Launch} {g : PP} {σ : Sto} {sz : Nat} {a0 : Nat} {r9 : Unit} {σ9 : Sto} {sz9 : Nat} (h : f_X4_init σ sz a0 = some (r9, σ9, sz9)) : Met l yX4_init [Cond.code yX4_init cX4_init 1 none] (rmk 1 3 360 20) (Pre g σ sz [.ref a0]) (Pst g (vV r9) σ9 sz9) 3 360 (Aw g) := by
  refine Met.ofW (cc := cX4_init) (maxL := 1) (ret := none) (by decide) rfl ?_
  intro p e s m args below meth c s₁ B hml hv
  obtain ⟨rfl, C, hs⟩ := ctx_of B hml hv
  have C : Cx g p s m meth c cX4_init 1 "Tillhouse$Loan" := C
  have hr := B.returns
  have hin : meth.name = "<init>" := (name_of_methodNamed B.named B.method).1
  have hl := lv_entry ([.ref a0]) (n := 1) (Nat.le_of_ble_eq_true rfl)
  rw [lg_entry_eq]
  generalize (lg_sl ([.ref a0]) ++ List.replicate (1 - (lg_sl ([.ref a0])).length) Slot.unset).toArray = ls at hl ⊢
  have hl : lv_has ls 1 [(0, .ref a0)] := hl
  unfold f_X4_init at h
  refine lv_aload_n C.1 C.2.1 dX4_init_0 rfl (lv_at hl 0 rfl) ?_
  refine sx_objInit C hl q152 qobj1 qobj2 dX4_init_1 (Nat.le_of_ble_eq_true rfl) (Nat.le_of_ble_eq_true rfl) ?_
  refine lv_aload_n C.1 C.2.1 dX4_init_4 rfl (lv_at hl 0 rfl) ?_
  refine lv_bipush (v := 120) C.1 C.2.1 dX4_init_5 (by decide) ?_
  replace h := ol h; obtain ⟨τ1, eτ1, h⟩ := h
  refine sx_newa (atype := .long) (k := 2) (N := 120) (f := z2) C hs (by decide) rfl q146 (fun _ => rfl) (by decide) (by decide +kernel) (Nat.le_of_ble_eq_true rfl) (Nat.le_of_ble_eq_true rfl) (Nat.le_of_ble_eq_true rfl) dX4_init_7 (fun H hs => ?_)
  replace hs := HS.nm eτ1 hs
  replace h := ob h; obtain ⟨τ2, eτ2, h⟩ := h
  refine sx_putF C hs fi_X4_9 hin rfl rfl eτ2 dX4_init_9 (fun H locs hs => ?_)
  refine lv_aload_n C.1 C.2.1 dX4_init_12 rfl (lv_at hl 0 rfl) ?_
  refine lv_bipush (v := 120) C.1 C.2.1 dX4_init_13 (by decide) ?_
  replace h := ol h; obtain ⟨τ3, eτ3, h⟩ := h
  refine sx_newa (atype := .long) (k := 2) (N := 120) (f := z2) C hs (by decide) rfl q146 (fun _ => rfl) (by decide) (by decide +kernel) (Nat.le_of_ble_eq_true rfl) (Nat.le_of_ble_eq_true rfl) (Nat.le_of_ble_eq_true rfl) dX4_init_15 (fun H hs => ?_)
  replace hs := HS.nm eτ3 hs
  replace h := ob h; obtain ⟨τ4, eτ4, h⟩ := h
  refine sx_putF C hs fi_X4_13 hin rfl rfl eτ4 dX4_init_17 (fun H locs hs => ?_)
  refine lv_aload_n C.1 C.2.1 dX4_init_20 rfl (lv_at hl 0 rfl) ?_
  refine lv_bipush (v := 120) C.1 C.2.1 dX4_init_21 (by decide) ?_
  replace h := ol h; obtain ⟨τ5, eτ5, h⟩ := h
  refine sx_newa (atype := .long) (k := 2) (N := 120) (f := z2) C hs (by decide) rfl q146 (fun _ => rfl) (by decide) (by decide +kernel) (Nat.le_of_ble_eq_true rfl) (Nat.le_of_ble_eq_true rfl) (Nat.le_of_ble_eq_true rfl) dX4_init_23 (fun H hs => ?_)
  replace hs := HS.nm eτ5 hs
  replace h := ob h; obtain ⟨τ6, eτ6, h⟩ := h
  refine sx_putF C hs fi_X4_16 hin rfl rfl eτ6 dX4_init_25 (fun H locs hs => ?_)
  refine lv_aload_n C.1 C.2.1 dX4_init_28 rfl (lv_at hl 0 rfl) ?_
  refine lv_iconst (v := 0) C.1 C.2.1 dX4_init_29 (by decide) ?_
  replace h := ob h; obtain ⟨τ7, eτ7, h⟩ := h
  refine sx_put C hs fp_X4_19 rfl rfl eτ7 dX4_init_30 (fun H locs hs => ?_)
  refine lv_aload_n C.1 C.2.1 dX4_init_33 rfl (lv_at hl 0 rfl) ?_
  refine lv_lconst (v := 0) C.1 C.2.1 dX4_init_34 (by decide) ?_
  replace h := ob h; obtain ⟨τ8, eτ8, h⟩ := h
  refine sx_put C hs fp_X4_23 rfl rfl eτ8 dX4_init_35 (fun H locs hs => ?_)
  cases h
  exact sx_vret C hs hr dX4_init_38
def f_X4_monthOf (v0 : Int64) (v2 : Int32) : Option ((Nat ⊕ Int64)) :=
 (f_X6_quotient (v0 * (Int32.toInt64 v2)) 120000 101).bind fun u2 =>
 bs u2 (fun j3 => some (.inl j3)) fun x1 =>
 some (.inr x1)
set_option maxHeartbeats 4000000 in
set_option maxRecDepth 100000 in
theorem c_X4_monthOf {l : Launch} (hfl : l.stackTraces = false) {g : PP} {σ : Sto} {sz : Nat} {v0 : Int64} {v2 : Int32} {r9 : Nat ⊕ Int64} (h : f_X4_monthOf v0 v2 = some r9) : vx_Met l yX4_monthOf [Cond.code yX4_monthOf cX4_monthOf 3 (some .long)] (rmk 10 (cX r9) (cY r9) 201) (Pre g σ sz [.long v0, .int v2]) (PstX g (Sum.map id vL r9) σ sz) (XpX g (Sum.map id vL r9) σ sz) (cX r9) (cY r9) (Aw g) := by
  refine vx_ofW (cc := cX4_monthOf) (maxL := 3) (ret := (some .long)) (by decide) rfl ?_
  intro p e s m args below meth c s₁ B hml ht hv
  obtain ⟨rfl, C, hs⟩ := ctx_of B hml hv
  have C : Cx g p s m meth c cX4_monthOf 3 "Tillhouse$Loan" := C
  have hr := B.returns
  have hl := lv_entry ([.long v0, .int v2]) (n := 3) (Nat.le_of_ble_eq_true rfl)
  rw [lg_entry_eq]
  generalize (lg_sl ([.long v0, .int v2]) ++ List.replicate (3 - (lg_sl ([.long v0, .int v2])).length) Slot.unset).toArray = ls at hl ⊢
  have hl : lv_has ls 3 [(0, .long v0), (2, .int v2)] := hl
  unfold f_X4_monthOf at h
  refine lv_lload_n C.1 C.2.1 dX4_monthOf_0 rfl (lv_at hl 0 rfl) ?_
  refine lv_iload_n C.1 C.2.1 dX4_monthOf_1 rfl (lv_at hl 1 rfl) ?_
  refine lv_i2l (v := Int32.toInt64 v2) C.1 C.2.1 dX4_monthOf_2 rfl ?_
  refine lv_lmul C.1 C.2.1 dX4_monthOf_3 ?_
  refine lv_ldc2 (v := 120000) C.1 C.2.1 C.2.2.2.1 (C.2.2.2.2.1.1 _ q1214 _) dX4_monthOf_4 ?_
  refine lv_bipush (v := 101) C.1 C.2.1 dX4_monthOf_7 (by decide) ?_
  replace h := ob h; obtain ⟨u2, ex1, h⟩ := h
  rcases u2 with j3 | x1
  · replace h := bsl h
    cases h
    refine sx_xcallS (As := [.long (v0 * (Int32.toInt64 v2)), .long 120000, .int 101]) (rest := []) C hs (c_X6_quotient hfl ex1) mo_X6_quotient q1215 rfl hl.1 ⟨⟨(Nat.le_of_ble_eq_true rfl), (Nat.le_of_ble_eq_true rfl)⟩, (Nat.le_of_ble_eq_true rfl), (Nat.le_of_ble_eq_true rfl)⟩ rfl (Nat.le_of_ble_eq_true rfl) dX4_monthOf_9 (fun k9 hk9 ce q9 H locs a1 a2 a3 a4 a5 a6 => ?_) (fun vr hv => (inlr hv).elim)
    obtain rfl := Sum.inl.inj hk9
    exact sx_out C ht a1 a2 a3 a4 a5 a6 (Nat.le_of_ble_eq_true rfl) (Nat.le_of_ble_eq_true rfl)
  · replace h := bsr h
    refine sx_xcallS (As := [.long (v0 * (Int32.toInt64 v2)), .long 120000, .int 101]) (rest := []) C hs (c_X6_quotient hfl ex1) mo_X6_quotient q1215 rfl hl.1 ⟨⟨(Nat.le_of_ble_eq_true rfl), (Nat.le_of_ble_eq_true rfl)⟩, (Nat.le_of_ble_eq_true rfl), (Nat.le_of_ble_eq_true rfl)⟩ rfl (Nat.le_of_ble_eq_true rfl) dX4_monthOf_9 (fun k9 hk9 => (inrl hk9).elim) (fun vr hv H locs hs => ?_)
    obtain rfl := Sum.inr.inj hv
    refine W.eq (g2 := F0 m 12 ls [.long x1]) rfl ?_
    refine W.widen (k := 0) (n := 0) (Nat.le_of_ble_eq_true rfl) (Nat.le_of_ble_eq_true rfl) ?_
    cases h
    exact sx_lretX C hs hr dX4_monthOf_12
def f_X4_paidOf (v0 : Int64) (v2 : Int32) (v3 : Int64) : Option ((Nat ⊕ Int64)) :=
 (f_X4_monthOf v0 v2).bind fun u2 =>
 bs u2 (fun j3 => some (.inl j3)) fun x1 =>
 some (.inr (if (v3 - x1) < v0 then (v3 - x1) else v0))
set_option maxHeartbeats 4000000 in
set_option maxRecDepth 100000 in
theorem c_X4_paidOf {l : Launch} (hfl : l.stackTraces = false) {g : PP} {σ : Sto} {sz : Nat} {v0 : Int64} {v2 : Int32} {v3 : Int64} {r9 : Nat ⊕ Int64} (h : f_X4_paidOf v0 v2 v3 = some r9) : vx_Met l yX4_paidOf [Cond.code yX4_paidOf cX4_paidOf 5 (some .long)] (rmk 11 (cX r9) (cY r9) 223) (Pre g σ sz [.long v0, .int v2, .long v3]) (PstX g (Sum.map id vL r9) σ sz) (XpX g (Sum.map id vL r9) σ sz) (cX r9) (cY r9) (Aw g) := by
  refine vx_ofW (cc := cX4_paidOf) (maxL := 5) (ret := (some .long)) (by decide) rfl ?_
  intro p e s m args below meth c s₁ B hml ht hv
  obtain ⟨rfl, C, hs⟩ := ctx_of B hml hv
  have C : Cx g p s m meth c cX4_paidOf 5 "Tillhouse$Loan" := C
  have hr := B.returns
  have hl := lv_entry ([.long v0, .int v2, .long v3]) (n := 5) (Nat.le_of_ble_eq_true rfl)
  rw [lg_entry_eq]
  generalize (lg_sl ([.long v0, .int v2, .long v3]) ++ List.replicate (5 - (lg_sl ([.long v0, .int v2, .long v3])).length) Slot.unset).toArray = ls at hl ⊢
  have hl : lv_has ls 5 [(0, .long v0), (2, .int v2), (3, .long v3)] := hl
  unfold f_X4_paidOf at h
  refine lv_lload_n C.1 C.2.1 dX4_paidOf_0 rfl (lv_at hl 0 rfl) ?_
  refine lv_lload_n C.1 C.2.1 dX4_paidOf_1 rfl (lv_at hl 2 rfl) ?_
  refine lv_lload_n C.1 C.2.1 dX4_paidOf_2 rfl (lv_at hl 0 rfl) ?_
  refine lv_iload_n C.1 C.2.1 dX4_paidOf_3 rfl (lv_at hl 1 rfl) ?_
  replace h := ob h; obtain ⟨u2, ex1, h⟩ := h
  rcases u2 with j3 | x1
  · replace h := bsl h
    cases h
    refine sx_xcallS (As := [.long v0, .int v2]) (rest := [.long v3, .long v0]) C hs (c_X4_monthOf hfl ex1) mo_X4_monthOf q1223 rfl hl.1 ⟨⟨(Nat.le_of_ble_eq_true rfl), (Nat.le_of_ble_eq_true rfl)⟩, (Nat.le_of_ble_eq_true rfl), (Nat.le_of_ble_eq_true rfl)⟩ rfl (Nat.le_of_ble_eq_true rfl) dX4_paidOf_4 (fun k9 hk9 ce q9 H locs a1 a2 a3 a4 a5 a6 => ?_) (fun vr hv => (inlr hv).elim)
    obtain rfl := Sum.inl.inj hk9
    exact sx_out C ht a1 a2 a3 a4 a5 a6 (Nat.le_of_ble_eq_true rfl) (Nat.le_of_ble_eq_true rfl)
  · replace h := bsr h
    refine sx_xcallS (As := [.long v0, .int v2]) (rest := [.long v3, .long v0]) C hs (c_X4_monthOf hfl ex1) mo_X4_monthOf q1223 rfl hl.1 ⟨⟨(Nat.le_of_ble_eq_true rfl), (Nat.le_of_ble_eq_true rfl)⟩, (Nat.le_of_ble_eq_true rfl), (Nat.le_of_ble_eq_true rfl)⟩ rfl (Nat.le_of_ble_eq_true rfl) dX4_paidOf_4 (fun k9 hk9 => (inrl hk9).elim) (fun vr hv H locs hs => ?_)
    obtain rfl := Sum.inr.inj hv
    refine W.eq (g2 := F0 m 7 ls [.long x1, .long v3, .long v0]) rfl ?_
    refine W.widen (k := 0) (n := 0) (Nat.le_of_ble_eq_true rfl) (Nat.le_of_ble_eq_true rfl) ?_
    refine lv_lsub C.1 C.2.1 dX4_paidOf_7 ?_
    refine va_mmin_long C.1 C.2.1 (C.2.2.1.trans hl.1.symm) C.2.2.2.1 (C.2.2.2.2.1.1 _ q1224 _) (C.2.2.2.2.1.1 _ mth_va_mmin_long_s _) (C.2.2.2.2.1.1 _ qmath _) (C.2.2.2.2.1.1 _ mth_va_mmin_long_c _) (by exact Nat.le_of_ble_eq_true rfl) (by exact Nat.le_of_ble_eq_true rfl) (by exact Nat.le_of_ble_eq_true rfl) (by exact Nat.le_of_ble_eq_true rfl) dX4_paidOf_8 ?_
    cases h
    exact sx_lretX C hs hr dX4_paidOf_11
def b_X4_countFor_6_body (N : Nat) (k6 : Int32 × Int64 × Int64 × Int32 → Option ((Nat ⊕ Int32))) (v2 : Int32) (v3 : Int64) (v5 : Int64) (v7 : Int32) : Option ((Nat ⊕ Int32)) :=
 if v5 ≤ 0 then
 some (.inr v7)
 else
 if 120 < v7 then
 some (.inr v7)
 else
 (f_X4_paidOf v5 v2 v3).bind fun u4 =>
 bs u4 (fun j5 => some (.inl j5)) fun x3 =>
 lt_ (v5 - x3) fun x6 =>
 lt_ (v7 + 1) fun x7 =>
 k6 (v2, v3, x6, x7)
def b_X4_countFor_6 (N : Nat) (v2 : Int32) (v3 : Int64) (v5 : Int64) (v7 : Int32) : Option ((Nat ⊕ Int32)) :=
  lp (fun k e => b_X4_countFor_6_body N k e.1 e.2.1 e.2.2.1 e.2.2.2) N (v2, v3, v5, v7)
def f_X4_countFor (N : Nat) (v0 : Int64) (v2 : Int32) (v3 : Int64) : Option ((Nat ⊕ Int32)) :=
 b_X4_countFor_6 N v2 v3 v0 0
set_option maxHeartbeats 4000000 in
set_option maxRecDepth 100000 in
theorem tb_X4_countFor_6 {l : Launch} {g : PP} {p : Program} {e : Env} {s : State} {m : MethodId} {args : Array Value} {below : List Frame} {meth : Method} {c : Code} (hfl : l.stackTraces = false) (C : Cx g p s m meth c cX4_countFor 8 "Tillhouse$Loan") (hr : meth.sig.returnType = some .int) (ht : ∀ x ∈ c.exceptionTable.toList, False) {N : Nat}  {k6 : Int32 × Int64 × Int64 × Int32 → Option ((Nat ⊕ Int32))} {σ : Sto} {sz : Nat} {v2 : Int32} {v3 : Int64} {v5 : Int64} {v7 : Int32} {r9 : Nat ⊕ Int32}
    (h : b_X4_countFor_6_body N k6 v2 v3 v5 v7 = some r9)  (hk6 : ∀ (v2 : Int32) (v3 : Int64) (v5 : Int64) (v7 : Int32), k6 (v2, v3, v5, v7) = some r9 → ∀ (H : Heap) (locs : List Loc) (ls : Array Slot), HS g s σ sz H locs → lv_has ls 8 [(2, .int v2), (3, .long v3), (5, .long v5), (7, .int v7)] → W p l e (rmk 12 (cX r9) (cY r9) 247) s m args below meth c H locs 0 0 (vx_MQ below (PstX g (Sum.map id vI r9) σ sz) (XpX g (Sum.map id vI r9) σ sz) args s (cX r9) (cY r9) (Aw g)) (F0 m 6 ls []))
    {H : Heap} {locs : List Loc} {ls : Array Slot} (hs : HS g s σ sz H locs) (hl : lv_has ls 8 [(2, .int v2), (3, .long v3), (5, .long v5), (7, .int v7)]) : W p l e (rmk 12 (cX r9) (cY r9) 247) s m args below meth c H locs 0 0 (vx_MQ below (PstX g (Sum.map id vI r9) σ sz) (XpX g (Sum.map id vI r9) σ sz) args s (cX r9) (cY r9) (Aw g)) (F0 m 6 ls []) := by
  unfold b_X4_countFor_6_body at h
  refine lv_lload C.1 C.2.1 dX4_countFor_6 (lv_at hl 2 rfl) ?_
  refine lv_lconst (v := 0) C.1 C.2.1 dX4_countFor_8 (by decide) ?_
  refine W.lcmp C.1 C.2.1 dX4_countFor_9 ?_
  refine lv_if_le (tgt := 38) C.1 C.2.1 dX4_countFor_10 (by decide) (fun c1 => ?_) (fun c1 => ?_)
  · replace h := ip ((lg_cmp_le _ _).mp c1) h
    refine lv_iload C.1 C.2.1 dX4_countFor_38 (lv_at hl 3 rfl) ?_
    cases h
    exact sx_iretX C hs hr rfl dX4_countFor_40
  · replace h := iN (fun q => c1 ((lg_cmp_le _ _).mpr q)) h
    refine lv_iload C.1 C.2.1 dX4_countFor_13 (lv_at hl 3 rfl) ?_
    refine lv_bipush (v := 120) C.1 C.2.1 dX4_countFor_15 (by decide) ?_
    refine lv_icmp_gt (tgt := 38) C.1 C.2.1 dX4_countFor_17 (by decide) (fun c2 => ?_) (fun c2 => ?_)
    · replace h := ip c2 h
      refine lv_iload C.1 C.2.1 dX4_countFor_38 (lv_at hl 3 rfl) ?_
      cases h
      exact sx_iretX C hs hr rfl dX4_countFor_40
    · replace h := iN c2 h
      refine lv_lload C.1 C.2.1 dX4_countFor_20 (lv_at hl 2 rfl) ?_
      refine lv_lload C.1 C.2.1 dX4_countFor_22 (lv_at hl 2 rfl) ?_
      refine lv_iload_n C.1 C.2.1 dX4_countFor_24 rfl (lv_at hl 0 rfl) ?_
      refine lv_lload_n C.1 C.2.1 dX4_countFor_25 rfl (lv_at hl 1 rfl) ?_
      replace h := ob h; obtain ⟨u4, ex3, h⟩ := h
      rcases u4 with j5 | x3
      · replace h := bsl h
        cases h
        refine sx_xcallS (As := [.long v5, .int v2, .long v3]) (rest := [.long v5]) C hs (c_X4_paidOf hfl ex3) mo_X4_paidOf q1220 rfl hl.1 ⟨⟨(Nat.le_of_ble_eq_true rfl), (Nat.le_of_ble_eq_true rfl)⟩, (Nat.le_of_ble_eq_true rfl), (Nat.le_of_ble_eq_true rfl)⟩ rfl (Nat.le_of_ble_eq_true rfl) dX4_countFor_26 (fun k9 hk9 ce q9 H locs a1 a2 a3 a4 a5 a6 => ?_) (fun vr hv => (inlr hv).elim)
        obtain rfl := Sum.inl.inj hk9
        exact sx_out C ht a1 a2 a3 a4 a5 a6 (Nat.le_of_ble_eq_true rfl) (Nat.le_of_ble_eq_true rfl)
      · replace h := bsr h
        refine sx_xcallS (As := [.long v5, .int v2, .long v3]) (rest := [.long v5]) C hs (c_X4_paidOf hfl ex3) mo_X4_paidOf q1220 rfl hl.1 ⟨⟨(Nat.le_of_ble_eq_true rfl), (Nat.le_of_ble_eq_true rfl)⟩, (Nat.le_of_ble_eq_true rfl), (Nat.le_of_ble_eq_true rfl)⟩ rfl (Nat.le_of_ble_eq_true rfl) dX4_countFor_26 (fun k9 hk9 => (inrl hk9).elim) (fun vr hv H locs hs => ?_)
        obtain rfl := Sum.inr.inj hv
        refine W.eq (g2 := F0 m 29 ls [.long x3, .long v5]) rfl ?_
        refine W.widen (k := 0) (n := 0) (Nat.le_of_ble_eq_true rfl) (Nat.le_of_ble_eq_true rfl) ?_
        refine lv_lsub C.1 C.2.1 dX4_countFor_29 ?_
        replace h := ol h; obtain ⟨x6, ex6, h⟩ := h
        refine sx_nmL ex6 ?_
        refine lv_lstore (lv' := [(5, .long x6), (2, .int v2), (3, .long v3), (7, .int v7)]) C.1 C.2.1 dX4_countFor_30 hl (by decide) rfl (fun ls hl => ?_)
        replace h := ol h; obtain ⟨x7, ex7, h⟩ := h
        refine lv_iinc (v := x7) (lv' := [(7, .int x7), (5, .long x6), (2, .int v2), (3, .long v3)]) C.1 C.2.1 dX4_countFor_32 hl (k := 3) rfl (by rw [ex7]; rfl) (by decide) rfl (fun ls hl => ?_)
        refine lv_goto (tgt := 6) C.1 C.2.1 dX4_countFor_35 (by decide) ?_
        exact hk6 v2 v3 x6 x7 h _ _ _ hs (lv_sub hl [2, 3, 1, 0] rfl)
set_option maxHeartbeats 4000000 in
set_option maxRecDepth 100000 in
theorem tl_X4_countFor_6 {l : Launch} {g : PP} {p : Program} {e : Env} {s : State} {m : MethodId} {args : Array Value} {below : List Frame} {meth : Method} {c : Code} (hfl : l.stackTraces = false) (C : Cx g p s m meth c cX4_countFor 8 "Tillhouse$Loan") (hr : meth.sig.returnType = some .int) (ht : ∀ x ∈ c.exceptionTable.toList, False) {N : Nat}  {σ : Sto} {sz : Nat} {r9 : Nat ⊕ Int32}  : ∀ (n : Nat) (v2 : Int32) (v3 : Int64) (v5 : Int64) (v7 : Int32), lp (fun k e => b_X4_countFor_6_body N k e.1 e.2.1 e.2.2.1 e.2.2.2) n (v2, v3, v5, v7) = some r9 → ∀ (H : Heap) (locs : List Loc) (ls : Array Slot), HS g s σ sz H locs → lv_has ls 8 [(2, .int v2), (3, .long v3), (5, .long v5), (7, .int v7)] → W p l e (rmk 12 (cX r9) (cY r9) 247) s m args below meth c H locs 0 0 (vx_MQ below (PstX g (Sum.map id vI r9) σ sz) (XpX g (Sum.map id vI r9) σ sz) args s (cX r9) (cY r9) (Aw g)) (F0 m 6 ls []) := by
  intro n
  induction n with
  | zero => intro v2 v3 v5 v7 h; exact absurd h (fun q => nomatch q)
  | succ n ih =>
    intro v2 v3 v5 v7 h H locs ls hs hl
    exact tb_X4_countFor_6 (N := N) hfl C hr ht h (fun v2 v3 v5 v7 h H locs ls hs hl => ih v2 v3 v5 v7 h H locs ls hs hl) hs hl
set_option maxHeartbeats 4000000 in
set_option maxRecDepth 100000 in
theorem t_X4_countFor_6 {l : Launch} {g : PP} {p : Program} {e : Env} {s : State} {m : MethodId} {args : Array Value} {below : List Frame} {meth : Method} {c : Code} (hfl : l.stackTraces = false) (C : Cx g p s m meth c cX4_countFor 8 "Tillhouse$Loan") (hr : meth.sig.returnType = some .int) (ht : ∀ x ∈ c.exceptionTable.toList, False) {N : Nat}  {σ : Sto} {sz : Nat} {v2 : Int32} {v3 : Int64} {v5 : Int64} {v7 : Int32} {r9 : Nat ⊕ Int32}
    (h : b_X4_countFor_6 N v2 v3 v5 v7 = some r9) 
    {H : Heap} {locs : List Loc} {ls : Array Slot} (hs : HS g s σ sz H locs) (hl : lv_has ls 8 [(2, .int v2), (3, .long v3), (5, .long v5), (7, .int v7)]) : W p l e (rmk 12 (cX r9) (cY r9) 247) s m args below meth c H locs 0 0 (vx_MQ below (PstX g (Sum.map id vI r9) σ sz) (XpX g (Sum.map id vI r9) σ sz) args s (cX r9) (cY r9) (Aw g)) (F0 m 6 ls []) := tl_X4_countFor_6 hfl C hr ht N v2 v3 v5 v7 h H locs ls hs hl
set_option maxHeartbeats 4000000 in
set_option maxRecDepth 100000 in
theorem c_X4_countFor {l : Launch} (hfl : l.stackTraces = false) {g : PP} {N : Nat} {σ : Sto} {sz : Nat} {v0 : Int64} {v2 : Int32} {v3 : Int64} {r9 : Nat ⊕ Int32} (h : f_X4_countFor N v0 v2 v3 = some r9) : vx_Met l yX4_countFor [Cond.code yX4_countFor cX4_countFor 8 (some .int)] (rmk 12 (cX r9) (cY r9) 247) (Pre g σ sz [.long v0, .int v2, .long v3]) (PstX g (Sum.map id vI r9) σ sz) (XpX g (Sum.map id vI r9) σ sz) (cX r9) (cY r9) (Aw g) := by
  refine vx_ofW (cc := cX4_countFor) (maxL := 8) (ret := (some .int)) (by decide) rfl ?_
  intro p e s m args below meth c s₁ B hml ht hv
  obtain ⟨rfl, C, hs⟩ := ctx_of B hml hv
  have C : Cx g p s m meth c cX4_countFor 8 "Tillhouse$Loan" := C
  have hr := B.returns
  have hl := lv_entry ([.long v0, .int v2, .long v3]) (n := 8) (Nat.le_of_ble_eq_true rfl)
  rw [lg_entry_eq]
  generalize (lg_sl ([.long v0, .int v2, .long v3]) ++ List.replicate (8 - (lg_sl ([.long v0, .int v2, .long v3])).length) Slot.unset).toArray = ls at hl ⊢
  have hl : lv_has ls 8 [(0, .long v0), (2, .int v2), (3, .long v3)] := hl
  unfold f_X4_countFor at h
  refine lv_lload_n C.1 C.2.1 dX4_countFor_0 rfl (lv_at hl 0 rfl) ?_
  refine lv_lstore (lv' := [(5, .long v0), (0, .long v0), (2, .int v2), (3, .long v3)]) C.1 C.2.1 dX4_countFor_1 hl (by decide) rfl (fun ls hl => ?_)
  refine lv_iconst (v := 0) C.1 C.2.1 dX4_countFor_3 (by decide) ?_
  refine lv_istore (lv' := [(7, .int 0), (5, .long v0), (0, .long v0), (2, .int v2), (3, .long v3)]) C.1 C.2.1 dX4_countFor_4 hl (by decide) rfl (fun ls hl => ?_)
  exact t_X4_countFor_6 hfl C hr ht h hs (lv_sub hl [3, 4, 1, 0] rfl)
def b_X4_fill_75 (N : Nat) (σ : Sto) (a0 : Nat) (v1 : Int64) (v8 : Int32) : Option ((Nat ⊕ Int32) × Sto) :=
 (pF σ a0 4 4 (.long v1)).bind fun τ1 =>
 (pF τ1 a0 4 3 (.int v8)).bind fun τ2 =>
 (gI τ2 a0 4 3).bind fun x3 =>
 some (.inr x3, τ2)
def b_X4_fill_6_body (N : Nat) (k6 : Sto × Nat × Int64 × Int32 × Int64 × Int64 × Int32 → Option ((Nat ⊕ Int32) × Sto)) (σ : Sto) (a0 : Nat) (v1 : Int64) (v3 : Int32) (v4 : Int64) (v6 : Int64) (v8 : Int32) : Option ((Nat ⊕ Int32) × Sto) :=
 if v6 ≤ 0 then
 b_X4_fill_75 N σ a0 v1 v8
 else
 if 120 ≤ v8 then
 b_X4_fill_75 N σ a0 v1 v8
 else
 (gR σ a0 4 0).bind fun p3 =>
 (f_X4_monthOf v6 v3).bind fun u5 =>
 bs u5 (fun j6 => some (.inl j6, σ)) fun x4 =>
 (sL σ p3 2 v8 x4).bind fun τ7 =>
 (gR τ7 a0 4 1).bind fun p8 =>
 (f_X4_paidOf v6 v3 v4).bind fun u10 =>
 bs u10 (fun j11 => some (.inl j11, τ7)) fun x9 =>
 (sL τ7 p8 2 v8 x9).bind fun τ12 =>
 (gR τ12 a0 4 1).bind fun p13 =>
 (aL τ12 p13 2 v8).bind fun x14 =>
 lt_ (v6 - x14) fun x15 =>
 (gR τ12 a0 4 2).bind fun p16 =>
 (sL τ12 p16 2 v8 x15).bind fun τ17 =>
 lt_ (v8 + 1) fun x18 =>
 k6 (τ17, a0, v1, v3, v4, x15, x18)
def b_X4_fill_6 (N : Nat) (σ : Sto) (a0 : Nat) (v1 : Int64) (v3 : Int32) (v4 : Int64) (v6 : Int64) (v8 : Int32) : Option ((Nat ⊕ Int32) × Sto) :=
  lp (fun k e => b_X4_fill_6_body N k e.1 e.2.1 e.2.2.1 e.2.2.2.1 e.2.2.2.2.1 e.2.2.2.2.2.1 e.2.2.2.2.2.2) N (σ, a0, v1, v3, v4, v6, v8)
def f_X4_fill (N : Nat) (σ : Sto) (a0 : Nat) (v1 : Int64) (v3 : Int32) (v4 : Int64) : Option ((Nat ⊕ Int32) × Sto) :=
 b_X4_fill_6 N σ a0 v1 v3 v4 v1 0
set_option maxHeartbeats 4000000 in
set_option maxRecDepth 100000 in
theorem t_X4_fill_75 {l : Launch} {g : PP} {p : Program} {e : Env} {s : State} {m : MethodId} {args : Array Value} {below : List Frame} {meth : Method} {c : Code} (hfl : l.stackTraces = false) (C : Cx g p s m meth c cX4_fill 9 "Tillhouse$Loan") (hr : meth.sig.returnType = some .int) (ht : ∀ x ∈ c.exceptionTable.toList, False) {N : Nat}  {σ : Sto} {sz : Nat} {a0 : Nat} {v1 : Int64} {v8 : Int32} {r9 : Nat ⊕ Int32} {σ9 : Sto}
    (h : b_X4_fill_75 N σ a0 v1 v8 = some (r9, σ9)) 
    {H : Heap} {locs : List Loc} {ls : Array Slot} (hs : HS g s σ sz H locs) (hl : lv_has ls 9 [(0, .ref a0), (1, .long v1), (8, .int v8)]) : W p l e (rmk 12 (cX r9) (cY r9) 247) s m args below meth c H locs 0 0 (vx_MQ below (PstX g (Sum.map id vI r9) σ9 sz) (XpX g (Sum.map id vI r9) σ9 sz) args s (cX r9) (cY r9) (Aw g)) (F0 m 75 ls []) := by
  unfold b_X4_fill_75 at h
  refine lv_aload_n C.1 C.2.1 dX4_fill_75 rfl (lv_at hl 0 rfl) ?_
  refine lv_lload_n C.1 C.2.1 dX4_fill_76 rfl (lv_at hl 1 rfl) ?_
  replace h := ob h; obtain ⟨τ1, eτ1, h⟩ := h
  refine sx_put C hs fp_X4_23 rfl rfl eτ1 dX4_fill_77 (fun H locs hs => ?_)
  refine lv_aload_n C.1 C.2.1 dX4_fill_80 rfl (lv_at hl 0 rfl) ?_
  refine lv_iload C.1 C.2.1 dX4_fill_81 (lv_at hl 2 rfl) ?_
  replace h := ob h; obtain ⟨τ2, eτ2, h⟩ := h
  refine sx_put C hs fp_X4_19 rfl rfl eτ2 dX4_fill_83 (fun H locs hs => ?_)
  refine lv_aload_n C.1 C.2.1 dX4_fill_86 rfl (lv_at hl 0 rfl) ?_
  replace h := ob h; obtain ⟨x3, ex3, h⟩ := h
  refine sx_getV C hs fo_X4_19 (gI_v ex3) dX4_fill_87 ?_
  cases h
  exact sx_iretX C hs hr rfl dX4_fill_90
set_option maxHeartbeats 4000000 in
set_option maxRecDepth 100000 in
theorem tb_X4_fill_6 {l : Launch} {g : PP} {p : Program} {e : Env} {s : State} {m : MethodId} {args : Array Value} {below : List Frame} {meth : Method} {c : Code} (hfl : l.stackTraces = false) (C : Cx g p s m meth c cX4_fill 9 "Tillhouse$Loan") (hr : meth.sig.returnType = some .int) (ht : ∀ x ∈ c.exceptionTable.toList, False) {N : Nat}  {k6 : Sto × Nat × Int64 × Int32 × Int64 × Int64 × Int32 → Option ((Nat ⊕ Int32) × Sto)} {σ : Sto} {sz : Nat} {a0 : Nat} {v1 : Int64} {v3 : Int32} {v4 : Int64} {v6 : Int64} {v8 : Int32} {r9 : Nat ⊕ Int32} {σ9 : Sto}
    (h : b_X4_fill_6_body N k6 σ a0 v1 v3 v4 v6 v8 = some (r9, σ9))  (hk6 : ∀ (σ : Sto) (a0 : Nat) (v1 : Int64) (v3 : Int32) (v4 : Int64) (v6 : Int64) (v8 : Int32), k6 (σ, a0, v1, v3, v4, v6, v8) = some (r9, σ9) → ∀ (H : Heap) (locs : List Loc) (ls : Array Slot), HS g s σ sz H locs → lv_has ls 9 [(0, .ref a0), (1, .long v1), (3, .int v3), (4, .long v4), (6, .long v6), (8, .int v8)] → W p l e (rmk 12 (cX r9) (cY r9) 247) s m args below meth c H locs 0 0 (vx_MQ below (PstX g (Sum.map id vI r9) σ9 sz) (XpX g (Sum.map id vI r9) σ9 sz) args s (cX r9) (cY r9) (Aw g)) (F0 m 6 ls []))
    {H : Heap} {locs : List Loc} {ls : Array Slot} (hs : HS g s σ sz H locs) (hl : lv_has ls 9 [(0, .ref a0), (1, .long v1), (3, .int v3), (4, .long v4), (6, .long v6), (8, .int v8)]) : W p l e (rmk 12 (cX r9) (cY r9) 247) s m args below meth c H locs 0 0 (vx_MQ below (PstX g (Sum.map id vI r9) σ9 sz) (XpX g (Sum.map id vI r9) σ9 sz) args s (cX r9) (cY r9) (Aw g)) (F0 m 6 ls []) := by
  unfold b_X4_fill_6_body at h
  refine lv_lload C.1 C.2.1 dX4_fill_6 (lv_at hl 4 rfl) ?_
  refine lv_lconst (v := 0) C.1 C.2.1 dX4_fill_8 (by decide) ?_
  refine W.lcmp C.1 C.2.1 dX4_fill_9 ?_
  refine lv_if_le (tgt := 75) C.1 C.2.1 dX4_fill_10 (by decide) (fun c1 => ?_) (fun c1 => ?_)
  · replace h := ip ((lg_cmp_le _ _).mp c1) h
    exact t_X4_fill_75 hfl C hr ht h hs (lv_sub hl [0, 1, 5] rfl)
  · replace h := iN (fun q => c1 ((lg_cmp_le _ _).mpr q)) h
    refine lv_iload C.1 C.2.1 dX4_fill_13 (lv_at hl 5 rfl) ?_
    refine lv_bipush (v := 120) C.1 C.2.1 dX4_fill_15 (by decide) ?_
    refine lv_icmp_ge (tgt := 75) C.1 C.2.1 dX4_fill_17 (by decide) (fun c2 => ?_) (fun c2 => ?_)
    · replace h := ip c2 h
      exact t_X4_fill_75 hfl C hr ht h hs (lv_sub hl [0, 1, 5] rfl)
    · replace h := iN c2 h
      refine lv_aload_n C.1 C.2.1 dX4_fill_20 rfl (lv_at hl 0 rfl) ?_
      replace h := ob h; obtain ⟨p3, ep3, h⟩ := h
      refine sx_getV C hs fo_X4_9 (gR_v ep3) dX4_fill_21 ?_
      refine lv_iload C.1 C.2.1 dX4_fill_24 (lv_at hl 5 rfl) ?_
      refine lv_lload C.1 C.2.1 dX4_fill_26 (lv_at hl 4 rfl) ?_
      refine lv_iload_n C.1 C.2.1 dX4_fill_28 rfl (lv_at hl 2 rfl) ?_
      replace h := ob h; obtain ⟨u5, ex4, h⟩ := h
      rcases u5 with j6 | x4
      · replace h := bsl h
        cases h
        refine sx_xcallS (As := [.long v6, .int v3]) (rest := [.int v8, .ref p3]) C hs (c_X4_monthOf hfl ex4) mo_X4_monthOf q1223 rfl hl.1 ⟨⟨(Nat.le_of_ble_eq_true rfl), (Nat.le_of_ble_eq_true rfl)⟩, (Nat.le_of_ble_eq_true rfl), (Nat.le_of_ble_eq_true rfl)⟩ rfl (Nat.le_of_ble_eq_true rfl) dX4_fill_29 (fun k9 hk9 ce q9 H locs a1 a2 a3 a4 a5 a6 => ?_) (fun vr hv => (inlr hv).elim)
        obtain rfl := Sum.inl.inj hk9
        exact sx_out C ht a1 a2 a3 a4 a5 a6 (Nat.le_of_ble_eq_true rfl) (Nat.le_of_ble_eq_true rfl)
      · replace h := bsr h
        refine sx_xcallS (As := [.long v6, .int v3]) (rest := [.int v8, .ref p3]) C hs (c_X4_monthOf hfl ex4) mo_X4_monthOf q1223 rfl hl.1 ⟨⟨(Nat.le_of_ble_eq_true rfl), (Nat.le_of_ble_eq_true rfl)⟩, (Nat.le_of_ble_eq_true rfl), (Nat.le_of_ble_eq_true rfl)⟩ rfl (Nat.le_of_ble_eq_true rfl) dX4_fill_29 (fun k9 hk9 => (inrl hk9).elim) (fun vr hv H locs hs => ?_)
        obtain rfl := Sum.inr.inj hv
        refine W.eq (g2 := F0 m 32 ls [.long x4, .int v8, .ref p3]) rfl ?_
        refine W.widen (k := 0) (n := 0) (Nat.le_of_ble_eq_true rfl) (Nat.le_of_ble_eq_true rfl) ?_
        replace h := ob h; obtain ⟨τ7, eτ7, h⟩ := h
        refine sx_last C hs eτ7 dX4_fill_32 (fun H locs hs => ?_)
        refine lv_aload_n C.1 C.2.1 dX4_fill_33 rfl (lv_at hl 0 rfl) ?_
        replace h := ob h; obtain ⟨p8, ep8, h⟩ := h
        refine sx_getV C hs fo_X4_13 (gR_v ep8) dX4_fill_34 ?_
        refine lv_iload C.1 C.2.1 dX4_fill_37 (lv_at hl 5 rfl) ?_
        refine lv_lload C.1 C.2.1 dX4_fill_39 (lv_at hl 4 rfl) ?_
        refine lv_iload_n C.1 C.2.1 dX4_fill_41 rfl (lv_at hl 2 rfl) ?_
        refine lv_lload C.1 C.2.1 dX4_fill_42 (lv_at hl 3 rfl) ?_
        replace h := ob h; obtain ⟨u10, ex9, h⟩ := h
        rcases u10 with j11 | x9
        · replace h := bsl h
          cases h
          refine sx_xcallS (As := [.long v6, .int v3, .long v4]) (rest := [.int v8, .ref p8]) C hs (c_X4_paidOf hfl ex9) mo_X4_paidOf q1220 rfl hl.1 ⟨⟨(Nat.le_of_ble_eq_true rfl), (Nat.le_of_ble_eq_true rfl)⟩, (Nat.le_of_ble_eq_true rfl), (Nat.le_of_ble_eq_true rfl)⟩ rfl (Nat.le_of_ble_eq_true rfl) dX4_fill_44 (fun k9 hk9 ce q9 H locs a1 a2 a3 a4 a5 a6 => ?_) (fun vr hv => (inlr hv).elim)
          obtain rfl := Sum.inl.inj hk9
          exact sx_out C ht a1 a2 a3 a4 a5 a6 (Nat.le_of_ble_eq_true rfl) (Nat.le_of_ble_eq_true rfl)
        · replace h := bsr h
          refine sx_xcallS (As := [.long v6, .int v3, .long v4]) (rest := [.int v8, .ref p8]) C hs (c_X4_paidOf hfl ex9) mo_X4_paidOf q1220 rfl hl.1 ⟨⟨(Nat.le_of_ble_eq_true rfl), (Nat.le_of_ble_eq_true rfl)⟩, (Nat.le_of_ble_eq_true rfl), (Nat.le_of_ble_eq_true rfl)⟩ rfl (Nat.le_of_ble_eq_true rfl) dX4_fill_44 (fun k9 hk9 => (inrl hk9).elim) (fun vr hv H locs hs => ?_)
          obtain rfl := Sum.inr.inj hv
          refine W.eq (g2 := F0 m 47 ls [.long x9, .int v8, .ref p8]) rfl ?_
          refine W.widen (k := 0) (n := 0) (Nat.le_of_ble_eq_true rfl) (Nat.le_of_ble_eq_true rfl) ?_
          replace h := ob h; obtain ⟨τ12, eτ12, h⟩ := h
          refine sx_last C hs eτ12 dX4_fill_47 (fun H locs hs => ?_)
          refine lv_lload C.1 C.2.1 dX4_fill_48 (lv_at hl 4 rfl) ?_
          refine lv_aload_n C.1 C.2.1 dX4_fill_50 rfl (lv_at hl 0 rfl) ?_
          replace h := ob h; obtain ⟨p13, ep13, h⟩ := h
          refine sx_getV C hs fo_X4_13 (gR_v ep13) dX4_fill_51 ?_
          refine lv_iload C.1 C.2.1 dX4_fill_54 (lv_at hl 5 rfl) ?_
          replace h := ob h; obtain ⟨x14, ex14, h⟩ := h
          refine sx_lald C hs ex14 dX4_fill_56 ?_
          refine lv_lsub C.1 C.2.1 dX4_fill_57 ?_
          replace h := ol h; obtain ⟨x15, ex15, h⟩ := h
          refine sx_nmL ex15 ?_
          refine lv_lstore (lv' := [(6, .long x15), (0, .ref a0), (1, .long v1), (3, .int v3), (4, .long v4), (8, .int v8)]) C.1 C.2.1 dX4_fill_58 hl (by decide) rfl (fun ls hl => ?_)
          refine lv_aload_n C.1 C.2.1 dX4_fill_60 rfl (lv_at hl 1 rfl) ?_
          replace h := ob h; obtain ⟨p16, ep16, h⟩ := h
          refine sx_getV C hs fo_X4_16 (gR_v ep16) dX4_fill_61 ?_
          refine lv_iload C.1 C.2.1 dX4_fill_64 (lv_at hl 5 rfl) ?_
          refine lv_lload C.1 C.2.1 dX4_fill_66 (lv_at hl 0 rfl) ?_
          replace h := ob h; obtain ⟨τ17, eτ17, h⟩ := h
          refine sx_last C hs eτ17 dX4_fill_68 (fun H locs hs => ?_)
          replace h := ol h; obtain ⟨x18, ex18, h⟩ := h
          refine lv_iinc (v := x18) (lv' := [(8, .int x18), (6, .long x15), (0, .ref a0), (1, .long v1), (3, .int v3), (4, .long v4)]) C.1 C.2.1 dX4_fill_69 hl (k := 5) rfl (by rw [ex18]; rfl) (by decide) rfl (fun ls hl => ?_)
          refine lv_goto (tgt := 6) C.1 C.2.1 dX4_fill_72 (by decide) ?_
          exact hk6 τ17 a0 v1 v3 v4 x15 x18 h _ _ _ hs (lv_sub hl [2, 3, 4, 5, 1, 0] rfl)
set_option maxHeartbeats 4000000 in
set_option maxRecDepth 100000 in
theorem tl_X4_fill_6 {l : Launch} {g : PP} {p : Program} {e : Env} {s : State} {m : MethodId} {args : Array Value} {below : List Frame} {meth : Method} {c : Code} (hfl : l.stackTraces = false) (C : Cx g p s m meth c cX4_fill 9 "Tillhouse$Loan") (hr : meth.sig.returnType = some .int) (ht : ∀ x ∈ c.exceptionTable.toList, False) {N : Nat}   {sz : Nat} {r9 : Nat ⊕ Int32} {σ9 : Sto}  : ∀ (n : Nat) (σ : Sto) (a0 : Nat) (v1 : Int64) (v3 : Int32) (v4 : Int64) (v6 : Int64) (v8 : Int32), lp (fun k e => b_X4_fill_6_body N k e.1 e.2.1 e.2.2.1 e.2.2.2.1 e.2.2.2.2.1 e.2.2.2.2.2.1 e.2.2.2.2.2.2) n (σ, a0, v1, v3, v4, v6, v8) = some (r9, σ9) → ∀ (H : Heap) (locs : List Loc) (ls : Array Slot), HS g s σ sz H locs → lv_has ls 9 [(0, .ref a0), (1, .long v1), (3, .int v3), (4, .long v4), (6, .long v6), (8, .int v8)] → W p l e (rmk 12 (cX r9) (cY r9) 247) s m args below meth c H locs 0 0 (vx_MQ below (PstX g (Sum.map id vI r9) σ9 sz) (XpX g (Sum.map id vI r9) σ9 sz) args s (cX r9) (cY r9) (Aw g)) (F0 m 6 ls []) := by
  intro n
  induction n with
  | zero => intro σ a0 v1 v3 v4 v6 v8 h; exact absurd h (fun q => nomatch q)
  | succ n ih =>
    intro σ a0 v1 v3 v4 v6 v8 h H locs ls hs hl
    exact tb_X4_fill_6 (N := N) hfl C hr ht h (fun σ a0 v1 v3 v4 v6 v8 h H locs ls hs hl => ih σ a0 v1 v3 v4 v6 v8 h H locs ls hs hl) hs hl
set_option maxHeartbeats 4000000 in
set_option maxRecDepth 100000 in
theorem t_X4_fill_6 {l : Launch} {g : PP} {p : Program} {e : Env} {s : State} {m : MethodId} {args : Array Value} {below : List Frame} {meth : Method} {c : Code} (hfl : l.stackTraces = false) (C : Cx g p s m meth c cX4_fill 9 "Tillhouse$Loan") (hr : meth.sig.returnType = some .int) (ht : ∀ x ∈ c.exceptionTable.toList, False) {N : Nat}  {σ : Sto} {sz : Nat} {a0 : Nat} {v1 : Int64} {v3 : Int32} {v4 : Int64} {v6 : Int64} {v8 : Int32} {r9 : Nat ⊕ Int32} {σ9 : Sto}
    (h : b_X4_fill_6 N σ a0 v1 v3 v4 v6 v8 = some (r9, σ9)) 
    {H : Heap} {locs : List Loc} {ls : Array Slot} (hs : HS g s σ sz H locs) (hl : lv_has ls 9 [(0, .ref a0), (1, .long v1), (3, .int v3), (4, .long v4), (6, .long v6), (8, .int v8)]) : W p l e (rmk 12 (cX r9) (cY r9) 247) s m args below meth c H locs 0 0 (vx_MQ below (PstX g (Sum.map id vI r9) σ9 sz) (XpX g (Sum.map id vI r9) σ9 sz) args s (cX r9) (cY r9) (Aw g)) (F0 m 6 ls []) := tl_X4_fill_6 hfl C hr ht N σ a0 v1 v3 v4 v6 v8 h H locs ls hs hl
set_option maxHeartbeats 4000000 in
set_option maxRecDepth 100000 in
theorem c_X4_fill {l : Launch} (hfl : l.stackTraces = false) {g : PP} {N : Nat} {σ : Sto} {sz : Nat} {a0 : Nat} {v1 : Int64} {v3 : Int32} {v4 : Int64} {r9 : Nat ⊕ Int32} {σ9 : Sto} (h : f_X4_fill N σ a0 v1 v3 v4 = some (r9, σ9)) : vx_Met l yX4_fill [Cond.code yX4_fill cX4_fill 9 (some .int)] (rmk 12 (cX r9) (cY r9) 247) (Pre g σ sz [.ref a0, .long v1, .int v3, .long v4]) (PstX g (Sum.map id vI r9) σ9 sz) (XpX g (Sum.map id vI r9) σ9 sz) (cX r9) (cY r9) (Aw g) := by
  refine vx_ofW (cc := cX4_fill) (maxL := 9) (ret := (some .int)) (by decide) rfl ?_
  intro p e s m args below meth c s₁ B hml ht hv
  obtain ⟨rfl, C, hs⟩ := ctx_of B hml hv
  have C : Cx g p s m meth c cX4_fill 9 "Tillhouse$Loan" := C
  have hr := B.returns
  have hl := lv_entry ([.ref a0, .long v1, .int v3, .long v4]) (n := 9) (Nat.le_of_ble_eq_true rfl)
  rw [lg_entry_eq]
  generalize (lg_sl ([.ref a0, .long v1, .int v3, .long v4]) ++ List.replicate (9 - (lg_sl ([.ref a0, .long v1, .int v3, .long v4])).length) Slot.unset).toArray = ls at hl ⊢
  have hl : lv_has ls 9 [(0, .ref a0), (1, .long v1), (3, .int v3), (4, .long v4)] := hl
  unfold f_X4_fill at h
  refine lv_lload_n C.1 C.2.1 dX4_fill_0 rfl (lv_at hl 1 rfl) ?_
  refine lv_lstore (lv' := [(6, .long v1), (0, .ref a0), (1, .long v1), (3, .int v3), (4, .long v4)]) C.1 C.2.1 dX4_fill_1 hl (by decide) rfl (fun ls hl => ?_)
  refine lv_iconst (v := 0) C.1 C.2.1 dX4_fill_3 (by decide) ?_
  refine lv_istore (lv' := [(8, .int 0), (6, .long v1), (0, .ref a0), (1, .long v1), (3, .int v3), (4, .long v4)]) C.1 C.2.1 dX4_fill_4 hl (by decide) rfl (fun ls hl => ?_)
  exact t_X4_fill_6 hfl C hr ht h hs (lv_sub hl [2, 3, 4, 5, 1, 0] rfl)
def b_X4_comesToNothing_7_body (N : Nat) (k7 : Sto × Nat × Int64 × Int32 → Option Int32) (σ : Sto) (a0 : Nat) (v1 : Int64) (v3 : Int32) : Option Int32 :=
 (gI σ a0 4 3).bind fun x1 =>
 if x1 ≤ v3 then
 if v1 = 0 then
 some (1)
 else
 some (0)
 else
 (gR σ a0 4 2).bind fun p4 =>
 (aL σ p4 2 v3).bind fun x5 =>
 (gR σ a0 4 1).bind fun p6 =>
 (aL σ p6 2 v3).bind fun x7 =>
 if x5 = (v1 - x7) then
 (gR σ a0 4 2).bind fun p9 =>
 (aL σ p9 2 v3).bind fun x10 =>
 lt_ (v3 + 1) fun x11 =>
 k7 (σ, a0, x10, x11)
 else
 some (0)
def b_X4_comesToNothing_7 (N : Nat) (σ : Sto) (a0 : Nat) (v1 : Int64) (v3 : Int32) : Option Int32 :=
  lp (fun k e => b_X4_comesToNothing_7_body N k e.1 e.2.1 e.2.2.1 e.2.2.2) N (σ, a0, v1, v3)
def f_X4_comesToNothing (N : Nat) (σ : Sto) (a0 : Nat) : Option Int32 :=
 (gL σ a0 4 4).bind fun x1 =>
 b_X4_comesToNothing_7 N σ a0 x1 0
set_option maxHeartbeats 4000000 in
set_option maxRecDepth 100000 in
theorem tb_X4_comesToNothing_7 {l : Launch} {g : PP} {p : Program} {e : Env} {s : State} {m : MethodId} {args : Array Value} {below : List Frame} {meth : Method} {c : Code} (C : Cx g p s m meth c cX4_comesToNothing 4 "Tillhouse$Loan") (hr : meth.sig.returnType = some .boolean) {N : Nat}  {k7 : Sto × Nat × Int64 × Int32 → Option Int32} {σ : Sto} {sz : Nat} {a0 : Nat} {v1 : Int64} {v3 : Int32} {r9 : Int32}
    (h : b_X4_comesToNothing_7_body N k7 σ a0 v1 v3 = some r9)  (hk7 : ∀ (σ : Sto) (a0 : Nat) (v1 : Int64) (v3 : Int32), k7 (σ, a0, v1, v3) = some r9 → ∀ (H : Heap) (locs : List Loc) (ls : Array Slot), HS g s σ sz H locs → lv_has ls 4 [(0, .ref a0), (1, .long v1), (3, .int v3)] → W p l e (rmk 0 0 0 0) s m args below meth c H locs 0 0 (MQ below (Pst g (vI r9) σ sz) args s 0 0 (Aw g)) (F0 m 7 ls []))
    {H : Heap} {locs : List Loc} {ls : Array Slot} (hs : HS g s σ sz H locs) (hl : lv_has ls 4 [(0, .ref a0), (1, .long v1), (3, .int v3)]) : W p l e (rmk 0 0 0 0) s m args below meth c H locs 0 0 (MQ below (Pst g (vI r9) σ sz) args s 0 0 (Aw g)) (F0 m 7 ls []) := by
  unfold b_X4_comesToNothing_7_body at h
  refine lv_iload_n C.1 C.2.1 dX4_comesToNothing_7 rfl (lv_at hl 2 rfl) ?_
  refine lv_aload_n C.1 C.2.1 dX4_comesToNothing_8 rfl (lv_at hl 0 rfl) ?_
  replace h := ob h; obtain ⟨x1, ex1, h⟩ := h
  refine sx_getV C hs fo_X4_19 (gI_v ex1) dX4_comesToNothing_9 ?_
  refine lv_icmp_ge (tgt := 48) C.1 C.2.1 dX4_comesToNothing_12 (by decide) (fun c2 => ?_) (fun c2 => ?_)
  · replace h := ip c2 h
    refine lv_lload_n C.1 C.2.1 dX4_comesToNothing_48 rfl (lv_at hl 1 rfl) ?_
    refine lv_lconst (v := 0) C.1 C.2.1 dX4_comesToNothing_49 (by decide) ?_
    refine W.lcmp C.1 C.2.1 dX4_comesToNothing_50 ?_
    refine lv_if_ne (tgt := 58) C.1 C.2.1 dX4_comesToNothing_51 (by decide) (fun c3 => ?_) (fun c3 => ?_)
    · replace h := iN (fun q => c3 ((lg_cmp_eq _ _).mpr q)) h
      refine lv_iconst (v := 0) C.1 C.2.1 dX4_comesToNothing_58 (by decide) ?_
      cases h
      exact sx_iret C hs hr (by decide) dX4_comesToNothing_59
    · replace h := ip ((lg_cmp_eq _ _).mp c3) h
      refine lv_iconst (v := 1) C.1 C.2.1 dX4_comesToNothing_54 (by decide) ?_
      refine lv_goto (tgt := 59) C.1 C.2.1 dX4_comesToNothing_55 (by decide) ?_
      cases h
      exact sx_iret C hs hr (by decide) dX4_comesToNothing_59
  · replace h := iN c2 h
    refine lv_aload_n C.1 C.2.1 dX4_comesToNothing_15 rfl (lv_at hl 0 rfl) ?_
    replace h := ob h; obtain ⟨p4, ep4, h⟩ := h
    refine sx_getV C hs fo_X4_16 (gR_v ep4) dX4_comesToNothing_16 ?_
    refine lv_iload_n C.1 C.2.1 dX4_comesToNothing_19 rfl (lv_at hl 2 rfl) ?_
    replace h := ob h; obtain ⟨x5, ex5, h⟩ := h
    refine sx_lald C hs ex5 dX4_comesToNothing_20 ?_
    refine lv_lload_n C.1 C.2.1 dX4_comesToNothing_21 rfl (lv_at hl 1 rfl) ?_
    refine lv_aload_n C.1 C.2.1 dX4_comesToNothing_22 rfl (lv_at hl 0 rfl) ?_
    replace h := ob h; obtain ⟨p6, ep6, h⟩ := h
    refine sx_getV C hs fo_X4_13 (gR_v ep6) dX4_comesToNothing_23 ?_
    refine lv_iload_n C.1 C.2.1 dX4_comesToNothing_26 rfl (lv_at hl 2 rfl) ?_
    replace h := ob h; obtain ⟨x7, ex7, h⟩ := h
    refine sx_lald C hs ex7 dX4_comesToNothing_27 ?_
    refine lv_lsub C.1 C.2.1 dX4_comesToNothing_28 ?_
    refine W.lcmp C.1 C.2.1 dX4_comesToNothing_29 ?_
    refine lv_if_eq (tgt := 35) C.1 C.2.1 dX4_comesToNothing_30 (by decide) (fun c8 => ?_) (fun c8 => ?_)
    · replace h := ip ((lg_cmp_eq _ _).mp c8) h
      refine lv_aload_n C.1 C.2.1 dX4_comesToNothing_35 rfl (lv_at hl 0 rfl) ?_
      replace h := ob h; obtain ⟨p9, ep9, h⟩ := h
      refine sx_getV C hs fo_X4_16 (gR_v ep9) dX4_comesToNothing_36 ?_
      refine lv_iload_n C.1 C.2.1 dX4_comesToNothing_39 rfl (lv_at hl 2 rfl) ?_
      replace h := ob h; obtain ⟨x10, ex10, h⟩ := h
      refine sx_lald C hs ex10 dX4_comesToNothing_40 ?_
      refine lv_lstore_n (lv' := [(1, .long x10), (0, .ref a0), (3, .int v3)]) C.1 C.2.1 dX4_comesToNothing_41 rfl hl (by decide) rfl (fun ls hl => ?_)
      replace h := ol h; obtain ⟨x11, ex11, h⟩ := h
      refine lv_iinc (v := x11) (lv' := [(3, .int x11), (1, .long x10), (0, .ref a0)]) C.1 C.2.1 dX4_comesToNothing_42 hl (k := 2) rfl (by rw [ex11]; rfl) (by decide) rfl (fun ls hl => ?_)
      refine lv_goto (tgt := 7) C.1 C.2.1 dX4_comesToNothing_45 (by decide) ?_
      exact hk7 σ a0 x10 x11 h _ _ _ hs (lv_sub hl [2, 1, 0] rfl)
    · replace h := iN (fun q => c8 ((lg_cmp_eq _ _).mpr q)) h
      refine lv_iconst (v := 0) C.1 C.2.1 dX4_comesToNothing_33 (by decide) ?_
      cases h
      exact sx_iret C hs hr (by decide) dX4_comesToNothing_34
set_option maxHeartbeats 4000000 in
set_option maxRecDepth 100000 in
theorem tl_X4_comesToNothing_7 {l : Launch} {g : PP} {p : Program} {e : Env} {s : State} {m : MethodId} {args : Array Value} {below : List Frame} {meth : Method} {c : Code} (C : Cx g p s m meth c cX4_comesToNothing 4 "Tillhouse$Loan") (hr : meth.sig.returnType = some .boolean) {N : Nat}   {sz : Nat} {r9 : Int32}  : ∀ (n : Nat) (σ : Sto) (a0 : Nat) (v1 : Int64) (v3 : Int32), lp (fun k e => b_X4_comesToNothing_7_body N k e.1 e.2.1 e.2.2.1 e.2.2.2) n (σ, a0, v1, v3) = some r9 → ∀ (H : Heap) (locs : List Loc) (ls : Array Slot), HS g s σ sz H locs → lv_has ls 4 [(0, .ref a0), (1, .long v1), (3, .int v3)] → W p l e (rmk 0 0 0 0) s m args below meth c H locs 0 0 (MQ below (Pst g (vI r9) σ sz) args s 0 0 (Aw g)) (F0 m 7 ls []) := by
  intro n
  induction n with
  | zero => intro σ a0 v1 v3 h; exact absurd h (fun q => nomatch q)
  | succ n ih =>
    intro σ a0 v1 v3 h H locs ls hs hl
    exact tb_X4_comesToNothing_7 (N := N) C hr h (fun σ a0 v1 v3 h H locs ls hs hl => ih σ a0 v1 v3 h H locs ls hs hl) hs hl
set_option maxHeartbeats 4000000 in
set_option maxRecDepth 100000 in
theorem t_X4_comesToNothing_7 {l : Launch} {g : PP} {p : Program} {e : Env} {s : State} {m : MethodId} {args : Array Value} {below : List Frame} {meth : Method} {c : Code} (C : Cx g p s m meth c cX4_comesToNothing 4 "Tillhouse$Loan") (hr : meth.sig.returnType = some .boolean) {N : Nat}  {σ : Sto} {sz : Nat} {a0 : Nat} {v1 : Int64} {v3 : Int32} {r9 : Int32}
    (h : b_X4_comesToNothing_7 N σ a0 v1 v3 = some r9) 
    {H : Heap} {locs : List Loc} {ls : Array Slot} (hs : HS g s σ sz H locs) (hl : lv_has ls 4 [(0, .ref a0), (1, .long v1), (3, .int v3)]) : W p l e (rmk 0 0 0 0) s m args below meth c H locs 0 0 (MQ below (Pst g (vI r9) σ sz) args s 0 0 (Aw g)) (F0 m 7 ls []) := tl_X4_comesToNothing_7 C hr N σ a0 v1 v3 h H locs ls hs hl
set_option maxHeartbeats 4000000 in
set_option maxRecDepth 100000 in
theorem c_X4_comesToNothing {l : Launch} {g : PP} {N : Nat} {σ : Sto} {sz : Nat} {a0 : Nat} {r9 : Int32} (h : f_X4_comesToNothing N σ a0 = some r9) : Met l yX4_comesToNothing [Cond.code yX4_comesToNothing cX4_comesToNothing 4 (some .boolean)] (rmk 0 0 0 0) (Pre g σ sz [.ref a0]) (Pst g (vI r9) σ sz) 0 0 (Aw g) := by
  refine Met.ofW (cc := cX4_comesToNothing) (maxL := 4) (ret := (some .boolean)) (by decide) rfl ?_
  intro p e s m args below meth c s₁ B hml hv
  obtain ⟨rfl, C, hs⟩ := ctx_of B hml hv
  have C : Cx g p s m meth c cX4_comesToNothing 4 "Tillhouse$Loan" := C
  have hr := B.returns
  have hl := lv_entry ([.ref a0]) (n := 4) (Nat.le_of_ble_eq_true rfl)
  rw [lg_entry_eq]
  generalize (lg_sl ([.ref a0]) ++ List.replicate (4 - (lg_sl ([.ref a0])).length) Slot.unset).toArray = ls at hl ⊢
  have hl : lv_has ls 4 [(0, .ref a0)] := hl
  unfold f_X4_comesToNothing at h
  refine lv_aload_n C.1 C.2.1 dX4_comesToNothing_0 rfl (lv_at hl 0 rfl) ?_
  replace h := ob h; obtain ⟨x1, ex1, h⟩ := h
  refine sx_getV C hs fo_X4_23 (gL_v ex1) dX4_comesToNothing_1 ?_
  refine lv_lstore_n (lv' := [(1, .long x1), (0, .ref a0)]) C.1 C.2.1 dX4_comesToNothing_4 rfl hl (by decide) rfl (fun ls hl => ?_)
  refine lv_iconst (v := 0) C.1 C.2.1 dX4_comesToNothing_5 (by decide) ?_
  refine lv_istore_n (lv' := [(3, .int 0), (1, .long x1), (0, .ref a0)]) C.1 C.2.1 dX4_comesToNothing_6 rfl hl (by decide) rfl (fun ls hl => ?_)
  exact t_X4_comesToNothing_7 C hr h hs (lv_sub hl [2, 1, 0] rfl)
def f_X5_init (σ : Sto) (a0 : Nat) (v1 : Int64) (v3 : Int64) : Option (Unit × Sto) :=
 lt_ (v1 / 1000000000) fun x1 =>
 lt_ (v1 - v1 / 1000000000 * 1000000000) fun x2 =>
 lt_ (v3 / 1000000000) fun x3 =>
 lt_ (v3 - v3 / 1000000000 * 1000000000) fun x4 =>
 lt_ ((x1 * x4) + (x2 * x3)) fun x5 =>
 lt_ (((x5 - x5 / 1000000000 * 1000000000) * 1000000000) + (x2 * x4)) fun x6 =>
 (pF σ a0 5 0 (.long (((x1 * x3) + (x5 / 1000000000)) + (x6 / 1000000000000000000)))).bind fun τ7 =>
 (pF τ7 a0 5 1 (.long (x6 - x6 / 1000000000000000000 * 1000000000000000000))).bind fun τ8 =>
 some ((), τ8)
set_option maxHeartbeats 4000000 in
set_option maxRecDepth 100000 in
theorem c_X5_init {l : Launch} {g : PP} {σ : Sto} {sz : Nat} {a0 : Nat} {v1 : Int64} {v3 : Int64} {r9 : Unit} {σ9 : Sto} (h : f_X5_init σ a0 v1 v3 = some (r9, σ9)) : Met l yX5_init [Cond.code yX5_init cX5_init 17 none] (rmk 1 0 0 20) (Pre g σ sz [.ref a0, .long v1, .long v3]) (Pst g (vV r9) σ9 sz) 0 0 (Aw g) := by
  refine Met.ofW (cc := cX5_init) (maxL := 17) (ret := none) (by decide) rfl ?_
  intro p e s m args below meth c s₁ B hml hv
  obtain ⟨rfl, C, hs⟩ := ctx_of B hml hv
  have C : Cx g p s m meth c cX5_init 17 "Tillhouse$Product" := C
  have hr := B.returns
  have hin : meth.name = "<init>" := (name_of_methodNamed B.named B.method).1
  have hl := lv_entry ([.ref a0, .long v1, .long v3]) (n := 17) (Nat.le_of_ble_eq_true rfl)
  rw [lg_entry_eq]
  generalize (lg_sl ([.ref a0, .long v1, .long v3]) ++ List.replicate (17 - (lg_sl ([.ref a0, .long v1, .long v3])).length) Slot.unset).toArray = ls at hl ⊢
  have hl : lv_has ls 17 [(0, .ref a0), (1, .long v1), (3, .long v3)] := hl
  unfold f_X5_init at h
  refine lv_aload_n C.1 C.2.1 dX5_init_0 rfl (lv_at hl 0 rfl) ?_
  refine sx_objInit C hl q887 qobj1 qobj2 dX5_init_1 (Nat.le_of_ble_eq_true rfl) (Nat.le_of_ble_eq_true rfl) ?_
  refine lv_lload_n C.1 C.2.1 dX5_init_4 rfl (lv_at hl 1 rfl) ?_
  refine lv_ldc2 (v := 1000000000) C.1 C.2.1 C.2.2.2.1 (C.2.2.2.2.1.1 _ q888 _) dX5_init_5 ?_
  refine lv_ldiv C.1 C.2.1 dX5_init_8 (by decide) ?_
  replace h := ol h; obtain ⟨x1, ex1, h⟩ := h
  refine sx_nmL ex1 ?_
  refine lv_lstore (lv' := [(5, .long x1), (0, .ref a0), (1, .long v1), (3, .long v3)]) C.1 C.2.1 dX5_init_9 hl (by decide) rfl (fun ls hl => ?_)
  refine lv_lload_n C.1 C.2.1 dX5_init_11 rfl (lv_at hl 2 rfl) ?_
  refine lv_ldc2 (v := 1000000000) C.1 C.2.1 C.2.2.2.1 (C.2.2.2.2.1.1 _ q888 _) dX5_init_12 ?_
  refine lv_lrem C.1 C.2.1 dX5_init_15 (by decide) ?_
  replace h := ol h; obtain ⟨x2, ex2, h⟩ := h
  refine sx_nmL ex2 ?_
  refine lv_lstore (lv' := [(7, .long x2), (5, .long x1), (0, .ref a0), (1, .long v1), (3, .long v3)]) C.1 C.2.1 dX5_init_16 hl (by decide) rfl (fun ls hl => ?_)
  refine lv_lload_n C.1 C.2.1 dX5_init_18 rfl (lv_at hl 4 rfl) ?_
  refine lv_ldc2 (v := 1000000000) C.1 C.2.1 C.2.2.2.1 (C.2.2.2.2.1.1 _ q888 _) dX5_init_19 ?_
  refine lv_ldiv C.1 C.2.1 dX5_init_22 (by decide) ?_
  replace h := ol h; obtain ⟨x3, ex3, h⟩ := h
  refine sx_nmL ex3 ?_
  refine lv_lstore (lv' := [(9, .long x3), (7, .long x2), (5, .long x1), (0, .ref a0), (1, .long v1), (3, .long v3)]) C.1 C.2.1 dX5_init_23 hl (by decide) rfl (fun ls hl => ?_)
  refine lv_lload_n C.1 C.2.1 dX5_init_25 rfl (lv_at hl 5 rfl) ?_
  refine lv_ldc2 (v := 1000000000) C.1 C.2.1 C.2.2.2.1 (C.2.2.2.2.1.1 _ q888 _) dX5_init_26 ?_
  refine lv_lrem C.1 C.2.1 dX5_init_29 (by decide) ?_
  replace h := ol h; obtain ⟨x4, ex4, h⟩ := h
  refine sx_nmL ex4 ?_
  refine lv_lstore (lv' := [(11, .long x4), (9, .long x3), (7, .long x2), (5, .long x1), (0, .ref a0), (1, .long v1), (3, .long v3)]) C.1 C.2.1 dX5_init_30 hl (by decide) rfl (fun ls hl => ?_)
  refine lv_lload C.1 C.2.1 dX5_init_32 (lv_at hl 3 rfl) ?_
  refine lv_lload C.1 C.2.1 dX5_init_34 (lv_at hl 0 rfl) ?_
  refine lv_lmul C.1 C.2.1 dX5_init_36 ?_
  refine lv_lload C.1 C.2.1 dX5_init_37 (lv_at hl 2 rfl) ?_
  refine lv_lload C.1 C.2.1 dX5_init_39 (lv_at hl 1 rfl) ?_
  refine lv_lmul C.1 C.2.1 dX5_init_41 ?_
  refine lv_ladd C.1 C.2.1 dX5_init_42 ?_
  replace h := ol h; obtain ⟨x5, ex5, h⟩ := h
  refine sx_nmL ex5 ?_
  refine lv_lstore (lv' := [(13, .long x5), (11, .long x4), (9, .long x3), (7, .long x2), (5, .long x1), (0, .ref a0), (1, .long v1), (3, .long v3)]) C.1 C.2.1 dX5_init_43 hl (by decide) rfl (fun ls hl => ?_)
  refine lv_lload C.1 C.2.1 dX5_init_45 (lv_at hl 0 rfl) ?_
  refine lv_ldc2 (v := 1000000000) C.1 C.2.1 C.2.2.2.1 (C.2.2.2.2.1.1 _ q888 _) dX5_init_47 ?_
  refine lv_lrem C.1 C.2.1 dX5_init_50 (by decide) ?_
  refine lv_ldc2 (v := 1000000000) C.1 C.2.1 C.2.2.2.1 (C.2.2.2.2.1.1 _ q888 _) dX5_init_51 ?_
  refine lv_lmul C.1 C.2.1 dX5_init_54 ?_
  refine lv_lload C.1 C.2.1 dX5_init_55 (lv_at hl 3 rfl) ?_
  refine lv_lload C.1 C.2.1 dX5_init_57 (lv_at hl 1 rfl) ?_
  refine lv_lmul C.1 C.2.1 dX5_init_59 ?_
  refine lv_ladd C.1 C.2.1 dX5_init_60 ?_
  replace h := ol h; obtain ⟨x6, ex6, h⟩ := h
  refine sx_nmL ex6 ?_
  refine lv_lstore (lv' := [(15, .long x6), (13, .long x5), (11, .long x4), (9, .long x3), (7, .long x2), (5, .long x1), (0, .ref a0), (1, .long v1), (3, .long v3)]) C.1 C.2.1 dX5_init_61 hl (by decide) rfl (fun ls hl => ?_)
  refine lv_aload_n C.1 C.2.1 dX5_init_63 rfl (lv_at hl 6 rfl) ?_
  refine lv_lload C.1 C.2.1 dX5_init_64 (lv_at hl 5 rfl) ?_
  refine lv_lload C.1 C.2.1 dX5_init_66 (lv_at hl 3 rfl) ?_
  refine lv_lmul C.1 C.2.1 dX5_init_68 ?_
  refine lv_lload C.1 C.2.1 dX5_init_69 (lv_at hl 1 rfl) ?_
  refine lv_ldc2 (v := 1000000000) C.1 C.2.1 C.2.2.2.1 (C.2.2.2.2.1.1 _ q888 _) dX5_init_71 ?_
  refine lv_ldiv C.1 C.2.1 dX5_init_74 (by decide) ?_
  refine lv_ladd C.1 C.2.1 dX5_init_75 ?_
  refine lv_lload C.1 C.2.1 dX5_init_76 (lv_at hl 0 rfl) ?_
  refine lv_ldc2 (v := 1000000000000000000) C.1 C.2.1 C.2.2.2.1 (C.2.2.2.2.1.1 _ q889 _) dX5_init_78 ?_
  refine lv_ldiv C.1 C.2.1 dX5_init_81 (by decide) ?_
  refine lv_ladd C.1 C.2.1 dX5_init_82 ?_
  replace h := ob h; obtain ⟨τ7, eτ7, h⟩ := h
  refine sx_putF C hs fi_X5_15 hin rfl rfl eτ7 dX5_init_83 (fun H locs hs => ?_)
  refine lv_aload_n C.1 C.2.1 dX5_init_86 rfl (lv_at hl 6 rfl) ?_
  refine lv_lload C.1 C.2.1 dX5_init_87 (lv_at hl 0 rfl) ?_
  refine lv_ldc2 (v := 1000000000000000000) C.1 C.2.1 C.2.2.2.1 (C.2.2.2.2.1.1 _ q889 _) dX5_init_89 ?_
  refine lv_lrem C.1 C.2.1 dX5_init_92 (by decide) ?_
  replace h := ob h; obtain ⟨τ8, eτ8, h⟩ := h
  refine sx_putF C hs fi_X5_19 hin rfl rfl eτ8 dX5_init_93 (fun H locs hs => ?_)
  cases h
  exact sx_vret C hs hr dX5_init_96
def f_X5_cutBy (σ : Sto) (a0 : Nat) (v1 : Int32) : Option ((Nat ⊕ Int64)) :=
 if v1 < 0 then
 some (.inr 0)
 else
 if v1 ≤ 36 then
 if v1 ≤ 18 then
 (pw v1).bind fun x4 =>
 (gL σ a0 5 0).bind fun x5 =>
 if x5 < x4 then
 (gL σ a0 5 0).bind fun x7 =>
 (pw (18 - v1)).bind fun x8 =>
 (gL σ a0 5 1).bind fun x9 =>
 if x4 = 0 then none else
 some (.inr ((x7 * x8) + (x9 / x4)))
 else
 some (.inl 3)
 else
 (gL σ a0 5 0).bind fun x11 =>
 (pw (v1 - 18)).bind fun x12 =>
 if x12 = 0 then none else
 some (.inr (x11 / x12))
 else
 some (.inr 0)
set_option maxHeartbeats 4000000 in
set_option maxRecDepth 100000 in
theorem c_X5_cutBy {l : Launch} (hfl : l.stackTraces = false) {g : PP} {σ : Sto} {sz : Nat} {a0 : Nat} {v1 : Int32} {r9 : Nat ⊕ Int64} (h : f_X5_cutBy σ a0 v1 = some r9) : vx_Met l yX5_cutBy [Cond.code yX5_cutBy cX5_cutBy 4 (some .long)] (rmk 6 (cX r9) (cY r9) 100) (Pre g σ sz [.ref a0, .int v1]) (PstX g (Sum.map id vL r9) σ sz) (XpX g (Sum.map id vL r9) σ sz) (cX r9) (cY r9) (Aw g) := by
  refine vx_ofW (cc := cX5_cutBy) (maxL := 4) (ret := (some .long)) (by decide) rfl ?_
  intro p e s m args below meth c s₁ B hml ht hv
  obtain ⟨rfl, C, hs⟩ := ctx_of B hml hv
  have C : Cx g p s m meth c cX5_cutBy 4 "Tillhouse$Product" := C
  have hr := B.returns
  have hl := lv_entry ([.ref a0, .int v1]) (n := 4) (Nat.le_of_ble_eq_true rfl)
  rw [lg_entry_eq]
  generalize (lg_sl ([.ref a0, .int v1]) ++ List.replicate (4 - (lg_sl ([.ref a0, .int v1])).length) Slot.unset).toArray = ls at hl ⊢
  have hl : lv_has ls 4 [(0, .ref a0), (1, .int v1)] := hl
  unfold f_X5_cutBy at h
  refine lv_iload_n C.1 C.2.1 dX5_cutBy_0 rfl (lv_at hl 1 rfl) ?_
  refine lv_if_lt (tgt := 10) C.1 C.2.1 dX5_cutBy_1 (by decide) (fun c1 => ?_) (fun c1 => ?_)
  · replace h := ip c1 h
    refine lv_lconst (v := 0) C.1 C.2.1 dX5_cutBy_10 (by decide) ?_
    cases h
    exact sx_lretX C hs hr dX5_cutBy_11
  · replace h := iN c1 h
    refine lv_iload_n C.1 C.2.1 dX5_cutBy_4 rfl (lv_at hl 1 rfl) ?_
    refine lv_bipush (v := 36) C.1 C.2.1 dX5_cutBy_5 (by decide) ?_
    refine lv_icmp_le (tgt := 12) C.1 C.2.1 dX5_cutBy_7 (by decide) (fun c2 => ?_) (fun c2 => ?_)
    · replace h := ip c2 h
      refine lv_iload_n C.1 C.2.1 dX5_cutBy_12 rfl (lv_at hl 1 rfl) ?_
      refine lv_bipush (v := 18) C.1 C.2.1 dX5_cutBy_13 (by decide) ?_
      refine lv_icmp_le (tgt := 32) C.1 C.2.1 dX5_cutBy_15 (by decide) (fun c3 => ?_) (fun c3 => ?_)
      · replace h := ip c3 h
        refine sx_pw C hs q909 dX5_cutBy_32 ?_
        refine lv_iload_n C.1 C.2.1 dX5_cutBy_35 rfl (lv_at hl 1 rfl) ?_
        replace h := ob h; obtain ⟨x4, ex4, h⟩ := h
        refine sx_pwl C hs ex4 dX5_cutBy_36 ?_
        refine lv_lstore_n (lv' := [(2, .long x4), (0, .ref a0), (1, .int v1)]) C.1 C.2.1 dX5_cutBy_37 rfl hl (by decide) rfl (fun ls hl => ?_)
        refine lv_aload_n C.1 C.2.1 dX5_cutBy_38 rfl (lv_at hl 1 rfl) ?_
        replace h := ob h; obtain ⟨x5, ex5, h⟩ := h
        refine sx_getV C hs fo_X5_15 (gL_v ex5) dX5_cutBy_39 ?_
        refine lv_lload_n C.1 C.2.1 dX5_cutBy_42 rfl (lv_at hl 0 rfl) ?_
        refine W.lcmp C.1 C.2.1 dX5_cutBy_43 ?_
        refine lv_if_lt (tgt := 57) C.1 C.2.1 dX5_cutBy_44 (by decide) (fun c6 => ?_) (fun c6 => ?_)
        · replace h := ip ((lg_cmp_lt _ _).mp c6) h
          refine lv_aload_n C.1 C.2.1 dX5_cutBy_57 rfl (lv_at hl 1 rfl) ?_
          replace h := ob h; obtain ⟨x7, ex7, h⟩ := h
          refine sx_getV C hs fo_X5_15 (gL_v ex7) dX5_cutBy_58 ?_
          refine sx_pw C hs q909 dX5_cutBy_61 ?_
          refine lv_bipush (v := 18) C.1 C.2.1 dX5_cutBy_64 (by decide) ?_
          refine lv_iload_n C.1 C.2.1 dX5_cutBy_66 rfl (lv_at hl 2 rfl) ?_
          refine lv_isub C.1 C.2.1 dX5_cutBy_67 ?_
          replace h := ob h; obtain ⟨x8, ex8, h⟩ := h
          refine sx_pwl C hs ex8 dX5_cutBy_68 ?_
          refine lv_lmul C.1 C.2.1 dX5_cutBy_69 ?_
          refine lv_aload_n C.1 C.2.1 dX5_cutBy_70 rfl (lv_at hl 1 rfl) ?_
          replace h := ob h; obtain ⟨x9, ex9, h⟩ := h
          refine sx_getV C hs fo_X5_19 (gL_v ex9) dX5_cutBy_71 ?_
          refine lv_lload_n C.1 C.2.1 dX5_cutBy_74 rfl (lv_at hl 0 rfl) ?_
          replace h := on h; obtain ⟨n10, h⟩ := h
          refine lv_ldiv C.1 C.2.1 dX5_cutBy_75 n10 ?_
          refine lv_ladd C.1 C.2.1 dX5_cutBy_76 ?_
          cases h
          exact sx_lretX C hs hr dX5_cutBy_77
        · replace h := iN (fun q => c6 ((lg_cmp_lt _ _).mpr q)) h
          cases h
          exact sx_throw C hfl hs to_X5_26_28 ht hl.1 dX5_cutBy_47 dX5_cutBy_50 dX5_cutBy_51 dX5_cutBy_53 dX5_cutBy_56 ⟨by decide, (Nat.le_of_ble_eq_true rfl), (Nat.le_of_ble_eq_true rfl), (Nat.le_of_ble_eq_true rfl)⟩ ⟨(Nat.le_of_ble_eq_true rfl), (Nat.le_of_ble_eq_true rfl)⟩
      · replace h := iN c3 h
        refine lv_aload_n C.1 C.2.1 dX5_cutBy_18 rfl (lv_at hl 0 rfl) ?_
        replace h := ob h; obtain ⟨x11, ex11, h⟩ := h
        refine sx_getV C hs fo_X5_15 (gL_v ex11) dX5_cutBy_19 ?_
        refine sx_pw C hs q909 dX5_cutBy_22 ?_
        refine lv_iload_n C.1 C.2.1 dX5_cutBy_25 rfl (lv_at hl 1 rfl) ?_
        refine lv_bipush (v := 18) C.1 C.2.1 dX5_cutBy_26 (by decide) ?_
        refine lv_isub C.1 C.2.1 dX5_cutBy_28 ?_
        replace h := ob h; obtain ⟨x12, ex12, h⟩ := h
        refine sx_pwl C hs ex12 dX5_cutBy_29 ?_
        replace h := on h; obtain ⟨n13, h⟩ := h
        refine lv_ldiv C.1 C.2.1 dX5_cutBy_30 n13 ?_
        cases h
        exact sx_lretX C hs hr dX5_cutBy_31
    · replace h := iN c2 h
      refine lv_lconst (v := 0) C.1 C.2.1 dX5_cutBy_10 (by decide) ?_
      cases h
      exact sx_lretX C hs hr dX5_cutBy_11
def b_X5_restBy_10 (σ : Sto) (a0 : Nat) : Option Int32 :=
 (gL σ a0 5 0).bind fun x1 =>
 if x1 = 0 then
 (gL σ a0 5 1).bind fun x3 =>
 if x3 = 0 then
 some (0)
 else
 some (1)
 else
 some (1)
def b_X5_restBy_94 (σ : Sto) (a0 : Nat) (v4 : Int32) (s0 : Int32) : Option Int32 :=
 if s0 = 0 then
 some (v4)
 else
 (gL σ a0 5 1).bind fun x2 =>
 if x2 = 0 then
 some (v4)
 else
 some ((v4 + 1))
def b_X5_restBy_89 (σ : Sto) (a0 : Nat) (v4 : Int32) : Option Int32 :=
 b_X5_restBy_94 σ a0 v4 1
def f_X5_restBy (σ : Sto) (a0 : Nat) (v1 : Int32) : Option Int32 :=
 if v1 < 0 then
 b_X5_restBy_10 σ a0
 else
 if v1 ≤ 36 then
 if 18 < v1 then
 (pw (v1 - 18)).bind fun x4 =>
 (gL σ a0 5 0).bind fun x5 =>
 if x4 = 0 then none else
 (f_X6_rest (x5 - x5 / x4 * x4) x4).bind fun x7 =>
 if x7 = 0 then
 b_X5_restBy_89 σ a0 x7
 else
 if x7 = 2 then
 b_X5_restBy_89 σ a0 x7
 else
 b_X5_restBy_94 σ a0 x7 0
 else
 (pw v1).bind fun x10 =>
 (gL σ a0 5 1).bind fun x11 =>
 if x10 = 0 then none else
 (f_X6_rest (x11 - x11 / x10 * x10) x10).bind fun x13 =>
 some (x13)
 else
 b_X5_restBy_10 σ a0
set_option maxHeartbeats 4000000 in
set_option maxRecDepth 100000 in
theorem t_X5_restBy_10 {l : Launch} {g : PP} {p : Program} {e : Env} {s : State} {m : MethodId} {args : Array Value} {below : List Frame} {meth : Method} {c : Code} (C : Cx g p s m meth c cX5_restBy 6 "Tillhouse$Product") (hr : meth.sig.returnType = some .int)   {σ : Sto} {sz : Nat} {a0 : Nat} {r9 : Int32}
    (h : b_X5_restBy_10 σ a0 = some r9) 
    {H : Heap} {locs : List Loc} {ls : Array Slot} (hs : HS g s σ sz H locs) (hl : lv_has ls 6 [(0, .ref a0)]) : W p l e (rmk 1 0 0 25) s m args below meth c H locs 0 0 (MQ below (Pst g (vI r9) σ sz) args s 0 0 (Aw g)) (F0 m 10 ls []) := by
  unfold b_X5_restBy_10 at h
  refine lv_aload_n C.1 C.2.1 dX5_restBy_10 rfl (lv_at hl 0 rfl) ?_
  replace h := ob h; obtain ⟨x1, ex1, h⟩ := h
  refine sx_getV C hs fo_X5_15 (gL_v ex1) dX5_restBy_11 ?_
  refine lv_lconst (v := 0) C.1 C.2.1 dX5_restBy_14 (by decide) ?_
  refine W.lcmp C.1 C.2.1 dX5_restBy_15 ?_
  refine lv_if_ne (tgt := 32) C.1 C.2.1 dX5_restBy_16 (by decide) (fun c2 => ?_) (fun c2 => ?_)
  · replace h := iN (fun q => c2 ((lg_cmp_eq _ _).mpr q)) h
    refine lv_iconst (v := 1) C.1 C.2.1 dX5_restBy_32 (by decide) ?_
    cases h
    exact sx_iret C hs hr rfl dX5_restBy_33
  · replace h := ip ((lg_cmp_eq _ _).mp c2) h
    refine lv_aload_n C.1 C.2.1 dX5_restBy_19 rfl (lv_at hl 0 rfl) ?_
    replace h := ob h; obtain ⟨x3, ex3, h⟩ := h
    refine sx_getV C hs fo_X5_19 (gL_v ex3) dX5_restBy_20 ?_
    refine lv_lconst (v := 0) C.1 C.2.1 dX5_restBy_23 (by decide) ?_
    refine W.lcmp C.1 C.2.1 dX5_restBy_24 ?_
    refine lv_if_ne (tgt := 32) C.1 C.2.1 dX5_restBy_25 (by decide) (fun c4 => ?_) (fun c4 => ?_)
    · replace h := iN (fun q => c4 ((lg_cmp_eq _ _).mpr q)) h
      refine lv_iconst (v := 1) C.1 C.2.1 dX5_restBy_32 (by decide) ?_
      cases h
      exact sx_iret C hs hr rfl dX5_restBy_33
    · replace h := ip ((lg_cmp_eq _ _).mp c4) h
      refine lv_iconst (v := 0) C.1 C.2.1 dX5_restBy_28 (by decide) ?_
      refine lv_goto (tgt := 33) C.1 C.2.1 dX5_restBy_29 (by decide) ?_
      cases h
      exact sx_iret C hs hr rfl dX5_restBy_33
set_option maxHeartbeats 4000000 in
set_option maxRecDepth 100000 in
theorem t_X5_restBy_94 {l : Launch} {g : PP} {p : Program} {e : Env} {s : State} {m : MethodId} {args : Array Value} {below : List Frame} {meth : Method} {c : Code} (C : Cx g p s m meth c cX5_restBy 6 "Tillhouse$Product") (hr : meth.sig.returnType = some .int)   {σ : Sto} {sz : Nat} {a0 : Nat} {v4 : Int32} {s0 : Int32} {r9 : Int32}
    (h : b_X5_restBy_94 σ a0 v4 s0 = some r9) 
    {H : Heap} {locs : List Loc} {ls : Array Slot} (hs : HS g s σ sz H locs) (hl : lv_has ls 6 [(0, .ref a0), (4, .int v4)]) : W p l e (rmk 1 0 0 25) s m args below meth c H locs 0 0 (MQ below (Pst g (vI r9) σ sz) args s 0 0 (Aw g)) (F0 m 94 ls [.int s0]) := by
  unfold b_X5_restBy_94 at h
  refine lv_istore (lv' := [(5, .int s0), (0, .ref a0), (4, .int v4)]) C.1 C.2.1 dX5_restBy_94 hl (by decide) rfl (fun ls hl => ?_)
  refine lv_iload C.1 C.2.1 dX5_restBy_96 (lv_at hl 0 rfl) ?_
  refine lv_if_eq (tgt := 117) C.1 C.2.1 dX5_restBy_98 (by decide) (fun c1 => ?_) (fun c1 => ?_)
  · replace h := ip c1 h
    refine lv_iload C.1 C.2.1 dX5_restBy_117 (lv_at hl 2 rfl) ?_
    cases h
    exact sx_iret C hs hr rfl dX5_restBy_119
  · replace h := iN c1 h
    refine lv_aload_n C.1 C.2.1 dX5_restBy_101 rfl (lv_at hl 1 rfl) ?_
    replace h := ob h; obtain ⟨x2, ex2, h⟩ := h
    refine sx_getV C hs fo_X5_19 (gL_v ex2) dX5_restBy_102 ?_
    refine lv_lconst (v := 0) C.1 C.2.1 dX5_restBy_105 (by decide) ?_
    refine W.lcmp C.1 C.2.1 dX5_restBy_106 ?_
    refine lv_if_eq (tgt := 117) C.1 C.2.1 dX5_restBy_107 (by decide) (fun c3 => ?_) (fun c3 => ?_)
    · replace h := ip ((lg_cmp_eq _ _).mp c3) h
      refine lv_iload C.1 C.2.1 dX5_restBy_117 (lv_at hl 2 rfl) ?_
      cases h
      exact sx_iret C hs hr rfl dX5_restBy_119
    · replace h := iN (fun q => c3 ((lg_cmp_eq _ _).mpr q)) h
      refine lv_iload C.1 C.2.1 dX5_restBy_110 (lv_at hl 2 rfl) ?_
      refine lv_iconst (v := 1) C.1 C.2.1 dX5_restBy_112 (by decide) ?_
      refine lv_iadd C.1 C.2.1 dX5_restBy_113 ?_
      refine lv_goto (tgt := 119) C.1 C.2.1 dX5_restBy_114 (by decide) ?_
      cases h
      exact sx_iret C hs hr rfl dX5_restBy_119
set_option maxHeartbeats 4000000 in
set_option maxRecDepth 100000 in
theorem t_X5_restBy_89 {l : Launch} {g : PP} {p : Program} {e : Env} {s : State} {m : MethodId} {args : Array Value} {below : List Frame} {meth : Method} {c : Code} (C : Cx g p s m meth c cX5_restBy 6 "Tillhouse$Product") (hr : meth.sig.returnType = some .int)   {σ : Sto} {sz : Nat} {a0 : Nat} {v4 : Int32} {r9 : Int32}
    (h : b_X5_restBy_89 σ a0 v4 = some r9) 
    {H : Heap} {locs : List Loc} {ls : Array Slot} (hs : HS g s σ sz H locs) (hl : lv_has ls 6 [(0, .ref a0), (4, .int v4)]) : W p l e (rmk 1 0 0 25) s m args below meth c H locs 0 0 (MQ below (Pst g (vI r9) σ sz) args s 0 0 (Aw g)) (F0 m 89 ls []) := by
  unfold b_X5_restBy_89 at h
  refine lv_iconst (v := 1) C.1 C.2.1 dX5_restBy_89 (by decide) ?_
  refine lv_goto (tgt := 94) C.1 C.2.1 dX5_restBy_90 (by decide) ?_
  exact t_X5_restBy_94 C hr h hs (lv_sub hl [0, 1] rfl)
set_option maxHeartbeats 4000000 in
set_option maxRecDepth 100000 in
theorem c_X5_restBy {l : Launch} {g : PP} {σ : Sto} {sz : Nat} {a0 : Nat} {v1 : Int32} {r9 : Int32} (h : f_X5_restBy σ a0 v1 = some r9) : Met l yX5_restBy [Cond.code yX5_restBy cX5_restBy 6 (some .int)] (rmk 1 0 0 25) (Pre g σ sz [.ref a0, .int v1]) (Pst g (vI r9) σ sz) 0 0 (Aw g) := by
  refine Met.ofW (cc := cX5_restBy) (maxL := 6) (ret := (some .int)) (by decide) rfl ?_
  intro p e s m args below meth c s₁ B hml hv
  obtain ⟨rfl, C, hs⟩ := ctx_of B hml hv
  have C : Cx g p s m meth c cX5_restBy 6 "Tillhouse$Product" := C
  have hr := B.returns
  have hl := lv_entry ([.ref a0, .int v1]) (n := 6) (Nat.le_of_ble_eq_true rfl)
  rw [lg_entry_eq]
  generalize (lg_sl ([.ref a0, .int v1]) ++ List.replicate (6 - (lg_sl ([.ref a0, .int v1])).length) Slot.unset).toArray = ls at hl ⊢
  have hl : lv_has ls 6 [(0, .ref a0), (1, .int v1)] := hl
  unfold f_X5_restBy at h
  refine lv_iload_n C.1 C.2.1 dX5_restBy_0 rfl (lv_at hl 1 rfl) ?_
  refine lv_if_lt (tgt := 10) C.1 C.2.1 dX5_restBy_1 (by decide) (fun c1 => ?_) (fun c1 => ?_)
  · replace h := ip c1 h
    exact t_X5_restBy_10 C hr h hs (lv_sub hl [0] rfl)
  · replace h := iN c1 h
    refine lv_iload_n C.1 C.2.1 dX5_restBy_4 rfl (lv_at hl 1 rfl) ?_
    refine lv_bipush (v := 36) C.1 C.2.1 dX5_restBy_5 (by decide) ?_
    refine lv_icmp_le (tgt := 34) C.1 C.2.1 dX5_restBy_7 (by decide) (fun c2 => ?_) (fun c2 => ?_)
    · replace h := ip c2 h
      refine lv_iload_n C.1 C.2.1 dX5_restBy_34 rfl (lv_at hl 1 rfl) ?_
      refine lv_bipush (v := 18) C.1 C.2.1 dX5_restBy_35 (by decide) ?_
      refine lv_icmp_gt (tgt := 57) C.1 C.2.1 dX5_restBy_37 (by decide) (fun c3 => ?_) (fun c3 => ?_)
      · replace h := ip c3 h
        refine sx_pw C hs q909 dX5_restBy_57 ?_
        refine lv_iload_n C.1 C.2.1 dX5_restBy_60 rfl (lv_at hl 1 rfl) ?_
        refine lv_bipush (v := 18) C.1 C.2.1 dX5_restBy_61 (by decide) ?_
        refine lv_isub C.1 C.2.1 dX5_restBy_63 ?_
        replace h := ob h; obtain ⟨x4, ex4, h⟩ := h
        refine sx_pwl C hs ex4 dX5_restBy_64 ?_
        refine lv_lstore_n (lv' := [(2, .long x4), (0, .ref a0), (1, .int v1)]) C.1 C.2.1 dX5_restBy_65 rfl hl (by decide) rfl (fun ls hl => ?_)
        refine lv_aload_n C.1 C.2.1 dX5_restBy_66 rfl (lv_at hl 1 rfl) ?_
        replace h := ob h; obtain ⟨x5, ex5, h⟩ := h
        refine sx_getV C hs fo_X5_15 (gL_v ex5) dX5_restBy_67 ?_
        refine lv_lload_n C.1 C.2.1 dX5_restBy_70 rfl (lv_at hl 0 rfl) ?_
        replace h := on h; obtain ⟨n6, h⟩ := h
        refine lv_lrem C.1 C.2.1 dX5_restBy_71 n6 ?_
        refine lv_lload_n C.1 C.2.1 dX5_restBy_72 rfl (lv_at hl 0 rfl) ?_
        replace h := ob h; obtain ⟨x7, ex7, h⟩ := h
        refine sx_callS (As := [.long (x5 - x5 / x4 * x4), .long x4]) (rest := []) C hs (c_X6_rest ex7) mo_X6_rest q917 rfl hl.1 ⟨⟨(Nat.le_of_ble_eq_true rfl), (Nat.le_of_ble_eq_true rfl)⟩, (Nat.le_of_ble_eq_true rfl), (Nat.le_of_ble_eq_true rfl)⟩ rfl (Nat.le_of_ble_eq_true rfl) dX5_restBy_73 (fun H locs hs => ?_)
        refine W.eq (g2 := F0 m 76 ls [.int x7]) rfl ?_
        refine lv_istore (lv' := [(4, .int x7), (2, .long x4), (0, .ref a0), (1, .int v1)]) C.1 C.2.1 dX5_restBy_76 hl (by decide) rfl (fun ls hl => ?_)
        refine lv_iload C.1 C.2.1 dX5_restBy_78 (lv_at hl 0 rfl) ?_
        refine lv_if_eq (tgt := 89) C.1 C.2.1 dX5_restBy_80 (by decide) (fun c8 => ?_) (fun c8 => ?_)
        · replace h := ip c8 h
          exact t_X5_restBy_89 C hr h hs (lv_sub hl [2, 0] rfl)
        · replace h := iN c8 h
          refine lv_iload C.1 C.2.1 dX5_restBy_83 (lv_at hl 0 rfl) ?_
          refine lv_iconst (v := 2) C.1 C.2.1 dX5_restBy_85 (by decide) ?_
          refine lv_icmp_ne (tgt := 93) C.1 C.2.1 dX5_restBy_86 (by decide) (fun c9 => ?_) (fun c9 => ?_)
          · replace h := iN c9 h
            refine lv_iconst (v := 0) C.1 C.2.1 dX5_restBy_93 (by decide) ?_
            exact t_X5_restBy_94 C hr h hs (lv_sub hl [2, 0] rfl)
          · replace h := ip c9 h
            exact t_X5_restBy_89 C hr h hs (lv_sub hl [2, 0] rfl)
      · replace h := iN c3 h
        refine sx_pw C hs q909 dX5_restBy_40 ?_
        refine lv_iload_n C.1 C.2.1 dX5_restBy_43 rfl (lv_at hl 1 rfl) ?_
        replace h := ob h; obtain ⟨x10, ex10, h⟩ := h
        refine sx_pwl C hs ex10 dX5_restBy_44 ?_
        refine lv_lstore_n (lv' := [(2, .long x10), (0, .ref a0), (1, .int v1)]) C.1 C.2.1 dX5_restBy_45 rfl hl (by decide) rfl (fun ls hl => ?_)
        refine lv_aload_n C.1 C.2.1 dX5_restBy_46 rfl (lv_at hl 1 rfl) ?_
        replace h := ob h; obtain ⟨x11, ex11, h⟩ := h
        refine sx_getV C hs fo_X5_19 (gL_v ex11) dX5_restBy_47 ?_
        refine lv_lload_n C.1 C.2.1 dX5_restBy_50 rfl (lv_at hl 0 rfl) ?_
        replace h := on h; obtain ⟨n12, h⟩ := h
        refine lv_lrem C.1 C.2.1 dX5_restBy_51 n12 ?_
        refine lv_lload_n C.1 C.2.1 dX5_restBy_52 rfl (lv_at hl 0 rfl) ?_
        replace h := ob h; obtain ⟨x13, ex13, h⟩ := h
        refine sx_callS (As := [.long (x11 - x11 / x10 * x10), .long x10]) (rest := []) C hs (c_X6_rest ex13) mo_X6_rest q917 rfl hl.1 ⟨⟨(Nat.le_of_ble_eq_true rfl), (Nat.le_of_ble_eq_true rfl)⟩, (Nat.le_of_ble_eq_true rfl), (Nat.le_of_ble_eq_true rfl)⟩ rfl (Nat.le_of_ble_eq_true rfl) dX5_restBy_53 (fun H locs hs => ?_)
        refine W.eq (g2 := F0 m 56 ls [.int x13]) rfl ?_
        cases h
        exact sx_iret C hs hr rfl dX5_restBy_56
    · replace h := iN c2 h
      exact t_X5_restBy_10 C hr h hs (lv_sub hl [0] rfl)
def f_X5_shortened (σ : Sto) (a0 : Nat) (v1 : Int32) (v2 : Int32) : Option ((Nat ⊕ Int64)) :=
 (isO σ a0 5).bind fun _ =>
 (f_X5_cutBy σ a0 v1).bind fun u3 =>
 bs u3 (fun j4 => some (.inl j4)) fun x2 =>
 (f_X5_restBy σ a0 v1).bind fun x5 =>
 (f_X6_settled x2 x5 0 v2).bind fun u7 =>
 bs u7 (fun j8 => some (.inl j8)) fun x6 =>
 if x6 ≤ 999999999999999999 then
 some (.inr x6)
 else
 some (.inl 3)
set_option maxHeartbeats 4000000 in
set_option maxRecDepth 100000 in
theorem c_X5_shortened {l : Launch} (hfl : l.stackTraces = false) {g : PP} {σ : Sto} {sz : Nat} {a0 : Nat} {v1 : Int32} {v2 : Int32} {r9 : Nat ⊕ Int64} (h : f_X5_shortened σ a0 v1 v2 = some r9) : vx_Met l yX5_shortened [Cond.code yX5_shortened cX5_shortened 5 (some .long)] (rmk 8 (cX r9) (cY r9) 148) (Pre g σ sz [.ref a0, .int v1, .int v2]) (PstX g (Sum.map id vL r9) σ sz) (XpX g (Sum.map id vL r9) σ sz) (cX r9) (cY r9) (Aw g) := by
  refine vx_ofW (cc := cX5_shortened) (maxL := 5) (ret := (some .long)) (by decide) rfl ?_
  intro p e s m args below meth c s₁ B hml ht hv
  obtain ⟨rfl, C, hs⟩ := ctx_of B hml hv
  have C : Cx g p s m meth c cX5_shortened 5 "Tillhouse$Product" := C
  have hr := B.returns
  have hl := lv_entry ([.ref a0, .int v1, .int v2]) (n := 5) (Nat.le_of_ble_eq_true rfl)
  rw [lg_entry_eq]
  generalize (lg_sl ([.ref a0, .int v1, .int v2]) ++ List.replicate (5 - (lg_sl ([.ref a0, .int v1, .int v2])).length) Slot.unset).toArray = ls at hl ⊢
  have hl : lv_has ls 5 [(0, .ref a0), (1, .int v1), (2, .int v2)] := hl
  unfold f_X5_shortened at h
  refine lv_aload_n C.1 C.2.1 dX5_shortened_0 rfl (lv_at hl 0 rfl) ?_
  refine lv_iload_n C.1 C.2.1 dX5_shortened_1 rfl (lv_at hl 1 rfl) ?_
  replace h := ob h; obtain ⟨⟨⟩, i1, h⟩ := h
  replace h := ob h; obtain ⟨u3, ex2, h⟩ := h
  rcases u3 with j4 | x2
  · replace h := bsl h
    cases h
    refine sx_xcallV (As := [.int v1]) (rest := []) C hs (c_X5_cutBy hfl ex2) mo_X5_cutBy q905 i1 rfl rfl hl.1 ⟨⟨(Nat.le_of_ble_eq_true rfl), (Nat.le_of_ble_eq_true rfl)⟩, (Nat.le_of_ble_eq_true rfl), (Nat.le_of_ble_eq_true rfl)⟩ rfl (Nat.le_of_ble_eq_true rfl) dX5_shortened_2 (fun k9 hk9 ce q9 H locs a1 a2 a3 a4 a5 a6 => ?_) (fun vr hv => (inlr hv).elim)
    obtain rfl := Sum.inl.inj hk9
    exact sx_out C ht a1 a2 a3 a4 a5 a6 (Nat.le_of_ble_eq_true rfl) (Nat.le_of_ble_eq_true rfl)
  · replace h := bsr h
    refine sx_xcallV (As := [.int v1]) (rest := []) C hs (c_X5_cutBy hfl ex2) mo_X5_cutBy q905 i1 rfl rfl hl.1 ⟨⟨(Nat.le_of_ble_eq_true rfl), (Nat.le_of_ble_eq_true rfl)⟩, (Nat.le_of_ble_eq_true rfl), (Nat.le_of_ble_eq_true rfl)⟩ rfl (Nat.le_of_ble_eq_true rfl) dX5_shortened_2 (fun k9 hk9 => (inrl hk9).elim) (fun vr hv H locs hs => ?_)
    obtain rfl := Sum.inr.inj hv
    refine W.eq (g2 := F0 m 5 ls [.long x2]) rfl ?_
    refine W.widen (k := 0) (n := 0) (Nat.le_of_ble_eq_true rfl) (Nat.le_of_ble_eq_true rfl) ?_
    refine lv_aload_n C.1 C.2.1 dX5_shortened_5 rfl (lv_at hl 0 rfl) ?_
    refine lv_iload_n C.1 C.2.1 dX5_shortened_6 rfl (lv_at hl 1 rfl) ?_
    replace h := ob h; obtain ⟨x5, ex5, h⟩ := h
    refine sx_callV (As := [.int v1]) (rest := [.long x2]) C hs (c_X5_restBy ex5) mo_X5_restBy q913 i1 rfl rfl hl.1 ⟨⟨(Nat.le_of_ble_eq_true rfl), (Nat.le_of_ble_eq_true rfl)⟩, (Nat.le_of_ble_eq_true rfl), (Nat.le_of_ble_eq_true rfl)⟩ rfl (Nat.le_of_ble_eq_true rfl) dX5_shortened_7 (fun H locs hs => ?_)
    refine W.eq (g2 := F0 m 10 ls [.int x5, .long x2]) rfl ?_
    refine lv_iconst (v := 0) C.1 C.2.1 dX5_shortened_10 (by decide) ?_
    refine lv_iload_n C.1 C.2.1 dX5_shortened_11 rfl (lv_at hl 2 rfl) ?_
    replace h := ob h; obtain ⟨u7, ex6, h⟩ := h
    rcases u7 with j8 | x6
    · replace h := bsl h
      cases h
      refine sx_xcallS (As := [.long x2, .int x5, .int 0, .int v2]) (rest := []) C hs (c_X6_settled hfl ex6) mo_X6_settled q918 rfl hl.1 ⟨⟨(Nat.le_of_ble_eq_true rfl), (Nat.le_of_ble_eq_true rfl)⟩, (Nat.le_of_ble_eq_true rfl), (Nat.le_of_ble_eq_true rfl)⟩ rfl (Nat.le_of_ble_eq_true rfl) dX5_shortened_12 (fun k9 hk9 ce q9 H locs a1 a2 a3 a4 a5 a6 => ?_) (fun vr hv => (inlr hv).elim)
      obtain rfl := Sum.inl.inj hk9
      exact sx_out C ht a1 a2 a3 a4 a5 a6 (Nat.le_of_ble_eq_true rfl) (Nat.le_of_ble_eq_true rfl)
    · replace h := bsr h
      refine sx_xcallS (As := [.long x2, .int x5, .int 0, .int v2]) (rest := []) C hs (c_X6_settled hfl ex6) mo_X6_settled q918 rfl hl.1 ⟨⟨(Nat.le_of_ble_eq_true rfl), (Nat.le_of_ble_eq_true rfl)⟩, (Nat.le_of_ble_eq_true rfl), (Nat.le_of_ble_eq_true rfl)⟩ rfl (Nat.le_of_ble_eq_true rfl) dX5_shortened_12 (fun k9 hk9 => (inrl hk9).elim) (fun vr hv H locs hs => ?_)
      obtain rfl := Sum.inr.inj hv
      refine W.eq (g2 := F0 m 15 ls [.long x6]) rfl ?_
      refine W.widen (k := 0) (n := 0) (Nat.le_of_ble_eq_true rfl) (Nat.le_of_ble_eq_true rfl) ?_
      refine lv_lstore_n (lv' := [(3, .long x6), (0, .ref a0), (1, .int v1), (2, .int v2)]) C.1 C.2.1 dX5_shortened_15 rfl hl (by decide) rfl (fun ls hl => ?_)
      refine lv_lload_n C.1 C.2.1 dX5_shortened_16 rfl (lv_at hl 0 rfl) ?_
      refine lv_ldc2 (v := 999999999999999999) C.1 C.2.1 C.2.2.2.1 (C.2.2.2.2.1.1 _ q919 _) dX5_shortened_17 ?_
      refine W.lcmp C.1 C.2.1 dX5_shortened_20 ?_
      refine lv_if_le (tgt := 34) C.1 C.2.1 dX5_shortened_21 (by decide) (fun c9 => ?_) (fun c9 => ?_)
      · replace h := ip ((lg_cmp_le _ _).mp c9) h
        refine lv_lload_n C.1 C.2.1 dX5_shortened_34 rfl (lv_at hl 0 rfl) ?_
        cases h
        exact sx_lretX C hs hr dX5_shortened_35
      · replace h := iN (fun q => c9 ((lg_cmp_le _ _).mpr q)) h
        cases h
        exact sx_throw C hfl hs to_X5_26_28 ht hl.1 dX5_shortened_24 dX5_shortened_27 dX5_shortened_28 dX5_shortened_30 dX5_shortened_33 ⟨by decide, (Nat.le_of_ble_eq_true rfl), (Nat.le_of_ble_eq_true rfl), (Nat.le_of_ble_eq_true rfl)⟩ ⟨(Nat.le_of_ble_eq_true rfl), (Nat.le_of_ble_eq_true rfl)⟩
def f_X6_raised (v0 : Int64) (v2 : Int32) (v3 : Int64) : Option ((Nat ⊕ Int64)) :=
 if v0 = 0 then
 some (.inr 0)
 else
 if v2 < 0 then
 some (.inl 3)
 else
 if v2 ≤ 18 then
 (pw v2).bind fun x4 =>
 if x4 = 0 then none else
 if (if 0 < v0 then v0 else -v0) ≤ (v3 / x4) then
 some (.inr (v0 * x4))
 else
 some (.inl 3)
 else
 some (.inl 3)
set_option maxHeartbeats 4000000 in
set_option maxRecDepth 100000 in
theorem c_X6_raised {l : Launch} (hfl : l.stackTraces = false) {g : PP} {σ : Sto} {sz : Nat} {v0 : Int64} {v2 : Int32} {v3 : Int64} {r9 : Nat ⊕ Int64} (h : f_X6_raised v0 v2 v3 = some r9) : vx_Met l yX6_raised [Cond.code yX6_raised cX6_raised 7 (some .long)] (rmk 6 (cX r9) (cY r9) 100) (Pre g σ sz [.long v0, .int v2, .long v3]) (PstX g (Sum.map id vL r9) σ sz) (XpX g (Sum.map id vL r9) σ sz) (cX r9) (cY r9) (Aw g) := by
  refine vx_ofW (cc := cX6_raised) (maxL := 7) (ret := (some .long)) (by decide) rfl ?_
  intro p e s m args below meth c s₁ B hml ht hv
  obtain ⟨rfl, C, hs⟩ := ctx_of B hml hv
  have C : Cx g p s m meth c cX6_raised 7 "Tillhouse$Reckoning" := C
  have hr := B.returns
  have hl := lv_entry ([.long v0, .int v2, .long v3]) (n := 7) (Nat.le_of_ble_eq_true rfl)
  rw [lg_entry_eq]
  generalize (lg_sl ([.long v0, .int v2, .long v3]) ++ List.replicate (7 - (lg_sl ([.long v0, .int v2, .long v3])).length) Slot.unset).toArray = ls at hl ⊢
  have hl : lv_has ls 7 [(0, .long v0), (2, .int v2), (3, .long v3)] := hl
  unfold f_X6_raised at h
  refine lv_lload_n C.1 C.2.1 dX6_raised_0 rfl (lv_at hl 0 rfl) ?_
  refine lv_lconst (v := 0) C.1 C.2.1 dX6_raised_1 (by decide) ?_
  refine W.lcmp C.1 C.2.1 dX6_raised_2 ?_
  refine lv_if_ne (tgt := 8) C.1 C.2.1 dX6_raised_3 (by decide) (fun c1 => ?_) (fun c1 => ?_)
  · replace h := iN (fun q => c1 ((lg_cmp_eq _ _).mpr q)) h
    refine lv_iload_n C.1 C.2.1 dX6_raised_8 rfl (lv_at hl 1 rfl) ?_
    refine lv_if_lt (tgt := 18) C.1 C.2.1 dX6_raised_9 (by decide) (fun c2 => ?_) (fun c2 => ?_)
    · replace h := ip c2 h
      cases h
      exact sx_throw C hfl hs to_X6_17_38 ht hl.1 dX6_raised_18 dX6_raised_21 dX6_raised_22 dX6_raised_24 dX6_raised_27 ⟨by decide, (Nat.le_of_ble_eq_true rfl), (Nat.le_of_ble_eq_true rfl), (Nat.le_of_ble_eq_true rfl)⟩ ⟨(Nat.le_of_ble_eq_true rfl), (Nat.le_of_ble_eq_true rfl)⟩
    · replace h := iN c2 h
      refine lv_iload_n C.1 C.2.1 dX6_raised_12 rfl (lv_at hl 1 rfl) ?_
      refine lv_bipush (v := 18) C.1 C.2.1 dX6_raised_13 (by decide) ?_
      refine lv_icmp_le (tgt := 28) C.1 C.2.1 dX6_raised_15 (by decide) (fun c3 => ?_) (fun c3 => ?_)
      · replace h := ip c3 h
        refine sx_pw C hs q489 dX6_raised_28 ?_
        refine lv_iload_n C.1 C.2.1 dX6_raised_31 rfl (lv_at hl 1 rfl) ?_
        replace h := ob h; obtain ⟨x4, ex4, h⟩ := h
        refine sx_pwl C hs ex4 dX6_raised_32 ?_
        refine lv_lstore (lv' := [(5, .long x4), (0, .long v0), (2, .int v2), (3, .long v3)]) C.1 C.2.1 dX6_raised_33 hl (by decide) rfl (fun ls hl => ?_)
        refine lv_lload_n C.1 C.2.1 dX6_raised_35 rfl (lv_at hl 1 rfl) ?_
        refine va_mabs_long C.1 C.2.1 (C.2.2.1.trans hl.1.symm) C.2.2.2.1 (C.2.2.2.2.1.1 _ q641 _) (C.2.2.2.2.1.1 _ mth_va_mabs_long_s _) (C.2.2.2.2.1.1 _ qmath _) (C.2.2.2.2.1.1 _ mth_va_mabs_long_c _) (by exact Nat.le_of_ble_eq_true rfl) (by exact Nat.le_of_ble_eq_true rfl) (by exact Nat.le_of_ble_eq_true rfl) (by exact Nat.le_of_ble_eq_true rfl) dX6_raised_36 ?_
        refine lv_lload_n C.1 C.2.1 dX6_raised_39 rfl (lv_at hl 3 rfl) ?_
        refine lv_lload C.1 C.2.1 dX6_raised_40 (lv_at hl 0 rfl) ?_
        replace h := on h; obtain ⟨n5, h⟩ := h
        refine lv_ldiv C.1 C.2.1 dX6_raised_42 n5 ?_
        refine W.lcmp C.1 C.2.1 dX6_raised_43 ?_
        refine lv_if_le (tgt := 57) C.1 C.2.1 dX6_raised_44 (by decide) (fun c6 => ?_) (fun c6 => ?_)
        · replace h := ip ((lg_cmp_le _ _).mp c6) h
          refine lv_lload_n C.1 C.2.1 dX6_raised_57 rfl (lv_at hl 1 rfl) ?_
          refine lv_lload C.1 C.2.1 dX6_raised_58 (lv_at hl 0 rfl) ?_
          refine lv_lmul C.1 C.2.1 dX6_raised_60 ?_
          cases h
          exact sx_lretX C hs hr dX6_raised_61
        · replace h := iN (fun q => c6 ((lg_cmp_le _ _).mpr q)) h
          cases h
          exact sx_throw C hfl hs to_X6_17_38 ht hl.1 dX6_raised_47 dX6_raised_50 dX6_raised_51 dX6_raised_53 dX6_raised_56 ⟨by decide, (Nat.le_of_ble_eq_true rfl), (Nat.le_of_ble_eq_true rfl), (Nat.le_of_ble_eq_true rfl)⟩ ⟨(Nat.le_of_ble_eq_true rfl), (Nat.le_of_ble_eq_true rfl)⟩
      · replace h := iN c3 h
        cases h
        exact sx_throw C hfl hs to_X6_17_38 ht hl.1 dX6_raised_18 dX6_raised_21 dX6_raised_22 dX6_raised_24 dX6_raised_27 ⟨by decide, (Nat.le_of_ble_eq_true rfl), (Nat.le_of_ble_eq_true rfl), (Nat.le_of_ble_eq_true rfl)⟩ ⟨(Nat.le_of_ble_eq_true rfl), (Nat.le_of_ble_eq_true rfl)⟩
  · replace h := ip ((lg_cmp_eq _ _).mp c1) h
    refine lv_lconst (v := 0) C.1 C.2.1 dX6_raised_6 (by decide) ?_
    cases h
    exact sx_lretX C hs hr dX6_raised_7
def f_X5_shifted (σ : Sto) (a0 : Nat) (v1 : Int32) (v2 : Int32) : Option ((Nat ⊕ Int64)) :=
 if 0 ≤ v1 then
 (gL σ a0 5 0).bind fun x2 =>
 if x2 = 0 then
 (gL σ a0 5 1).bind fun x4 =>
 (f_X6_raised x4 v1 999999999999999999).bind fun u6 =>
 bs u6 (fun j7 => some (.inl j7)) fun x5 =>
 some (.inr x5)
 else
 some (.inl 3)
 else
 (isO σ a0 5).bind fun _ =>
 (f_X5_shortened σ a0 (-v1) v2).bind fun u10 =>
 bs u10 (fun j11 => some (.inl j11)) fun x9 =>
 some (.inr x9)
set_option maxHeartbeats 4000000 in
set_option maxRecDepth 100000 in
theorem c_X5_shifted {l : Launch} (hfl : l.stackTraces = false) {g : PP} {σ : Sto} {sz : Nat} {a0 : Nat} {v1 : Int32} {v2 : Int32} {r9 : Nat ⊕ Int64} (h : f_X5_shifted σ a0 v1 v2 = some r9) : vx_Met l yX5_shifted [Cond.code yX5_shifted cX5_shifted 3 (some .long)] (rmk 9 (cX r9) (cY r9) 172) (Pre g σ sz [.ref a0, .int v1, .int v2]) (PstX g (Sum.map id vL r9) σ sz) (XpX g (Sum.map id vL r9) σ sz) (cX r9) (cY r9) (Aw g) := by
  refine vx_ofW (cc := cX5_shifted) (maxL := 3) (ret := (some .long)) (by decide) rfl ?_
  intro p e s m args below meth c s₁ B hml ht hv
  obtain ⟨rfl, C, hs⟩ := ctx_of B hml hv
  have C : Cx g p s m meth c cX5_shifted 3 "Tillhouse$Product" := C
  have hr := B.returns
  have hl := lv_entry ([.ref a0, .int v1, .int v2]) (n := 3) (Nat.le_of_ble_eq_true rfl)
  rw [lg_entry_eq]
  generalize (lg_sl ([.ref a0, .int v1, .int v2]) ++ List.replicate (3 - (lg_sl ([.ref a0, .int v1, .int v2])).length) Slot.unset).toArray = ls at hl ⊢
  have hl : lv_has ls 3 [(0, .ref a0), (1, .int v1), (2, .int v2)] := hl
  unfold f_X5_shifted at h
  refine lv_iload_n C.1 C.2.1 dX5_shifted_0 rfl (lv_at hl 1 rfl) ?_
  refine lv_if_ge (tgt := 12) C.1 C.2.1 dX5_shifted_1 (by decide) (fun c1 => ?_) (fun c1 => ?_)
  · replace h := ip c1 h
    refine lv_aload_n C.1 C.2.1 dX5_shifted_12 rfl (lv_at hl 0 rfl) ?_
    replace h := ob h; obtain ⟨x2, ex2, h⟩ := h
    refine sx_getV C hs fo_X5_15 (gL_v ex2) dX5_shifted_13 ?_
    refine lv_lconst (v := 0) C.1 C.2.1 dX5_shifted_16 (by decide) ?_
    refine W.lcmp C.1 C.2.1 dX5_shifted_17 ?_
    refine lv_if_eq (tgt := 31) C.1 C.2.1 dX5_shifted_18 (by decide) (fun c3 => ?_) (fun c3 => ?_)
    · replace h := ip ((lg_cmp_eq _ _).mp c3) h
      refine lv_aload_n C.1 C.2.1 dX5_shifted_31 rfl (lv_at hl 0 rfl) ?_
      replace h := ob h; obtain ⟨x4, ex4, h⟩ := h
      refine sx_getV C hs fo_X5_19 (gL_v ex4) dX5_shifted_32 ?_
      refine lv_iload_n C.1 C.2.1 dX5_shifted_35 rfl (lv_at hl 1 rfl) ?_
      refine lv_ldc2 (v := 999999999999999999) C.1 C.2.1 C.2.2.2.1 (C.2.2.2.2.1.1 _ q919 _) dX5_shifted_36 ?_
      replace h := ob h; obtain ⟨u6, ex5, h⟩ := h
      rcases u6 with j7 | x5
      · replace h := bsl h
        cases h
        refine sx_xcallS (As := [.long x4, .int v1, .long 999999999999999999]) (rest := []) C hs (c_X6_raised hfl ex5) mo_X6_raised q920 rfl hl.1 ⟨⟨(Nat.le_of_ble_eq_true rfl), (Nat.le_of_ble_eq_true rfl)⟩, (Nat.le_of_ble_eq_true rfl), (Nat.le_of_ble_eq_true rfl)⟩ rfl (Nat.le_of_ble_eq_true rfl) dX5_shifted_39 (fun k9 hk9 ce q9 H locs a1 a2 a3 a4 a5 a6 => ?_) (fun vr hv => (inlr hv).elim)
        obtain rfl := Sum.inl.inj hk9
        exact sx_out C ht a1 a2 a3 a4 a5 a6 (Nat.le_of_ble_eq_true rfl) (Nat.le_of_ble_eq_true rfl)
      · replace h := bsr h
        refine sx_xcallS (As := [.long x4, .int v1, .long 999999999999999999]) (rest := []) C hs (c_X6_raised hfl ex5) mo_X6_raised q920 rfl hl.1 ⟨⟨(Nat.le_of_ble_eq_true rfl), (Nat.le_of_ble_eq_true rfl)⟩, (Nat.le_of_ble_eq_true rfl), (Nat.le_of_ble_eq_true rfl)⟩ rfl (Nat.le_of_ble_eq_true rfl) dX5_shifted_39 (fun k9 hk9 => (inrl hk9).elim) (fun vr hv H locs hs => ?_)
        obtain rfl := Sum.inr.inj hv
        refine W.eq (g2 := F0 m 42 ls [.long x5]) rfl ?_
        refine W.widen (k := 0) (n := 0) (Nat.le_of_ble_eq_true rfl) (Nat.le_of_ble_eq_true rfl) ?_
        cases h
        exact sx_lretX C hs hr dX5_shifted_42
    · replace h := iN (fun q => c3 ((lg_cmp_eq _ _).mpr q)) h
      cases h
      exact sx_throw C hfl hs to_X5_26_28 ht hl.1 dX5_shifted_21 dX5_shifted_24 dX5_shifted_25 dX5_shifted_27 dX5_shifted_30 ⟨by decide, (Nat.le_of_ble_eq_true rfl), (Nat.le_of_ble_eq_true rfl), (Nat.le_of_ble_eq_true rfl)⟩ ⟨(Nat.le_of_ble_eq_true rfl), (Nat.le_of_ble_eq_true rfl)⟩
  · replace h := iN c1 h
    refine lv_aload_n C.1 C.2.1 dX5_shifted_4 rfl (lv_at hl 0 rfl) ?_
    refine lv_iload_n C.1 C.2.1 dX5_shifted_5 rfl (lv_at hl 1 rfl) ?_
    refine lv_ineg C.1 C.2.1 dX5_shifted_6 ?_
    refine lv_iload_n C.1 C.2.1 dX5_shifted_7 rfl (lv_at hl 2 rfl) ?_
    replace h := ob h; obtain ⟨⟨⟩, i8, h⟩ := h
    replace h := ob h; obtain ⟨u10, ex9, h⟩ := h
    rcases u10 with j11 | x9
    · replace h := bsl h
      cases h
      refine sx_xcallV (As := [.int (-v1), .int v2]) (rest := []) C hs (c_X5_shortened hfl ex9) mo_X5_shortened q901 i8 rfl rfl hl.1 ⟨⟨(Nat.le_of_ble_eq_true rfl), (Nat.le_of_ble_eq_true rfl)⟩, (Nat.le_of_ble_eq_true rfl), (Nat.le_of_ble_eq_true rfl)⟩ rfl (Nat.le_of_ble_eq_true rfl) dX5_shifted_8 (fun k9 hk9 ce q9 H locs a1 a2 a3 a4 a5 a6 => ?_) (fun vr hv => (inlr hv).elim)
      obtain rfl := Sum.inl.inj hk9
      exact sx_out C ht a1 a2 a3 a4 a5 a6 (Nat.le_of_ble_eq_true rfl) (Nat.le_of_ble_eq_true rfl)
    · replace h := bsr h
      refine sx_xcallV (As := [.int (-v1), .int v2]) (rest := []) C hs (c_X5_shortened hfl ex9) mo_X5_shortened q901 i8 rfl rfl hl.1 ⟨⟨(Nat.le_of_ble_eq_true rfl), (Nat.le_of_ble_eq_true rfl)⟩, (Nat.le_of_ble_eq_true rfl), (Nat.le_of_ble_eq_true rfl)⟩ rfl (Nat.le_of_ble_eq_true rfl) dX5_shifted_8 (fun k9 hk9 => (inrl hk9).elim) (fun vr hv H locs hs => ?_)
      obtain rfl := Sum.inr.inj hv
      refine W.eq (g2 := F0 m 11 ls [.long x9]) rfl ?_
      refine W.widen (k := 0) (n := 0) (Nat.le_of_ble_eq_true rfl) (Nat.le_of_ble_eq_true rfl) ?_
      cases h
      exact sx_lretX C hs hr dX5_shifted_11
def f_X6_isMode (v0 : Int32) : Option Int32 :=
 if v0 = 99 then
 some (1)
 else
 if v0 = 100 then
 some (1)
 else
 if v0 = 101 then
 some (1)
 else
 if v0 = 102 then
 some (1)
 else
 if v0 = 104 then
 some (1)
 else
 if v0 = 108 then
 some (1)
 else
 if v0 = 110 then
 some (1)
 else
 if v0 = 117 then
 some (1)
 else
 some (0)
set_option maxHeartbeats 4000000 in
set_option maxRecDepth 100000 in
theorem c_X6_isMode {l : Launch} {g : PP} {σ : Sto} {sz : Nat} {v0 : Int32} {r9 : Int32} (h : f_X6_isMode v0 = some r9) : Met l yX6_isMode [Cond.code yX6_isMode cX6_isMode 1 (some .boolean)] (rmk 0 0 0 0) (Pre g σ sz [.int v0]) (Pst g (vI r9) σ sz) 0 0 (Aw g) := by
  refine Met.ofW (cc := cX6_isMode) (maxL := 1) (ret := (some .boolean)) (by decide) rfl ?_
  intro p e s m args below meth c s₁ B hml hv
  obtain ⟨rfl, C, hs⟩ := ctx_of B hml hv
  have C : Cx g p s m meth c cX6_isMode 1 "Tillhouse$Reckoning" := C
  have hr := B.returns
  have hl := lv_entry ([.int v0]) (n := 1) (Nat.le_of_ble_eq_true rfl)
  rw [lg_entry_eq]
  generalize (lg_sl ([.int v0]) ++ List.replicate (1 - (lg_sl ([.int v0])).length) Slot.unset).toArray = ls at hl ⊢
  have hl : lv_has ls 1 [(0, .int v0)] := hl
  unfold f_X6_isMode at h
  refine lv_iload_n C.1 C.2.1 dX6_isMode_0 rfl (lv_at hl 0 rfl) ?_
  rcases Decidable.em (v0 = 99) with c1 | c1
  · replace h := ip c1 h
    refine sx_tblK (tgt := 92) (off := 91) 99 C dX6_isMode_1 c1 (by decide) (by decide) ?_
    refine lv_iconst (v := 1) C.1 C.2.1 dX6_isMode_92 (by decide) ?_
    cases h
    exact sx_iret C hs hr (by decide) dX6_isMode_93
  · replace h := iN c1 h
    rcases Decidable.em (v0 = 100) with c2 | c2
    · replace h := ip c2 h
      refine sx_tblK (tgt := 92) (off := 91) 100 C dX6_isMode_1 c2 (by decide) (by decide) ?_
      refine lv_iconst (v := 1) C.1 C.2.1 dX6_isMode_92 (by decide) ?_
      cases h
      exact sx_iret C hs hr (by decide) dX6_isMode_93
    · replace h := iN c2 h
      rcases Decidable.em (v0 = 101) with c3 | c3
      · replace h := ip c3 h
        refine sx_tblK (tgt := 92) (off := 91) 101 C dX6_isMode_1 c3 (by decide) (by decide) ?_
        refine lv_iconst (v := 1) C.1 C.2.1 dX6_isMode_92 (by decide) ?_
        cases h
        exact sx_iret C hs hr (by decide) dX6_isMode_93
      · replace h := iN c3 h
        rcases Decidable.em (v0 = 102) with c4 | c4
        · replace h := ip c4 h
          refine sx_tblK (tgt := 92) (off := 91) 102 C dX6_isMode_1 c4 (by decide) (by decide) ?_
          refine lv_iconst (v := 1) C.1 C.2.1 dX6_isMode_92 (by decide) ?_
          cases h
          exact sx_iret C hs hr (by decide) dX6_isMode_93
        · replace h := iN c4 h
          rcases Decidable.em (v0 = 104) with c5 | c5
          · replace h := ip c5 h
            refine sx_tblK (tgt := 92) (off := 91) 104 C dX6_isMode_1 c5 (by decide) (by decide) ?_
            refine lv_iconst (v := 1) C.1 C.2.1 dX6_isMode_92 (by decide) ?_
            cases h
            exact sx_iret C hs hr (by decide) dX6_isMode_93
          · replace h := iN c5 h
            rcases Decidable.em (v0 = 108) with c6 | c6
            · replace h := ip c6 h
              refine sx_tblK (tgt := 92) (off := 91) 108 C dX6_isMode_1 c6 (by decide) (by decide) ?_
              refine lv_iconst (v := 1) C.1 C.2.1 dX6_isMode_92 (by decide) ?_
              cases h
              exact sx_iret C hs hr (by decide) dX6_isMode_93
            · replace h := iN c6 h
              rcases Decidable.em (v0 = 110) with c7 | c7
              · replace h := ip c7 h
                refine sx_tblK (tgt := 92) (off := 91) 110 C dX6_isMode_1 c7 (by decide) (by decide) ?_
                refine lv_iconst (v := 1) C.1 C.2.1 dX6_isMode_92 (by decide) ?_
                cases h
                exact sx_iret C hs hr (by decide) dX6_isMode_93
              · replace h := iN c7 h
                rcases Decidable.em (v0 = 117) with c8 | c8
                · replace h := ip c8 h
                  refine sx_tblK (tgt := 92) (off := 91) 117 C dX6_isMode_1 c8 (by decide) (by decide) ?_
                  refine lv_iconst (v := 1) C.1 C.2.1 dX6_isMode_92 (by decide) ?_
                  cases h
                  exact sx_iret C hs hr (by decide) dX6_isMode_93
                · replace h := iN c8 h
                  refine sx_tblD (tgt := 94) [99, 100, 101, 102, 104, 108, 110, 117] C dX6_isMode_1 (by decide) (by decide) (List.forall_mem_cons.mpr ⟨c1, (List.forall_mem_cons.mpr ⟨c2, (List.forall_mem_cons.mpr ⟨c3, (List.forall_mem_cons.mpr ⟨c4, (List.forall_mem_cons.mpr ⟨c5, (List.forall_mem_cons.mpr ⟨c6, (List.forall_mem_cons.mpr ⟨c7, (List.forall_mem_cons.mpr ⟨c8, (fun _ h => nomatch h)⟩)⟩)⟩)⟩)⟩)⟩)⟩)⟩) (by decide) ?_
                  refine lv_iconst (v := 0) C.1 C.2.1 dX6_isMode_94 (by decide) ?_
                  cases h
                  exact sx_iret C hs hr (by decide) dX6_isMode_95
def b_X6_digitsOf_2_body (N : Nat) (k2 : Int64 × Int32 → Option Int32) (v0 : Int64) (v2 : Int32) : Option Int32 :=
 if 18 < v2 then
 some (19)
 else
 (pw v2).bind fun x2 =>
 if x2 ≤ v0 then
 lt_ (v2 + 1) fun x4 =>
 k2 (v0, x4)
 else
 some (v2)
def b_X6_digitsOf_2 (N : Nat) (v0 : Int64) (v2 : Int32) : Option Int32 :=
  lp (fun k e => b_X6_digitsOf_2_body N k e.1 e.2) N (v0, v2)
def f_X6_digitsOf (N : Nat) (v0 : Int64) : Option Int32 :=
 b_X6_digitsOf_2 N v0 1
set_option maxHeartbeats 4000000 in
set_option maxRecDepth 100000 in
theorem tb_X6_digitsOf_2 {l : Launch} {g : PP} {p : Program} {e : Env} {s : State} {m : MethodId} {args : Array Value} {below : List Frame} {meth : Method} {c : Code} (C : Cx g p s m meth c cX6_digitsOf 3 "Tillhouse$Reckoning") (hr : meth.sig.returnType = some .int) {N : Nat}  {k2 : Int64 × Int32 → Option Int32} {σ : Sto} {sz : Nat} {v0 : Int64} {v2 : Int32} {r9 : Int32}
    (h : b_X6_digitsOf_2_body N k2 v0 v2 = some r9)  (hk2 : ∀ (v0 : Int64) (v2 : Int32), k2 (v0, v2) = some r9 → ∀ (H : Heap) (locs : List Loc) (ls : Array Slot), HS g s σ sz H locs → lv_has ls 3 [(0, .long v0), (2, .int v2)] → W p l e (rmk 0 0 0 0) s m args below meth c H locs 0 0 (MQ below (Pst g (vI r9) σ sz) args s 0 0 (Aw g)) (F0 m 2 ls []))
    {H : Heap} {locs : List Loc} {ls : Array Slot} (hs : HS g s σ sz H locs) (hl : lv_has ls 3 [(0, .long v0), (2, .int v2)]) : W p l e (rmk 0 0 0 0) s m args below meth c H locs 0 0 (MQ below (Pst g (vI r9) σ sz) args s 0 0 (Aw g)) (F0 m 2 ls []) := by
  unfold b_X6_digitsOf_2_body at h
  refine lv_iload_n C.1 C.2.1 dX6_digitsOf_2 rfl (lv_at hl 1 rfl) ?_
  refine lv_bipush (v := 18) C.1 C.2.1 dX6_digitsOf_3 (by decide) ?_
  refine lv_icmp_gt (tgt := 26) C.1 C.2.1 dX6_digitsOf_5 (by decide) (fun c1 => ?_) (fun c1 => ?_)
  · replace h := ip c1 h
    refine lv_bipush (v := 19) C.1 C.2.1 dX6_digitsOf_26 (by decide) ?_
    cases h
    exact sx_iret C hs hr rfl dX6_digitsOf_28
  · replace h := iN c1 h
    refine lv_lload_n C.1 C.2.1 dX6_digitsOf_8 rfl (lv_at hl 0 rfl) ?_
    refine sx_pw C hs q489 dX6_digitsOf_9 ?_
    refine lv_iload_n C.1 C.2.1 dX6_digitsOf_12 rfl (lv_at hl 1 rfl) ?_
    replace h := ob h; obtain ⟨x2, ex2, h⟩ := h
    refine sx_pwl C hs ex2 dX6_digitsOf_13 ?_
    refine W.lcmp C.1 C.2.1 dX6_digitsOf_14 ?_
    refine lv_if_ge (tgt := 20) C.1 C.2.1 dX6_digitsOf_15 (by decide) (fun c3 => ?_) (fun c3 => ?_)
    · replace h := ip ((lg_cmp_ge _ _).mp c3) h
      replace h := ol h; obtain ⟨x4, ex4, h⟩ := h
      refine lv_iinc (v := x4) (lv' := [(2, .int x4), (0, .long v0)]) C.1 C.2.1 dX6_digitsOf_20 hl (k := 1) rfl (by rw [ex4]; rfl) (by decide) rfl (fun ls hl => ?_)
      refine lv_goto (tgt := 2) C.1 C.2.1 dX6_digitsOf_23 (by decide) ?_
      exact hk2 v0 x4 h _ _ _ hs (lv_sub hl [1, 0] rfl)
    · replace h := iN (fun q => c3 ((lg_cmp_ge _ _).mpr q)) h
      refine lv_iload_n C.1 C.2.1 dX6_digitsOf_18 rfl (lv_at hl 1 rfl) ?_
      cases h
      exact sx_iret C hs hr rfl dX6_digitsOf_19
set_option maxHeartbeats 4000000 in
set_option maxRecDepth 100000 in
theorem tl_X6_digitsOf_2 {l : Launch} {g : PP} {p : Program} {e : Env} {s : State} {m : MethodId} {args : Array Value} {below : List Frame} {meth : Method} {c : Code} (C : Cx g p s m meth c cX6_digitsOf 3 "Tillhouse$Reckoning") (hr : meth.sig.returnType = some .int) {N : Nat}  {σ : Sto} {sz : Nat} {r9 : Int32}  : ∀ (n : Nat) (v0 : Int64) (v2 : Int32), lp (fun k e => b_X6_digitsOf_2_body N k e.1 e.2) n (v0, v2) = some r9 → ∀ (H : Heap) (locs : List Loc) (ls : Array Slot), HS g s σ sz H locs → lv_has ls 3 [(0, .long v0), (2, .int v2)] → W p l e (rmk 0 0 0 0) s m args below meth c H locs 0 0 (MQ below (Pst g (vI r9) σ sz) args s 0 0 (Aw g)) (F0 m 2 ls []) := by
  intro n
  induction n with
  | zero => intro v0 v2 h; exact absurd h (fun q => nomatch q)
  | succ n ih =>
    intro v0 v2 h H locs ls hs hl
    exact tb_X6_digitsOf_2 (N := N) C hr h (fun v0 v2 h H locs ls hs hl => ih v0 v2 h H locs ls hs hl) hs hl
set_option maxHeartbeats 4000000 in
set_option maxRecDepth 100000 in
theorem t_X6_digitsOf_2 {l : Launch} {g : PP} {p : Program} {e : Env} {s : State} {m : MethodId} {args : Array Value} {below : List Frame} {meth : Method} {c : Code} (C : Cx g p s m meth c cX6_digitsOf 3 "Tillhouse$Reckoning") (hr : meth.sig.returnType = some .int) {N : Nat}  {σ : Sto} {sz : Nat} {v0 : Int64} {v2 : Int32} {r9 : Int32}
    (h : b_X6_digitsOf_2 N v0 v2 = some r9) 
    {H : Heap} {locs : List Loc} {ls : Array Slot} (hs : HS g s σ sz H locs) (hl : lv_has ls 3 [(0, .long v0), (2, .int v2)]) : W p l e (rmk 0 0 0 0) s m args below meth c H locs 0 0 (MQ below (Pst g (vI r9) σ sz) args s 0 0 (Aw g)) (F0 m 2 ls []) := tl_X6_digitsOf_2 C hr N v0 v2 h H locs ls hs hl
set_option maxHeartbeats 4000000 in
set_option maxRecDepth 100000 in
theorem c_X6_digitsOf {l : Launch} {g : PP} {N : Nat} {σ : Sto} {sz : Nat} {v0 : Int64} {r9 : Int32} (h : f_X6_digitsOf N v0 = some r9) : Met l yX6_digitsOf [Cond.code yX6_digitsOf cX6_digitsOf 3 (some .int)] (rmk 0 0 0 0) (Pre g σ sz [.long v0]) (Pst g (vI r9) σ sz) 0 0 (Aw g) := by
  refine Met.ofW (cc := cX6_digitsOf) (maxL := 3) (ret := (some .int)) (by decide) rfl ?_
  intro p e s m args below meth c s₁ B hml hv
  obtain ⟨rfl, C, hs⟩ := ctx_of B hml hv
  have C : Cx g p s m meth c cX6_digitsOf 3 "Tillhouse$Reckoning" := C
  have hr := B.returns
  have hl := lv_entry ([.long v0]) (n := 3) (Nat.le_of_ble_eq_true rfl)
  rw [lg_entry_eq]
  generalize (lg_sl ([.long v0]) ++ List.replicate (3 - (lg_sl ([.long v0])).length) Slot.unset).toArray = ls at hl ⊢
  have hl : lv_has ls 3 [(0, .long v0)] := hl
  unfold f_X6_digitsOf at h
  refine lv_iconst (v := 1) C.1 C.2.1 dX6_digitsOf_0 (by decide) ?_
  refine lv_istore_n (lv' := [(2, .int 1), (0, .long v0)]) C.1 C.2.1 dX6_digitsOf_1 rfl hl (by decide) rfl (fun ls hl => ?_)
  exact t_X6_digitsOf_2 C hr h hs (lv_sub hl [1, 0] rfl)
def f_X7_init (σ : Sto) (sz : Nat) (a0 : Nat) : Option (Unit × Sto × Nat) :=
 lt_ (nA σ sz 1 12 z1) fun τ1 =>
 (pF τ1 a0 6 0 (.ref sz)).bind fun τ2 =>
 (pF τ2 a0 6 1 (.int 0)).bind fun τ3 =>
 lt_ (nA τ3 (sz + 1) 2 12 z2) fun τ4 =>
 (pF τ4 a0 6 2 (.ref (sz + 1))).bind fun τ5 =>
 (pF τ5 a0 6 3 (.int 0)).bind fun τ6 =>
 lt_ (nA τ6 (sz + 2) 2 12 z2) fun τ7 =>
 (pF τ7 a0 6 4 (.ref (sz + 2))).bind fun τ8 =>
 (pF τ8 a0 6 5 (.long 0)).bind fun τ9 =>
 some ((), τ9, sz + 3)
set_option maxHeartbeats 4000000 in
set_option maxRecDepth 100000 in
theorem c_X7_init {l : Launch} {g : PP} {σ : Sto} {sz : Nat} {a0 : Nat} {r9 : Unit} {σ9 : Sto} {sz9 : Nat} (h : f_X7_init σ sz a0 = some (r9, σ9, sz9)) : Met l yX7_init [Cond.code yX7_init cX7_init 1 none] (rmk 1 3 36 20) (Pre g σ sz [.ref a0]) (Pst g (vV r9) σ9 sz9) 3 36 (Aw g) := by
  refine Met.ofW (cc := cX7_init) (maxL := 1) (ret := none) (by decide) rfl ?_
  intro p e s m args below meth c s₁ B hml hv
  obtain ⟨rfl, C, hs⟩ := ctx_of B hml hv
  have C : Cx g p s m meth c cX7_init 1 "Tillhouse$Sharing" := C
  have hr := B.returns
  have hin : meth.name = "<init>" := (name_of_methodNamed B.named B.method).1
  have hl := lv_entry ([.ref a0]) (n := 1) (Nat.le_of_ble_eq_true rfl)
  rw [lg_entry_eq]
  generalize (lg_sl ([.ref a0]) ++ List.replicate (1 - (lg_sl ([.ref a0])).length) Slot.unset).toArray = ls at hl ⊢
  have hl : lv_has ls 1 [(0, .ref a0)] := hl
  unfold f_X7_init at h
  refine lv_aload_n C.1 C.2.1 dX7_init_0 rfl (lv_at hl 0 rfl) ?_
  refine sx_objInit C hl q123 qobj1 qobj2 dX7_init_1 (Nat.le_of_ble_eq_true rfl) (Nat.le_of_ble_eq_true rfl) ?_
  refine lv_aload_n C.1 C.2.1 dX7_init_4 rfl (lv_at hl 0 rfl) ?_
  refine lv_bipush (v := 12) C.1 C.2.1 dX7_init_5 (by decide) ?_
  replace h := ol h; obtain ⟨τ1, eτ1, h⟩ := h
  refine sx_newa (atype := .int) (k := 1) (N := 12) (f := z1) C hs (by decide) rfl q145 (fun _ => rfl) (by decide) (by decide +kernel) (Nat.le_of_ble_eq_true rfl) (Nat.le_of_ble_eq_true rfl) (Nat.le_of_ble_eq_true rfl) dX7_init_7 (fun H hs => ?_)
  replace hs := HS.nm eτ1 hs
  replace h := ob h; obtain ⟨τ2, eτ2, h⟩ := h
  refine sx_putF C hs fi_X7_9 hin rfl rfl eτ2 dX7_init_9 (fun H locs hs => ?_)
  refine lv_aload_n C.1 C.2.1 dX7_init_12 rfl (lv_at hl 0 rfl) ?_
  refine lv_iconst (v := 0) C.1 C.2.1 dX7_init_13 (by decide) ?_
  replace h := ob h; obtain ⟨τ3, eτ3, h⟩ := h
  refine sx_put C hs fp_X7_13 rfl rfl eτ3 dX7_init_14 (fun H locs hs => ?_)
  refine lv_aload_n C.1 C.2.1 dX7_init_17 rfl (lv_at hl 0 rfl) ?_
  refine lv_bipush (v := 12) C.1 C.2.1 dX7_init_18 (by decide) ?_
  replace h := ol h; obtain ⟨τ4, eτ4, h⟩ := h
  refine sx_newa (atype := .long) (k := 2) (N := 12) (f := z2) C hs (by decide) rfl q146 (fun _ => rfl) (by decide) (by decide +kernel) (Nat.le_of_ble_eq_true rfl) (Nat.le_of_ble_eq_true rfl) (Nat.le_of_ble_eq_true rfl) dX7_init_20 (fun H hs => ?_)
  replace hs := HS.nm eτ4 hs
  replace h := ob h; obtain ⟨τ5, eτ5, h⟩ := h
  refine sx_putF C hs fi_X7_17 hin rfl rfl eτ5 dX7_init_22 (fun H locs hs => ?_)
  refine lv_aload_n C.1 C.2.1 dX7_init_25 rfl (lv_at hl 0 rfl) ?_
  refine lv_iconst (v := 0) C.1 C.2.1 dX7_init_26 (by decide) ?_
  replace h := ob h; obtain ⟨τ6, eτ6, h⟩ := h
  refine sx_put C hs fp_X7_21 rfl rfl eτ6 dX7_init_27 (fun H locs hs => ?_)
  refine lv_aload_n C.1 C.2.1 dX7_init_30 rfl (lv_at hl 0 rfl) ?_
  refine lv_bipush (v := 12) C.1 C.2.1 dX7_init_31 (by decide) ?_
  replace h := ol h; obtain ⟨τ7, eτ7, h⟩ := h
  refine sx_newa (atype := .long) (k := 2) (N := 12) (f := z2) C hs (by decide) rfl q146 (fun _ => rfl) (by decide) (by decide +kernel) (Nat.le_of_ble_eq_true rfl) (Nat.le_of_ble_eq_true rfl) (Nat.le_of_ble_eq_true rfl) dX7_init_33 (fun H hs => ?_)
  replace hs := HS.nm eτ7 hs
  replace h := ob h; obtain ⟨τ8, eτ8, h⟩ := h
  refine sx_putF C hs fi_X7_24 hin rfl rfl eτ8 dX7_init_35 (fun H locs hs => ?_)
  refine lv_aload_n C.1 C.2.1 dX7_init_38 rfl (lv_at hl 0 rfl) ?_
  refine lv_lconst (v := 0) C.1 C.2.1 dX7_init_39 (by decide) ?_
  replace h := ob h; obtain ⟨τ9, eτ9, h⟩ := h
  refine sx_put C hs fp_X7_27 rfl rfl eτ9 dX7_init_40 (fun H locs hs => ?_)
  cases h
  exact sx_vret C hs hr dX7_init_43
def f_X7_isFull (σ : Sto) (a0 : Nat) : Option Int32 :=
 (gI σ a0 6 1).bind fun x1 =>
 if x1 < 12 then
 some (0)
 else
 some (1)
set_option maxHeartbeats 4000000 in
set_option maxRecDepth 100000 in
theorem c_X7_isFull {l : Launch} {g : PP} {σ : Sto} {sz : Nat} {a0 : Nat} {r9 : Int32} (h : f_X7_isFull σ a0 = some r9) : Met l yX7_isFull [Cond.code yX7_isFull cX7_isFull 1 (some .boolean)] (rmk 0 0 0 0) (Pre g σ sz [.ref a0]) (Pst g (vI r9) σ sz) 0 0 (Aw g) := by
  refine Met.ofW (cc := cX7_isFull) (maxL := 1) (ret := (some .boolean)) (by decide) rfl ?_
  intro p e s m args below meth c s₁ B hml hv
  obtain ⟨rfl, C, hs⟩ := ctx_of B hml hv
  have C : Cx g p s m meth c cX7_isFull 1 "Tillhouse$Sharing" := C
  have hr := B.returns
  have hl := lv_entry ([.ref a0]) (n := 1) (Nat.le_of_ble_eq_true rfl)
  rw [lg_entry_eq]
  generalize (lg_sl ([.ref a0]) ++ List.replicate (1 - (lg_sl ([.ref a0])).length) Slot.unset).toArray = ls at hl ⊢
  have hl : lv_has ls 1 [(0, .ref a0)] := hl
  unfold f_X7_isFull at h
  refine lv_aload_n C.1 C.2.1 dX7_isFull_0 rfl (lv_at hl 0 rfl) ?_
  replace h := ob h; obtain ⟨x1, ex1, h⟩ := h
  refine sx_getV C hs fo_X7_13 (gI_v ex1) dX7_isFull_1 ?_
  refine lv_bipush (v := 12) C.1 C.2.1 dX7_isFull_4 (by decide) ?_
  refine lv_icmp_lt (tgt := 13) C.1 C.2.1 dX7_isFull_6 (by decide) (fun c2 => ?_) (fun c2 => ?_)
  · replace h := ip c2 h
    refine lv_iconst (v := 0) C.1 C.2.1 dX7_isFull_13 (by decide) ?_
    cases h
    exact sx_iret C hs hr (by decide) dX7_isFull_14
  · replace h := iN c2 h
    refine lv_iconst (v := 1) C.1 C.2.1 dX7_isFull_9 (by decide) ?_
    refine lv_goto (tgt := 14) C.1 C.2.1 dX7_isFull_10 (by decide) ?_
    cases h
    exact sx_iret C hs hr (by decide) dX7_isFull_14
def f_X7_add (σ : Sto) (a0 : Nat) (v1 : Int32) : Option (Int32 × Sto) :=
 (gI σ a0 6 1).bind fun x1 =>
 if 12 ≤ x1 then
 (gI σ a0 6 1).bind fun x3 =>
 some (x3, σ)
 else
 (gR σ a0 6 0).bind fun p4 =>
 (gI σ a0 6 1).bind fun x5 =>
 (sI σ p4 1 x5 v1).bind fun τ6 =>
 (gI τ6 a0 6 1).bind fun x7 =>
 (pF τ6 a0 6 1 (.int (x7 + 1))).bind fun τ8 =>
 (gI τ8 a0 6 1).bind fun x9 =>
 some (x9, τ8)
set_option maxHeartbeats 4000000 in
set_option maxRecDepth 100000 in
theorem c_X7_add {l : Launch} {g : PP} {σ : Sto} {sz : Nat} {a0 : Nat} {v1 : Int32} {r9 : Int32} {σ9 : Sto} (h : f_X7_add σ a0 v1 = some (r9, σ9)) : Met l yX7_add [Cond.code yX7_add cX7_add 2 (some .int)] (rmk 0 0 0 0) (Pre g σ sz [.ref a0, .int v1]) (Pst g (vI r9) σ9 sz) 0 0 (Aw g) := by
  refine Met.ofW (cc := cX7_add) (maxL := 2) (ret := (some .int)) (by decide) rfl ?_
  intro p e s m args below meth c s₁ B hml hv
  obtain ⟨rfl, C, hs⟩ := ctx_of B hml hv
  have C : Cx g p s m meth c cX7_add 2 "Tillhouse$Sharing" := C
  have hr := B.returns
  have hl := lv_entry ([.ref a0, .int v1]) (n := 2) (Nat.le_of_ble_eq_true rfl)
  rw [lg_entry_eq]
  generalize (lg_sl ([.ref a0, .int v1]) ++ List.replicate (2 - (lg_sl ([.ref a0, .int v1])).length) Slot.unset).toArray = ls at hl ⊢
  have hl : lv_has ls 2 [(0, .ref a0), (1, .int v1)] := hl
  unfold f_X7_add at h
  refine lv_aload_n C.1 C.2.1 dX7_add_0 rfl (lv_at hl 0 rfl) ?_
  replace h := ob h; obtain ⟨x1, ex1, h⟩ := h
  refine sx_getV C hs fo_X7_13 (gI_v ex1) dX7_add_1 ?_
  refine lv_bipush (v := 12) C.1 C.2.1 dX7_add_4 (by decide) ?_
  refine lv_icmp_ge (tgt := 29) C.1 C.2.1 dX7_add_6 (by decide) (fun c2 => ?_) (fun c2 => ?_)
  · replace h := ip c2 h
    refine lv_aload_n C.1 C.2.1 dX7_add_29 rfl (lv_at hl 0 rfl) ?_
    replace h := ob h; obtain ⟨x3, ex3, h⟩ := h
    refine sx_getV C hs fo_X7_13 (gI_v ex3) dX7_add_30 ?_
    cases h
    exact sx_iret C hs hr rfl dX7_add_33
  · replace h := iN c2 h
    refine lv_aload_n C.1 C.2.1 dX7_add_9 rfl (lv_at hl 0 rfl) ?_
    replace h := ob h; obtain ⟨p4, ep4, h⟩ := h
    refine sx_getV C hs fo_X7_9 (gR_v ep4) dX7_add_10 ?_
    refine lv_aload_n C.1 C.2.1 dX7_add_13 rfl (lv_at hl 0 rfl) ?_
    replace h := ob h; obtain ⟨x5, ex5, h⟩ := h
    refine sx_getV C hs fo_X7_13 (gI_v ex5) dX7_add_14 ?_
    refine lv_iload_n C.1 C.2.1 dX7_add_17 rfl (lv_at hl 1 rfl) ?_
    replace h := ob h; obtain ⟨τ6, eτ6, h⟩ := h
    refine sx_iast C hs eτ6 dX7_add_18 (fun H locs hs => ?_)
    refine lv_aload_n C.1 C.2.1 dX7_add_19 rfl (lv_at hl 0 rfl) ?_
    refine lv_dup C.1 C.2.1 dX7_add_20 rfl ?_
    replace h := ob h; obtain ⟨x7, ex7, h⟩ := h
    refine sx_getV C hs fo_X7_13 (gI_v ex7) dX7_add_21 ?_
    refine lv_iconst (v := 1) C.1 C.2.1 dX7_add_24 (by decide) ?_
    refine lv_iadd C.1 C.2.1 dX7_add_25 ?_
    replace h := ob h; obtain ⟨τ8, eτ8, h⟩ := h
    refine sx_put C hs fp_X7_13 rfl rfl eτ8 dX7_add_26 (fun H locs hs => ?_)
    refine lv_aload_n C.1 C.2.1 dX7_add_29 rfl (lv_at hl 0 rfl) ?_
    replace h := ob h; obtain ⟨x9, ex9, h⟩ := h
    refine sx_getV C hs fo_X7_13 (gI_v ex9) dX7_add_30 ?_
    cases h
    exact sx_iret C hs hr rfl dX7_add_33
def b_X7_allWeights_4_body (N : Nat) (k4 : Sto × Nat × Int64 × Int32 → Option Int64) (σ : Sto) (a0 : Nat) (v1 : Int64) (v3 : Int32) : Option Int64 :=
 (gI σ a0 6 1).bind fun x1 =>
 if x1 ≤ v3 then
 some (v1)
 else
 (gR σ a0 6 0).bind fun p3 =>
 (aI σ p3 1 v3).bind fun x4 =>
 lt_ (v1 + (Int32.toInt64 x4)) fun x5 =>
 lt_ (v3 + 1) fun x6 =>
 k4 (σ, a0, x5, x6)
def b_X7_allWeights_4 (N : Nat) (σ : Sto) (a0 : Nat) (v1 : Int64) (v3 : Int32) : Option Int64 :=
  lp (fun k e => b_X7_allWeights_4_body N k e.1 e.2.1 e.2.2.1 e.2.2.2) N (σ, a0, v1, v3)
def f_X7_allWeights (N : Nat) (σ : Sto) (a0 : Nat) : Option Int64 :=
 b_X7_allWeights_4 N σ a0 0 0
set_option maxHeartbeats 4000000 in
set_option maxRecDepth 100000 in
theorem tb_X7_allWeights_4 {l : Launch} {g : PP} {p : Program} {e : Env} {s : State} {m : MethodId} {args : Array Value} {below : List Frame} {meth : Method} {c : Code} (C : Cx g p s m meth c cX7_allWeights 4 "Tillhouse$Sharing") (hr : meth.sig.returnType = some .long) {N : Nat}  {k4 : Sto × Nat × Int64 × Int32 → Option Int64} {σ : Sto} {sz : Nat} {a0 : Nat} {v1 : Int64} {v3 : Int32} {r9 : Int64}
    (h : b_X7_allWeights_4_body N k4 σ a0 v1 v3 = some r9)  (hk4 : ∀ (σ : Sto) (a0 : Nat) (v1 : Int64) (v3 : Int32), k4 (σ, a0, v1, v3) = some r9 → ∀ (H : Heap) (locs : List Loc) (ls : Array Slot), HS g s σ sz H locs → lv_has ls 4 [(0, .ref a0), (1, .long v1), (3, .int v3)] → W p l e (rmk 0 0 0 0) s m args below meth c H locs 0 0 (MQ below (Pst g (vL r9) σ sz) args s 0 0 (Aw g)) (F0 m 4 ls []))
    {H : Heap} {locs : List Loc} {ls : Array Slot} (hs : HS g s σ sz H locs) (hl : lv_has ls 4 [(0, .ref a0), (1, .long v1), (3, .int v3)]) : W p l e (rmk 0 0 0 0) s m args below meth c H locs 0 0 (MQ below (Pst g (vL r9) σ sz) args s 0 0 (Aw g)) (F0 m 4 ls []) := by
  unfold b_X7_allWeights_4_body at h
  refine lv_iload_n C.1 C.2.1 dX7_allWeights_4 rfl (lv_at hl 2 rfl) ?_
  refine lv_aload_n C.1 C.2.1 dX7_allWeights_5 rfl (lv_at hl 0 rfl) ?_
  replace h := ob h; obtain ⟨x1, ex1, h⟩ := h
  refine sx_getV C hs fo_X7_13 (gI_v ex1) dX7_allWeights_6 ?_
  refine lv_icmp_ge (tgt := 28) C.1 C.2.1 dX7_allWeights_9 (by decide) (fun c2 => ?_) (fun c2 => ?_)
  · replace h := ip c2 h
    refine lv_lload_n C.1 C.2.1 dX7_allWeights_28 rfl (lv_at hl 1 rfl) ?_
    cases h
    exact sx_lret C hs hr dX7_allWeights_29
  · replace h := iN c2 h
    refine lv_lload_n C.1 C.2.1 dX7_allWeights_12 rfl (lv_at hl 1 rfl) ?_
    refine lv_aload_n C.1 C.2.1 dX7_allWeights_13 rfl (lv_at hl 0 rfl) ?_
    replace h := ob h; obtain ⟨p3, ep3, h⟩ := h
    refine sx_getV C hs fo_X7_9 (gR_v ep3) dX7_allWeights_14 ?_
    refine lv_iload_n C.1 C.2.1 dX7_allWeights_17 rfl (lv_at hl 2 rfl) ?_
    replace h := ob h; obtain ⟨x4, ex4, h⟩ := h
    refine sx_iald C hs ex4 dX7_allWeights_18 ?_
    refine lv_i2l (v := Int32.toInt64 x4) C.1 C.2.1 dX7_allWeights_19 rfl ?_
    refine lv_ladd C.1 C.2.1 dX7_allWeights_20 ?_
    replace h := ol h; obtain ⟨x5, ex5, h⟩ := h
    refine sx_nmL ex5 ?_
    refine lv_lstore_n (lv' := [(1, .long x5), (0, .ref a0), (3, .int v3)]) C.1 C.2.1 dX7_allWeights_21 rfl hl (by decide) rfl (fun ls hl => ?_)
    replace h := ol h; obtain ⟨x6, ex6, h⟩ := h
    refine lv_iinc (v := x6) (lv' := [(3, .int x6), (1, .long x5), (0, .ref a0)]) C.1 C.2.1 dX7_allWeights_22 hl (k := 2) rfl (by rw [ex6]; rfl) (by decide) rfl (fun ls hl => ?_)
    refine lv_goto (tgt := 4) C.1 C.2.1 dX7_allWeights_25 (by decide) ?_
    exact hk4 σ a0 x5 x6 h _ _ _ hs (lv_sub hl [2, 1, 0] rfl)
set_option maxHeartbeats 4000000 in
set_option maxRecDepth 100000 in
theorem tl_X7_allWeights_4 {l : Launch} {g : PP} {p : Program} {e : Env} {s : State} {m : MethodId} {args : Array Value} {below : List Frame} {meth : Method} {c : Code} (C : Cx g p s m meth c cX7_allWeights 4 "Tillhouse$Sharing") (hr : meth.sig.returnType = some .long) {N : Nat}   {sz : Nat} {r9 : Int64}  : ∀ (n : Nat) (σ : Sto) (a0 : Nat) (v1 : Int64) (v3 : Int32), lp (fun k e => b_X7_allWeights_4_body N k e.1 e.2.1 e.2.2.1 e.2.2.2) n (σ, a0, v1, v3) = some r9 → ∀ (H : Heap) (locs : List Loc) (ls : Array Slot), HS g s σ sz H locs → lv_has ls 4 [(0, .ref a0), (1, .long v1), (3, .int v3)] → W p l e (rmk 0 0 0 0) s m args below meth c H locs 0 0 (MQ below (Pst g (vL r9) σ sz) args s 0 0 (Aw g)) (F0 m 4 ls []) := by
  intro n
  induction n with
  | zero => intro σ a0 v1 v3 h; exact absurd h (fun q => nomatch q)
  | succ n ih =>
    intro σ a0 v1 v3 h H locs ls hs hl
    exact tb_X7_allWeights_4 (N := N) C hr h (fun σ a0 v1 v3 h H locs ls hs hl => ih σ a0 v1 v3 h H locs ls hs hl) hs hl
set_option maxHeartbeats 4000000 in
set_option maxRecDepth 100000 in
theorem t_X7_allWeights_4 {l : Launch} {g : PP} {p : Program} {e : Env} {s : State} {m : MethodId} {args : Array Value} {below : List Frame} {meth : Method} {c : Code} (C : Cx g p s m meth c cX7_allWeights 4 "Tillhouse$Sharing") (hr : meth.sig.returnType = some .long) {N : Nat}  {σ : Sto} {sz : Nat} {a0 : Nat} {v1 : Int64} {v3 : Int32} {r9 : Int64}
    (h : b_X7_allWeights_4 N σ a0 v1 v3 = some r9) 
    {H : Heap} {locs : List Loc} {ls : Array Slot} (hs : HS g s σ sz H locs) (hl : lv_has ls 4 [(0, .ref a0), (1, .long v1), (3, .int v3)]) : W p l e (rmk 0 0 0 0) s m args below meth c H locs 0 0 (MQ below (Pst g (vL r9) σ sz) args s 0 0 (Aw g)) (F0 m 4 ls []) := tl_X7_allWeights_4 C hr N σ a0 v1 v3 h H locs ls hs hl
set_option maxHeartbeats 4000000 in
set_option maxRecDepth 100000 in
theorem c_X7_allWeights {l : Launch} {g : PP} {N : Nat} {σ : Sto} {sz : Nat} {a0 : Nat} {r9 : Int64} (h : f_X7_allWeights N σ a0 = some r9) : Met l yX7_allWeights [Cond.code yX7_allWeights cX7_allWeights 4 (some .long)] (rmk 0 0 0 0) (Pre g σ sz [.ref a0]) (Pst g (vL r9) σ sz) 0 0 (Aw g) := by
  refine Met.ofW (cc := cX7_allWeights) (maxL := 4) (ret := (some .long)) (by decide) rfl ?_
  intro p e s m args below meth c s₁ B hml hv
  obtain ⟨rfl, C, hs⟩ := ctx_of B hml hv
  have C : Cx g p s m meth c cX7_allWeights 4 "Tillhouse$Sharing" := C
  have hr := B.returns
  have hl := lv_entry ([.ref a0]) (n := 4) (Nat.le_of_ble_eq_true rfl)
  rw [lg_entry_eq]
  generalize (lg_sl ([.ref a0]) ++ List.replicate (4 - (lg_sl ([.ref a0])).length) Slot.unset).toArray = ls at hl ⊢
  have hl : lv_has ls 4 [(0, .ref a0)] := hl
  unfold f_X7_allWeights at h
  refine lv_lconst (v := 0) C.1 C.2.1 dX7_allWeights_0 (by decide) ?_
  refine lv_lstore_n (lv' := [(1, .long 0), (0, .ref a0)]) C.1 C.2.1 dX7_allWeights_1 rfl hl (by decide) rfl (fun ls hl => ?_)
  refine lv_iconst (v := 0) C.1 C.2.1 dX7_allWeights_2 (by decide) ?_
  refine lv_istore_n (lv' := [(3, .int 0), (1, .long 0), (0, .ref a0)]) C.1 C.2.1 dX7_allWeights_3 rfl hl (by decide) rfl (fun ls hl => ?_)
  exact t_X7_allWeights_4 C hr h hs (lv_sub hl [2, 1, 0] rfl)
def b_X7_cutParts_6_body (N : Nat) (k6 : Sto × Nat × Int64 × Int64 × Int64 × Int32 → Option (Int64 × Sto)) (σ : Sto) (a0 : Nat) (v1 : Int64) (v3 : Int64) (v5 : Int64) (v7 : Int32) : Option (Int64 × Sto) :=
 (gI σ a0 6 1).bind fun x1 =>
 if x1 ≤ v7 then
 some (v5, σ)
 else
 (gR σ a0 6 0).bind fun p3 =>
 (aI σ p3 1 v7).bind fun x4 =>
 lt_ (v1 * (Int32.toInt64 x4)) fun x5 =>
 (gR σ a0 6 2).bind fun p6 =>
 if v3 = 0 then none else
 (sL σ p6 2 v7 (x5 / v3)).bind fun τ8 =>
 (gR τ8 a0 6 4).bind fun p9 =>
 if v3 = 0 then none else
 (sL τ8 p9 2 v7 (x5 - x5 / v3 * v3)).bind fun τ11 =>
 (gR τ11 a0 6 2).bind fun p12 =>
 (aL τ11 p12 2 v7).bind fun x13 =>
 lt_ (v5 - x13) fun x14 =>
 lt_ (v7 + 1) fun x15 =>
 k6 (τ11, a0, v1, v3, x14, x15)
def b_X7_cutParts_6 (N : Nat) (σ : Sto) (a0 : Nat) (v1 : Int64) (v3 : Int64) (v5 : Int64) (v7 : Int32) : Option (Int64 × Sto) :=
  lp (fun k e => b_X7_cutParts_6_body N k e.1 e.2.1 e.2.2.1 e.2.2.2.1 e.2.2.2.2.1 e.2.2.2.2.2) N (σ, a0, v1, v3, v5, v7)
def f_X7_cutParts (N : Nat) (σ : Sto) (a0 : Nat) (v1 : Int64) (v3 : Int64) : Option (Int64 × Sto) :=
 b_X7_cutParts_6 N σ a0 v1 v3 v1 0
set_option maxHeartbeats 4000000 in
set_option maxRecDepth 100000 in
theorem tb_X7_cutParts_6 {l : Launch} {g : PP} {p : Program} {e : Env} {s : State} {m : MethodId} {args : Array Value} {below : List Frame} {meth : Method} {c : Code} (C : Cx g p s m meth c cX7_cutParts 10 "Tillhouse$Sharing") (hr : meth.sig.returnType = some .long) {N : Nat}  {k6 : Sto × Nat × Int64 × Int64 × Int64 × Int32 → Option (Int64 × Sto)} {σ : Sto} {sz : Nat} {a0 : Nat} {v1 : Int64} {v3 : Int64} {v5 : Int64} {v7 : Int32} {r9 : Int64} {σ9 : Sto}
    (h : b_X7_cutParts_6_body N k6 σ a0 v1 v3 v5 v7 = some (r9, σ9))  (hk6 : ∀ (σ : Sto) (a0 : Nat) (v1 : Int64) (v3 : Int64) (v5 : Int64) (v7 : Int32), k6 (σ, a0, v1, v3, v5, v7) = some (r9, σ9) → ∀ (H : Heap) (locs : List Loc) (ls : Array Slot), HS g s σ sz H locs → lv_has ls 10 [(0, .ref a0), (1, .long v1), (3, .long v3), (5, .long v5), (7, .int v7)] → W p l e (rmk 0 0 0 0) s m args below meth c H locs 0 0 (MQ below (Pst g (vL r9) σ9 sz) args s 0 0 (Aw g)) (F0 m 6 ls []))
    {H : Heap} {locs : List Loc} {ls : Array Slot} (hs : HS g s σ sz H locs) (hl : lv_has ls 10 [(0, .ref a0), (1, .long v1), (3, .long v3), (5, .long v5), (7, .int v7)]) : W p l e (rmk 0 0 0 0) s m args below meth c H locs 0 0 (MQ below (Pst g (vL r9) σ9 sz) args s 0 0 (Aw g)) (F0 m 6 ls []) := by
  unfold b_X7_cutParts_6_body at h
  refine lv_iload C.1 C.2.1 dX7_cutParts_6 (lv_at hl 4 rfl) ?_
  refine lv_aload_n C.1 C.2.1 dX7_cutParts_8 rfl (lv_at hl 0 rfl) ?_
  replace h := ob h; obtain ⟨x1, ex1, h⟩ := h
  refine sx_getV C hs fo_X7_13 (gI_v ex1) dX7_cutParts_9 ?_
  refine lv_icmp_ge (tgt := 67) C.1 C.2.1 dX7_cutParts_12 (by decide) (fun c2 => ?_) (fun c2 => ?_)
  · replace h := ip c2 h
    refine lv_lload C.1 C.2.1 dX7_cutParts_67 (lv_at hl 3 rfl) ?_
    cases h
    exact sx_lret C hs hr dX7_cutParts_69
  · replace h := iN c2 h
    refine lv_lload_n C.1 C.2.1 dX7_cutParts_15 rfl (lv_at hl 1 rfl) ?_
    refine lv_aload_n C.1 C.2.1 dX7_cutParts_16 rfl (lv_at hl 0 rfl) ?_
    replace h := ob h; obtain ⟨p3, ep3, h⟩ := h
    refine sx_getV C hs fo_X7_9 (gR_v ep3) dX7_cutParts_17 ?_
    refine lv_iload C.1 C.2.1 dX7_cutParts_20 (lv_at hl 4 rfl) ?_
    replace h := ob h; obtain ⟨x4, ex4, h⟩ := h
    refine sx_iald C hs ex4 dX7_cutParts_22 ?_
    refine lv_i2l (v := Int32.toInt64 x4) C.1 C.2.1 dX7_cutParts_23 rfl ?_
    refine lv_lmul C.1 C.2.1 dX7_cutParts_24 ?_
    replace h := ol h; obtain ⟨x5, ex5, h⟩ := h
    refine sx_nmL ex5 ?_
    refine lv_lstore (lv' := [(8, .long x5), (0, .ref a0), (1, .long v1), (3, .long v3), (5, .long v5), (7, .int v7)]) C.1 C.2.1 dX7_cutParts_25 hl (by decide) rfl (fun ls hl => ?_)
    refine lv_aload_n C.1 C.2.1 dX7_cutParts_27 rfl (lv_at hl 1 rfl) ?_
    replace h := ob h; obtain ⟨p6, ep6, h⟩ := h
    refine sx_getV C hs fo_X7_17 (gR_v ep6) dX7_cutParts_28 ?_
    refine lv_iload C.1 C.2.1 dX7_cutParts_31 (lv_at hl 5 rfl) ?_
    refine lv_lload C.1 C.2.1 dX7_cutParts_33 (lv_at hl 0 rfl) ?_
    refine lv_lload_n C.1 C.2.1 dX7_cutParts_35 rfl (lv_at hl 3 rfl) ?_
    replace h := on h; obtain ⟨n7, h⟩ := h
    refine lv_ldiv C.1 C.2.1 dX7_cutParts_36 n7 ?_
    replace h := ob h; obtain ⟨τ8, eτ8, h⟩ := h
    refine sx_last C hs eτ8 dX7_cutParts_37 (fun H locs hs => ?_)
    refine lv_aload_n C.1 C.2.1 dX7_cutParts_38 rfl (lv_at hl 1 rfl) ?_
    replace h := ob h; obtain ⟨p9, ep9, h⟩ := h
    refine sx_getV C hs fo_X7_24 (gR_v ep9) dX7_cutParts_39 ?_
    refine lv_iload C.1 C.2.1 dX7_cutParts_42 (lv_at hl 5 rfl) ?_
    refine lv_lload C.1 C.2.1 dX7_cutParts_44 (lv_at hl 0 rfl) ?_
    refine lv_lload_n C.1 C.2.1 dX7_cutParts_46 rfl (lv_at hl 3 rfl) ?_
    replace h := on h; obtain ⟨n10, h⟩ := h
    refine lv_lrem C.1 C.2.1 dX7_cutParts_47 n10 ?_
    replace h := ob h; obtain ⟨τ11, eτ11, h⟩ := h
    refine sx_last C hs eτ11 dX7_cutParts_48 (fun H locs hs => ?_)
    refine lv_lload C.1 C.2.1 dX7_cutParts_49 (lv_at hl 4 rfl) ?_
    refine lv_aload_n C.1 C.2.1 dX7_cutParts_51 rfl (lv_at hl 1 rfl) ?_
    replace h := ob h; obtain ⟨p12, ep12, h⟩ := h
    refine sx_getV C hs fo_X7_17 (gR_v ep12) dX7_cutParts_52 ?_
    refine lv_iload C.1 C.2.1 dX7_cutParts_55 (lv_at hl 5 rfl) ?_
    replace h := ob h; obtain ⟨x13, ex13, h⟩ := h
    refine sx_lald C hs ex13 dX7_cutParts_57 ?_
    refine lv_lsub C.1 C.2.1 dX7_cutParts_58 ?_
    replace h := ol h; obtain ⟨x14, ex14, h⟩ := h
    refine sx_nmL ex14 ?_
    refine lv_lstore (lv' := [(5, .long x14), (8, .long x5), (0, .ref a0), (1, .long v1), (3, .long v3), (7, .int v7)]) C.1 C.2.1 dX7_cutParts_59 hl (by decide) rfl (fun ls hl => ?_)
    replace h := ol h; obtain ⟨x15, ex15, h⟩ := h
    refine lv_iinc (v := x15) (lv' := [(7, .int x15), (5, .long x14), (8, .long x5), (0, .ref a0), (1, .long v1), (3, .long v3)]) C.1 C.2.1 dX7_cutParts_61 hl (k := 5) rfl (by rw [ex15]; rfl) (by decide) rfl (fun ls hl => ?_)
    refine lv_goto (tgt := 6) C.1 C.2.1 dX7_cutParts_64 (by decide) ?_
    exact hk6 τ11 a0 v1 v3 x14 x15 h _ _ _ hs (lv_sub hl [3, 4, 5, 1, 0] rfl)
set_option maxHeartbeats 4000000 in
set_option maxRecDepth 100000 in
theorem tl_X7_cutParts_6 {l : Launch} {g : PP} {p : Program} {e : Env} {s : State} {m : MethodId} {args : Array Value} {below : List Frame} {meth : Method} {c : Code} (C : Cx g p s m meth c cX7_cutParts 10 "Tillhouse$Sharing") (hr : meth.sig.returnType = some .long) {N : Nat}   {sz : Nat} {r9 : Int64} {σ9 : Sto}  : ∀ (n : Nat) (σ : Sto) (a0 : Nat) (v1 : Int64) (v3 : Int64) (v5 : Int64) (v7 : Int32), lp (fun k e => b_X7_cutParts_6_body N k e.1 e.2.1 e.2.2.1 e.2.2.2.1 e.2.2.2.2.1 e.2.2.2.2.2) n (σ, a0, v1, v3, v5, v7) = some (r9, σ9) → ∀ (H : Heap) (locs : List Loc) (ls : Array Slot), HS g s σ sz H locs → lv_has ls 10 [(0, .ref a0), (1, .long v1), (3, .long v3), (5, .long v5), (7, .int v7)] → W p l e (rmk 0 0 0 0) s m args below meth c H locs 0 0 (MQ below (Pst g (vL r9) σ9 sz) args s 0 0 (Aw g)) (F0 m 6 ls []) := by
  intro n
  induction n with
  | zero => intro σ a0 v1 v3 v5 v7 h; exact absurd h (fun q => nomatch q)
  | succ n ih =>
    intro σ a0 v1 v3 v5 v7 h H locs ls hs hl
    exact tb_X7_cutParts_6 (N := N) C hr h (fun σ a0 v1 v3 v5 v7 h H locs ls hs hl => ih σ a0 v1 v3 v5 v7 h H locs ls hs hl) hs hl
set_option maxHeartbeats 4000000 in
set_option maxRecDepth 100000 in
theorem t_X7_cutParts_6 {l : Launch} {g : PP} {p : Program} {e : Env} {s : State} {m : MethodId} {args : Array Value} {below : List Frame} {meth : Method} {c : Code} (C : Cx g p s m meth c cX7_cutParts 10 "Tillhouse$Sharing") (hr : meth.sig.returnType = some .long) {N : Nat}  {σ : Sto} {sz : Nat} {a0 : Nat} {v1 : Int64} {v3 : Int64} {v5 : Int64} {v7 : Int32} {r9 : Int64} {σ9 : Sto}
    (h : b_X7_cutParts_6 N σ a0 v1 v3 v5 v7 = some (r9, σ9)) 
    {H : Heap} {locs : List Loc} {ls : Array Slot} (hs : HS g s σ sz H locs) (hl : lv_has ls 10 [(0, .ref a0), (1, .long v1), (3, .long v3), (5, .long v5), (7, .int v7)]) : W p l e (rmk 0 0 0 0) s m args below meth c H locs 0 0 (MQ below (Pst g (vL r9) σ9 sz) args s 0 0 (Aw g)) (F0 m 6 ls []) := tl_X7_cutParts_6 C hr N σ a0 v1 v3 v5 v7 h H locs ls hs hl
set_option maxHeartbeats 4000000 in
set_option maxRecDepth 100000 in
theorem c_X7_cutParts {l : Launch} {g : PP} {N : Nat} {σ : Sto} {sz : Nat} {a0 : Nat} {v1 : Int64} {v3 : Int64} {r9 : Int64} {σ9 : Sto} (h : f_X7_cutParts N σ a0 v1 v3 = some (r9, σ9)) : Met l yX7_cutParts [Cond.code yX7_cutParts cX7_cutParts 10 (some .long)] (rmk 0 0 0 0) (Pre g σ sz [.ref a0, .long v1, .long v3]) (Pst g (vL r9) σ9 sz) 0 0 (Aw g) := by
  refine Met.ofW (cc := cX7_cutParts) (maxL := 10) (ret := (some .long)) (by decide) rfl ?_
  intro p e s m args below meth c s₁ B hml hv
  obtain ⟨rfl, C, hs⟩ := ctx_of B hml hv
  have C : Cx g p s m meth c cX7_cutParts 10 "Tillhouse$Sharing" := C
  have hr := B.returns
  have hl := lv_entry ([.ref a0, .long v1, .long v3]) (n := 10) (Nat.le_of_ble_eq_true rfl)
  rw [lg_entry_eq]
  generalize (lg_sl ([.ref a0, .long v1, .long v3]) ++ List.replicate (10 - (lg_sl ([.ref a0, .long v1, .long v3])).length) Slot.unset).toArray = ls at hl ⊢
  have hl : lv_has ls 10 [(0, .ref a0), (1, .long v1), (3, .long v3)] := hl
  unfold f_X7_cutParts at h
  refine lv_lload_n C.1 C.2.1 dX7_cutParts_0 rfl (lv_at hl 1 rfl) ?_
  refine lv_lstore (lv' := [(5, .long v1), (0, .ref a0), (1, .long v1), (3, .long v3)]) C.1 C.2.1 dX7_cutParts_1 hl (by decide) rfl (fun ls hl => ?_)
  refine lv_iconst (v := 0) C.1 C.2.1 dX7_cutParts_3 (by decide) ?_
  refine lv_istore (lv' := [(7, .int 0), (5, .long v1), (0, .ref a0), (1, .long v1), (3, .long v3)]) C.1 C.2.1 dX7_cutParts_4 hl (by decide) rfl (fun ls hl => ?_)
  exact t_X7_cutParts_6 C hr h hs (lv_sub hl [2, 3, 4, 1, 0] rfl)
def f_X7_isAhead (σ : Sto) (a0 : Nat) (v1 : Int32) (v2 : Int32) (v3 : Int32) : Option Int32 :=
 if v3 = 98 then
 some (1)
 else
 if v3 = 108 then
 (gR σ a0 6 4).bind fun p3 =>
 (aL σ p3 2 v1).bind fun x4 =>
 (gR σ a0 6 4).bind fun p5 =>
 (aL σ p5 2 v2).bind fun x6 =>
 if x4 ≤ x6 then
 some (0)
 else
 some (1)
 else
 some (0)
set_option maxHeartbeats 4000000 in
set_option maxRecDepth 100000 in
theorem c_X7_isAhead {l : Launch} {g : PP} {σ : Sto} {sz : Nat} {a0 : Nat} {v1 : Int32} {v2 : Int32} {v3 : Int32} {r9 : Int32} (h : f_X7_isAhead σ a0 v1 v2 v3 = some r9) : Met l yX7_isAhead [Cond.code yX7_isAhead cX7_isAhead 4 (some .boolean)] (rmk 0 0 0 0) (Pre g σ sz [.ref a0, .int v1, .int v2, .int v3]) (Pst g (vI r9) σ sz) 0 0 (Aw g) := by
  refine Met.ofW (cc := cX7_isAhead) (maxL := 4) (ret := (some .boolean)) (by decide) rfl ?_
  intro p e s m args below meth c s₁ B hml hv
  obtain ⟨rfl, C, hs⟩ := ctx_of B hml hv
  have C : Cx g p s m meth c cX7_isAhead 4 "Tillhouse$Sharing" := C
  have hr := B.returns
  have hl := lv_entry ([.ref a0, .int v1, .int v2, .int v3]) (n := 4) (Nat.le_of_ble_eq_true rfl)
  rw [lg_entry_eq]
  generalize (lg_sl ([.ref a0, .int v1, .int v2, .int v3]) ++ List.replicate (4 - (lg_sl ([.ref a0, .int v1, .int v2, .int v3])).length) Slot.unset).toArray = ls at hl ⊢
  have hl : lv_has ls 4 [(0, .ref a0), (1, .int v1), (2, .int v2), (3, .int v3)] := hl
  unfold f_X7_isAhead at h
  refine lv_iload_n C.1 C.2.1 dX7_isAhead_0 rfl (lv_at hl 3 rfl) ?_
  refine lv_bipush (v := 98) C.1 C.2.1 dX7_isAhead_1 (by decide) ?_
  refine lv_icmp_eq (tgt := 28) C.1 C.2.1 dX7_isAhead_3 (by decide) (fun c1 => ?_) (fun c1 => ?_)
  · replace h := ip c1 h
    refine lv_iconst (v := 1) C.1 C.2.1 dX7_isAhead_28 (by decide) ?_
    refine lv_goto (tgt := 33) C.1 C.2.1 dX7_isAhead_29 (by decide) ?_
    cases h
    exact sx_iret C hs hr (by decide) dX7_isAhead_33
  · replace h := iN c1 h
    refine lv_iload_n C.1 C.2.1 dX7_isAhead_6 rfl (lv_at hl 3 rfl) ?_
    refine lv_bipush (v := 108) C.1 C.2.1 dX7_isAhead_7 (by decide) ?_
    refine lv_icmp_ne (tgt := 32) C.1 C.2.1 dX7_isAhead_9 (by decide) (fun c2 => ?_) (fun c2 => ?_)
    · replace h := iN c2 h
      refine lv_iconst (v := 0) C.1 C.2.1 dX7_isAhead_32 (by decide) ?_
      cases h
      exact sx_iret C hs hr (by decide) dX7_isAhead_33
    · replace h := ip c2 h
      refine lv_aload_n C.1 C.2.1 dX7_isAhead_12 rfl (lv_at hl 0 rfl) ?_
      replace h := ob h; obtain ⟨p3, ep3, h⟩ := h
      refine sx_getV C hs fo_X7_24 (gR_v ep3) dX7_isAhead_13 ?_
      refine lv_iload_n C.1 C.2.1 dX7_isAhead_16 rfl (lv_at hl 1 rfl) ?_
      replace h := ob h; obtain ⟨x4, ex4, h⟩ := h
      refine sx_lald C hs ex4 dX7_isAhead_17 ?_
      refine lv_aload_n C.1 C.2.1 dX7_isAhead_18 rfl (lv_at hl 0 rfl) ?_
      replace h := ob h; obtain ⟨p5, ep5, h⟩ := h
      refine sx_getV C hs fo_X7_24 (gR_v ep5) dX7_isAhead_19 ?_
      refine lv_iload_n C.1 C.2.1 dX7_isAhead_22 rfl (lv_at hl 2 rfl) ?_
      replace h := ob h; obtain ⟨x6, ex6, h⟩ := h
      refine sx_lald C hs ex6 dX7_isAhead_23 ?_
      refine W.lcmp C.1 C.2.1 dX7_isAhead_24 ?_
      refine lv_if_le (tgt := 32) C.1 C.2.1 dX7_isAhead_25 (by decide) (fun c7 => ?_) (fun c7 => ?_)
      · replace h := ip ((lg_cmp_le _ _).mp c7) h
        refine lv_iconst (v := 0) C.1 C.2.1 dX7_isAhead_32 (by decide) ?_
        cases h
        exact sx_iret C hs hr (by decide) dX7_isAhead_33
      · replace h := iN (fun q => c7 ((lg_cmp_le _ _).mpr q)) h
        refine lv_iconst (v := 1) C.1 C.2.1 dX7_isAhead_28 (by decide) ?_
        refine lv_goto (tgt := 33) C.1 C.2.1 dX7_isAhead_29 (by decide) ?_
        cases h
        exact sx_iret C hs hr (by decide) dX7_isAhead_33
def b_X7_giveOne_39 (N : Nat) (k4 : Sto × Nat × Int32 × Int32 × Int32 → Option (Unit × Sto)) (σ : Sto) (a0 : Nat) (v1 : Int32) (v2 : Int32) (v3 : Int32) : Option (Unit × Sto) :=
 lt_ (v3 + 1) fun x1 =>
 k4 (σ, a0, v1, v2, x1)
def b_X7_giveOne_37 (N : Nat) (k4 : Sto × Nat × Int32 × Int32 × Int32 → Option (Unit × Sto)) (σ : Sto) (a0 : Nat) (v1 : Int32) (v3 : Int32) : Option (Unit × Sto) :=
 b_X7_giveOne_39 N k4 σ a0 v1 v3 v3
def b_X7_giveOne_4_body (N : Nat) (k4 : Sto × Nat × Int32 × Int32 × Int32 → Option (Unit × Sto)) (σ : Sto) (a0 : Nat) (v1 : Int32) (v2 : Int32) (v3 : Int32) : Option (Unit × Sto) :=
 (gI σ a0 6 3).bind fun x1 =>
 if x1 ≤ v3 then
 if v2 < 0 then
 some ((), σ)
 else
 (gR σ a0 6 2).bind fun p4 =>
 (aL σ p4 2 v2).bind fun x5 =>
 (sL σ p4 2 v2 (x5 + 1)).bind fun τ6 =>
 (gR τ6 a0 6 4).bind fun p7 =>
 (sL τ6 p7 2 v2 0).bind fun τ8 =>
 some ((), τ8)
 else
 (gR σ a0 6 4).bind fun p9 =>
 (aL σ p9 2 v3).bind fun x10 =>
 if x10 ≤ 0 then
 b_X7_giveOne_39 N k4 σ a0 v1 v2 v3
 else
 if v2 < 0 then
 b_X7_giveOne_37 N k4 σ a0 v1 v3
 else
 (isO σ a0 6).bind fun _ =>
 (f_X7_isAhead σ a0 v3 v2 v1).bind fun x14 =>
 if x14 = 0 then
 b_X7_giveOne_39 N k4 σ a0 v1 v2 v3
 else
 b_X7_giveOne_37 N k4 σ a0 v1 v3
def b_X7_giveOne_4 (N : Nat) (σ : Sto) (a0 : Nat) (v1 : Int32) (v2 : Int32) (v3 : Int32) : Option (Unit × Sto) :=
  lp (fun k e => b_X7_giveOne_4_body N k e.1 e.2.1 e.2.2.1 e.2.2.2.1 e.2.2.2.2) N (σ, a0, v1, v2, v3)
def f_X7_giveOne (N : Nat) (σ : Sto) (a0 : Nat) (v1 : Int32) : Option (Unit × Sto) :=
 b_X7_giveOne_4 N σ a0 v1 (-1) 0
set_option maxHeartbeats 4000000 in
set_option maxRecDepth 100000 in
theorem t_X7_giveOne_39 {l : Launch} {g : PP} {p : Program} {e : Env} {s : State} {m : MethodId} {args : Array Value} {below : List Frame} {meth : Method} {c : Code} (C : Cx g p s m meth c cX7_giveOne 4 "Tillhouse$Sharing") (hr : meth.sig.returnType = none) {N : Nat} {k4 : Sto × Nat × Int32 × Int32 × Int32 → Option (Unit × Sto)} {σ : Sto} {sz : Nat} {a0 : Nat} {v1 : Int32} {v2 : Int32} {v3 : Int32} {r9 : Unit} {σ9 : Sto}
    (h : b_X7_giveOne_39 N k4 σ a0 v1 v2 v3 = some (r9, σ9)) (hk4 : ∀ (σ : Sto) (a0 : Nat) (v1 : Int32) (v2 : Int32) (v3 : Int32), k4 (σ, a0, v1, v2, v3) = some (r9, σ9) → ∀ (H : Heap) (locs : List Loc) (ls : Array Slot), HS g s σ sz H locs → lv_has ls 4 [(0, .ref a0), (1, .int v1), (2, .int v2), (3, .int v3)] → W p l e (rmk 1 0 0 23) s m args below meth c H locs 0 0 (MQ below (Pst g (vV r9) σ9 sz) args s 0 0 (Aw g)) (F0 m 4 ls []))
    {H : Heap} {locs : List Loc} {ls : Array Slot} (hs : HS g s σ sz H locs) (hl : lv_has ls 4 [(0, .ref a0), (1, .int v1), (2, .int v2), (3, .int v3)]) : W p l e (rmk 1 0 0 23) s m args below meth c H locs 0 0 (MQ below (Pst g (vV r9) σ9 sz) args s 0 0 (Aw g)) (F0 m 39 ls []) := by
  unfold b_X7_giveOne_39 at h
  replace h := ol h; obtain ⟨x1, ex1, h⟩ := h
  refine lv_iinc (v := x1) (lv' := [(3, .int x1), (0, .ref a0), (1, .int v1), (2, .int v2)]) C.1 C.2.1 dX7_giveOne_39 hl (k := 3) rfl (by rw [ex1]; rfl) (by decide) rfl (fun ls hl => ?_)
  refine lv_goto (tgt := 4) C.1 C.2.1 dX7_giveOne_42 (by decide) ?_
  exact hk4 σ a0 v1 v2 x1 h _ _ _ hs (lv_sub hl [1, 2, 3, 0] rfl)
set_option maxHeartbeats 4000000 in
set_option maxRecDepth 100000 in
theorem t_X7_giveOne_37 {l : Launch} {g : PP} {p : Program} {e : Env} {s : State} {m : MethodId} {args : Array Value} {below : List Frame} {meth : Method} {c : Code} (C : Cx g p s m meth c cX7_giveOne 4 "Tillhouse$Sharing") (hr : meth.sig.returnType = none) {N : Nat} {k4 : Sto × Nat × Int32 × Int32 × Int32 → Option (Unit × Sto)} {σ : Sto} {sz : Nat} {a0 : Nat} {v1 : Int32} {v3 : Int32} {r9 : Unit} {σ9 : Sto}
    (h : b_X7_giveOne_37 N k4 σ a0 v1 v3 = some (r9, σ9)) (hk4 : ∀ (σ : Sto) (a0 : Nat) (v1 : Int32) (v2 : Int32) (v3 : Int32), k4 (σ, a0, v1, v2, v3) = some (r9, σ9) → ∀ (H : Heap) (locs : List Loc) (ls : Array Slot), HS g s σ sz H locs → lv_has ls 4 [(0, .ref a0), (1, .int v1), (2, .int v2), (3, .int v3)] → W p l e (rmk 1 0 0 23) s m args below meth c H locs 0 0 (MQ below (Pst g (vV r9) σ9 sz) args s 0 0 (Aw g)) (F0 m 4 ls []))
    {H : Heap} {locs : List Loc} {ls : Array Slot} (hs : HS g s σ sz H locs) (hl : lv_has ls 4 [(0, .ref a0), (1, .int v1), (3, .int v3)]) : W p l e (rmk 1 0 0 23) s m args below meth c H locs 0 0 (MQ below (Pst g (vV r9) σ9 sz) args s 0 0 (Aw g)) (F0 m 37 ls []) := by
  unfold b_X7_giveOne_37 at h
  refine lv_iload_n C.1 C.2.1 dX7_giveOne_37 rfl (lv_at hl 2 rfl) ?_
  refine lv_istore_n (lv' := [(2, .int v3), (0, .ref a0), (1, .int v1), (3, .int v3)]) C.1 C.2.1 dX7_giveOne_38 rfl hl (by decide) rfl (fun ls hl => ?_)
  exact t_X7_giveOne_39 C hr h hk4 hs (lv_sub hl [1, 2, 0, 3] rfl)
set_option maxHeartbeats 4000000 in
set_option maxRecDepth 100000 in
theorem tb_X7_giveOne_4 {l : Launch} {g : PP} {p : Program} {e : Env} {s : State} {m : MethodId} {args : Array Value} {below : List Frame} {meth : Method} {c : Code} (C : Cx g p s m meth c cX7_giveOne 4 "Tillhouse$Sharing") (hr : meth.sig.returnType = none) {N : Nat}  {k4 : Sto × Nat × Int32 × Int32 × Int32 → Option (Unit × Sto)} {σ : Sto} {sz : Nat} {a0 : Nat} {v1 : Int32} {v2 : Int32} {v3 : Int32} {r9 : Unit} {σ9 : Sto}
    (h : b_X7_giveOne_4_body N k4 σ a0 v1 v2 v3 = some (r9, σ9))  (hk4 : ∀ (σ : Sto) (a0 : Nat) (v1 : Int32) (v2 : Int32) (v3 : Int32), k4 (σ, a0, v1, v2, v3) = some (r9, σ9) → ∀ (H : Heap) (locs : List Loc) (ls : Array Slot), HS g s σ sz H locs → lv_has ls 4 [(0, .ref a0), (1, .int v1), (2, .int v2), (3, .int v3)] → W p l e (rmk 1 0 0 23) s m args below meth c H locs 0 0 (MQ below (Pst g (vV r9) σ9 sz) args s 0 0 (Aw g)) (F0 m 4 ls []))
    {H : Heap} {locs : List Loc} {ls : Array Slot} (hs : HS g s σ sz H locs) (hl : lv_has ls 4 [(0, .ref a0), (1, .int v1), (2, .int v2), (3, .int v3)]) : W p l e (rmk 1 0 0 23) s m args below meth c H locs 0 0 (MQ below (Pst g (vV r9) σ9 sz) args s 0 0 (Aw g)) (F0 m 4 ls []) := by
  unfold b_X7_giveOne_4_body at h
  refine lv_iload_n C.1 C.2.1 dX7_giveOne_4 rfl (lv_at hl 3 rfl) ?_
  refine lv_aload_n C.1 C.2.1 dX7_giveOne_5 rfl (lv_at hl 0 rfl) ?_
  replace h := ob h; obtain ⟨x1, ex1, h⟩ := h
  refine sx_getV C hs fo_X7_21 (gI_v ex1) dX7_giveOne_6 ?_
  refine lv_icmp_ge (tgt := 45) C.1 C.2.1 dX7_giveOne_9 (by decide) (fun c2 => ?_) (fun c2 => ?_)
  · replace h := ip c2 h
    refine lv_iload_n C.1 C.2.1 dX7_giveOne_45 rfl (lv_at hl 2 rfl) ?_
    refine lv_if_lt (tgt := 66) C.1 C.2.1 dX7_giveOne_46 (by decide) (fun c3 => ?_) (fun c3 => ?_)
    · replace h := ip c3 h
      cases h
      exact sx_vret C hs hr dX7_giveOne_66
    · replace h := iN c3 h
      refine lv_aload_n C.1 C.2.1 dX7_giveOne_49 rfl (lv_at hl 0 rfl) ?_
      replace h := ob h; obtain ⟨p4, ep4, h⟩ := h
      refine sx_getV C hs fo_X7_17 (gR_v ep4) dX7_giveOne_50 ?_
      refine lv_iload_n C.1 C.2.1 dX7_giveOne_53 rfl (lv_at hl 2 rfl) ?_
      refine lv_dup2_11 C.1 C.2.1 dX7_giveOne_54 rfl rfl ?_
      replace h := ob h; obtain ⟨x5, ex5, h⟩ := h
      refine sx_lald C hs ex5 dX7_giveOne_55 ?_
      refine lv_lconst (v := 1) C.1 C.2.1 dX7_giveOne_56 (by decide) ?_
      refine lv_ladd C.1 C.2.1 dX7_giveOne_57 ?_
      replace h := ob h; obtain ⟨τ6, eτ6, h⟩ := h
      refine sx_last C hs eτ6 dX7_giveOne_58 (fun H locs hs => ?_)
      refine lv_aload_n C.1 C.2.1 dX7_giveOne_59 rfl (lv_at hl 0 rfl) ?_
      replace h := ob h; obtain ⟨p7, ep7, h⟩ := h
      refine sx_getV C hs fo_X7_24 (gR_v ep7) dX7_giveOne_60 ?_
      refine lv_iload_n C.1 C.2.1 dX7_giveOne_63 rfl (lv_at hl 2 rfl) ?_
      refine lv_lconst (v := 0) C.1 C.2.1 dX7_giveOne_64 (by decide) ?_
      replace h := ob h; obtain ⟨τ8, eτ8, h⟩ := h
      refine sx_last C hs eτ8 dX7_giveOne_65 (fun H locs hs => ?_)
      cases h
      exact sx_vret C hs hr dX7_giveOne_66
  · replace h := iN c2 h
    refine lv_aload_n C.1 C.2.1 dX7_giveOne_12 rfl (lv_at hl 0 rfl) ?_
    replace h := ob h; obtain ⟨p9, ep9, h⟩ := h
    refine sx_getV C hs fo_X7_24 (gR_v ep9) dX7_giveOne_13 ?_
    refine lv_iload_n C.1 C.2.1 dX7_giveOne_16 rfl (lv_at hl 3 rfl) ?_
    replace h := ob h; obtain ⟨x10, ex10, h⟩ := h
    refine sx_lald C hs ex10 dX7_giveOne_17 ?_
    refine lv_lconst (v := 0) C.1 C.2.1 dX7_giveOne_18 (by decide) ?_
    refine W.lcmp C.1 C.2.1 dX7_giveOne_19 ?_
    refine lv_if_le (tgt := 39) C.1 C.2.1 dX7_giveOne_20 (by decide) (fun c11 => ?_) (fun c11 => ?_)
    · replace h := ip ((lg_cmp_le _ _).mp c11) h
      exact t_X7_giveOne_39 C hr h hk4 hs (lv_sub hl [0, 1, 2, 3] rfl)
    · replace h := iN (fun q => c11 ((lg_cmp_le _ _).mpr q)) h
      refine lv_iload_n C.1 C.2.1 dX7_giveOne_23 rfl (lv_at hl 2 rfl) ?_
      refine lv_if_lt (tgt := 37) C.1 C.2.1 dX7_giveOne_24 (by decide) (fun c12 => ?_) (fun c12 => ?_)
      · replace h := ip c12 h
        exact t_X7_giveOne_37 C hr h hk4 hs (lv_sub hl [0, 1, 3] rfl)
      · replace h := iN c12 h
        refine lv_aload_n C.1 C.2.1 dX7_giveOne_27 rfl (lv_at hl 0 rfl) ?_
        refine lv_iload_n C.1 C.2.1 dX7_giveOne_28 rfl (lv_at hl 3 rfl) ?_
        refine lv_iload_n C.1 C.2.1 dX7_giveOne_29 rfl (lv_at hl 2 rfl) ?_
        refine lv_iload_n C.1 C.2.1 dX7_giveOne_30 rfl (lv_at hl 1 rfl) ?_
        replace h := ob h; obtain ⟨⟨⟩, i13, h⟩ := h
        replace h := ob h; obtain ⟨x14, ex14, h⟩ := h
        refine sx_callV (As := [.int v3, .int v2, .int v1]) (rest := []) C hs (c_X7_isAhead ex14) mo_X7_isAhead q1182 i13 rfl rfl hl.1 ⟨⟨(Nat.le_of_ble_eq_true rfl), (Nat.le_of_ble_eq_true rfl)⟩, (Nat.le_of_ble_eq_true rfl), (Nat.le_of_ble_eq_true rfl)⟩ rfl (Nat.le_of_ble_eq_true rfl) dX7_giveOne_31 (fun H locs hs => ?_)
        refine W.eq (g2 := F0 m 34 ls [.int x14]) rfl ?_
        refine lv_if_eq (tgt := 39) C.1 C.2.1 dX7_giveOne_34 (by decide) (fun c15 => ?_) (fun c15 => ?_)
        · replace h := ip c15 h
          exact t_X7_giveOne_39 C hr h hk4 hs (lv_sub hl [0, 1, 2, 3] rfl)
        · replace h := iN c15 h
          exact t_X7_giveOne_37 C hr h hk4 hs (lv_sub hl [0, 1, 3] rfl)
set_option maxHeartbeats 4000000 in
set_option maxRecDepth 100000 in
theorem tl_X7_giveOne_4 {l : Launch} {g : PP} {p : Program} {e : Env} {s : State} {m : MethodId} {args : Array Value} {below : List Frame} {meth : Method} {c : Code} (C : Cx g p s m meth c cX7_giveOne 4 "Tillhouse$Sharing") (hr : meth.sig.returnType = none) {N : Nat}   {sz : Nat} {r9 : Unit} {σ9 : Sto}  : ∀ (n : Nat) (σ : Sto) (a0 : Nat) (v1 : Int32) (v2 : Int32) (v3 : Int32), lp (fun k e => b_X7_giveOne_4_body N k e.1 e.2.1 e.2.2.1 e.2.2.2.1 e.2.2.2.2) n (σ, a0, v1, v2, v3) = some (r9, σ9) → ∀ (H : Heap) (locs : List Loc) (ls : Array Slot), HS g s σ sz H locs → lv_has ls 4 [(0, .ref a0), (1, .int v1), (2, .int v2), (3, .int v3)] → W p l e (rmk 1 0 0 23) s m args below meth c H locs 0 0 (MQ below (Pst g (vV r9) σ9 sz) args s 0 0 (Aw g)) (F0 m 4 ls []) := by
  intro n
  induction n with
  | zero => intro σ a0 v1 v2 v3 h; exact absurd h (fun q => nomatch q)
  | succ n ih =>
    intro σ a0 v1 v2 v3 h H locs ls hs hl
    exact tb_X7_giveOne_4 (N := N) C hr h (fun σ a0 v1 v2 v3 h H locs ls hs hl => ih σ a0 v1 v2 v3 h H locs ls hs hl) hs hl
set_option maxHeartbeats 4000000 in
set_option maxRecDepth 100000 in
theorem t_X7_giveOne_4 {l : Launch} {g : PP} {p : Program} {e : Env} {s : State} {m : MethodId} {args : Array Value} {below : List Frame} {meth : Method} {c : Code} (C : Cx g p s m meth c cX7_giveOne 4 "Tillhouse$Sharing") (hr : meth.sig.returnType = none) {N : Nat}  {σ : Sto} {sz : Nat} {a0 : Nat} {v1 : Int32} {v2 : Int32} {v3 : Int32} {r9 : Unit} {σ9 : Sto}
    (h : b_X7_giveOne_4 N σ a0 v1 v2 v3 = some (r9, σ9)) 
    {H : Heap} {locs : List Loc} {ls : Array Slot} (hs : HS g s σ sz H locs) (hl : lv_has ls 4 [(0, .ref a0), (1, .int v1), (2, .int v2), (3, .int v3)]) : W p l e (rmk 1 0 0 23) s m args below meth c H locs 0 0 (MQ below (Pst g (vV r9) σ9 sz) args s 0 0 (Aw g)) (F0 m 4 ls []) := tl_X7_giveOne_4 C hr N σ a0 v1 v2 v3 h H locs ls hs hl
set_option maxHeartbeats 4000000 in
set_option maxRecDepth 100000 in
theorem c_X7_giveOne {l : Launch} {g : PP} {N : Nat} {σ : Sto} {sz : Nat} {a0 : Nat} {v1 : Int32} {r9 : Unit} {σ9 : Sto} (h : f_X7_giveOne N σ a0 v1 = some (r9, σ9)) : Met l yX7_giveOne [Cond.code yX7_giveOne cX7_giveOne 4 none] (rmk 1 0 0 23) (Pre g σ sz [.ref a0, .int v1]) (Pst g (vV r9) σ9 sz) 0 0 (Aw g) := by
  refine Met.ofW (cc := cX7_giveOne) (maxL := 4) (ret := none) (by decide) rfl ?_
  intro p e s m args below meth c s₁ B hml hv
  obtain ⟨rfl, C, hs⟩ := ctx_of B hml hv
  have C : Cx g p s m meth c cX7_giveOne 4 "Tillhouse$Sharing" := C
  have hr := B.returns
  have hl := lv_entry ([.ref a0, .int v1]) (n := 4) (Nat.le_of_ble_eq_true rfl)
  rw [lg_entry_eq]
  generalize (lg_sl ([.ref a0, .int v1]) ++ List.replicate (4 - (lg_sl ([.ref a0, .int v1])).length) Slot.unset).toArray = ls at hl ⊢
  have hl : lv_has ls 4 [(0, .ref a0), (1, .int v1)] := hl
  unfold f_X7_giveOne at h
  refine lv_iconst (v := (-1)) C.1 C.2.1 dX7_giveOne_0 (by decide) ?_
  refine lv_istore_n (lv' := [(2, .int (-1)), (0, .ref a0), (1, .int v1)]) C.1 C.2.1 dX7_giveOne_1 rfl hl (by decide) rfl (fun ls hl => ?_)
  refine lv_iconst (v := 0) C.1 C.2.1 dX7_giveOne_2 (by decide) ?_
  refine lv_istore_n (lv' := [(3, .int 0), (2, .int (-1)), (0, .ref a0), (1, .int v1)]) C.1 C.2.1 dX7_giveOne_3 rfl hl (by decide) rfl (fun ls hl => ?_)
  exact t_X7_giveOne_4 C hr h hs (lv_sub hl [2, 3, 1, 0] rfl)
def b_X7_split_37_body (N : Nat) (k37 : Sto × Nat × Int32 × Int32 × Int32 → Option (Int32 × Sto)) (σ : Sto) (a0 : Nat) (v3 : Int32) (v4 : Int32) (v5 : Int32) : Option (Int32 × Sto) :=
 if v4 ≤ v5 then
 some (v4, σ)
 else
 (isO σ a0 6).bind fun _ =>
 b2 (f_X7_giveOne N σ a0 v3) fun x3 τ4 =>
 lt_ (v5 + 1) fun x5 =>
 k37 (τ4, a0, v3, v4, x5)
def b_X7_split_37 (N : Nat) (σ : Sto) (a0 : Nat) (v3 : Int32) (v4 : Int32) (v5 : Int32) : Option (Int32 × Sto) :=
  lp (fun k e => b_X7_split_37_body N k e.1 e.2.1 e.2.2.1 e.2.2.2.1 e.2.2.2.2) N (σ, a0, v3, v4, v5)
def f_X7_split (N : Nat) (σ : Sto) (a0 : Nat) (v1 : Int64) (v3 : Int32) : Option (Int32 × Sto) :=
 (isO σ a0 6).bind fun _ =>
 (f_X7_allWeights N σ a0).bind fun x2 =>
 b2 (f_X7_cutParts N σ a0 v1 (if 1 < x2 then x2 else 1)) fun x3 τ4 =>
 lt_ (Int64.toInt32 x3) fun x5 =>
 (gI τ4 a0 6 1).bind fun x6 =>
 (pF τ4 a0 6 3 (.int x6)).bind fun τ7 =>
 (pF τ7 a0 6 1 (.int 0)).bind fun τ8 =>
 (pF τ8 a0 6 5 (.long v1)).bind fun τ9 =>
 b_X7_split_37 N τ9 a0 v3 x5 0
set_option maxHeartbeats 4000000 in
set_option maxRecDepth 100000 in
theorem tb_X7_split_37 {l : Launch} {g : PP} {p : Program} {e : Env} {s : State} {m : MethodId} {args : Array Value} {below : List Frame} {meth : Method} {c : Code} (C : Cx g p s m meth c cX7_split 6 "Tillhouse$Sharing") (hr : meth.sig.returnType = some .int) {N : Nat}  {k37 : Sto × Nat × Int32 × Int32 × Int32 → Option (Int32 × Sto)} {σ : Sto} {sz : Nat} {a0 : Nat} {v3 : Int32} {v4 : Int32} {v5 : Int32} {r9 : Int32} {σ9 : Sto}
    (h : b_X7_split_37_body N k37 σ a0 v3 v4 v5 = some (r9, σ9))  (hk37 : ∀ (σ : Sto) (a0 : Nat) (v3 : Int32) (v4 : Int32) (v5 : Int32), k37 (σ, a0, v3, v4, v5) = some (r9, σ9) → ∀ (H : Heap) (locs : List Loc) (ls : Array Slot), HS g s σ sz H locs → lv_has ls 6 [(0, .ref a0), (3, .int v3), (4, .int v4), (5, .int v5)] → W p l e (rmk 2 0 0 46) s m args below meth c H locs 0 0 (MQ below (Pst g (vI r9) σ9 sz) args s 0 0 (Aw g)) (F0 m 37 ls []))
    {H : Heap} {locs : List Loc} {ls : Array Slot} (hs : HS g s σ sz H locs) (hl : lv_has ls 6 [(0, .ref a0), (3, .int v3), (4, .int v4), (5, .int v5)]) : W p l e (rmk 2 0 0 46) s m args below meth c H locs 0 0 (MQ below (Pst g (vI r9) σ9 sz) args s 0 0 (Aw g)) (F0 m 37 ls []) := by
  unfold b_X7_split_37_body at h
  refine lv_iload C.1 C.2.1 dX7_split_37 (lv_at hl 3 rfl) ?_
  refine lv_iload C.1 C.2.1 dX7_split_39 (lv_at hl 2 rfl) ?_
  refine lv_icmp_ge (tgt := 55) C.1 C.2.1 dX7_split_41 (by decide) (fun c1 => ?_) (fun c1 => ?_)
  · replace h := ip c1 h
    refine lv_iload C.1 C.2.1 dX7_split_55 (lv_at hl 2 rfl) ?_
    cases h
    exact sx_iret C hs hr rfl dX7_split_57
  · replace h := iN c1 h
    refine lv_aload_n C.1 C.2.1 dX7_split_44 rfl (lv_at hl 0 rfl) ?_
    refine lv_iload_n C.1 C.2.1 dX7_split_45 rfl (lv_at hl 1 rfl) ?_
    replace h := ob h; obtain ⟨⟨⟩, i2, h⟩ := h
    replace h := ob2 h; obtain ⟨x3, τ4, ex3, h⟩ := h
    refine sx_callV (As := [.int v3]) (rest := []) C hs (c_X7_giveOne ex3) mo_X7_giveOne q1178 i2 rfl rfl hl.1 ⟨⟨(Nat.le_of_ble_eq_true rfl), (Nat.le_of_ble_eq_true rfl)⟩, (Nat.le_of_ble_eq_true rfl), (Nat.le_of_ble_eq_true rfl)⟩ rfl (Nat.le_of_ble_eq_true rfl) dX7_split_46 (fun H locs hs => ?_)
    refine W.eq (g2 := F0 m 49 ls []) rfl ?_
    replace h := ol h; obtain ⟨x5, ex5, h⟩ := h
    refine lv_iinc (v := x5) (lv' := [(5, .int x5), (0, .ref a0), (3, .int v3), (4, .int v4)]) C.1 C.2.1 dX7_split_49 hl (k := 3) rfl (by rw [ex5]; rfl) (by decide) rfl (fun ls hl => ?_)
    refine lv_goto (tgt := 37) C.1 C.2.1 dX7_split_52 (by decide) ?_
    exact hk37 τ4 a0 v3 v4 x5 h _ _ _ hs (lv_sub hl [1, 2, 3, 0] rfl)
set_option maxHeartbeats 4000000 in
set_option maxRecDepth 100000 in
theorem tl_X7_split_37 {l : Launch} {g : PP} {p : Program} {e : Env} {s : State} {m : MethodId} {args : Array Value} {below : List Frame} {meth : Method} {c : Code} (C : Cx g p s m meth c cX7_split 6 "Tillhouse$Sharing") (hr : meth.sig.returnType = some .int) {N : Nat}   {sz : Nat} {r9 : Int32} {σ9 : Sto}  : ∀ (n : Nat) (σ : Sto) (a0 : Nat) (v3 : Int32) (v4 : Int32) (v5 : Int32), lp (fun k e => b_X7_split_37_body N k e.1 e.2.1 e.2.2.1 e.2.2.2.1 e.2.2.2.2) n (σ, a0, v3, v4, v5) = some (r9, σ9) → ∀ (H : Heap) (locs : List Loc) (ls : Array Slot), HS g s σ sz H locs → lv_has ls 6 [(0, .ref a0), (3, .int v3), (4, .int v4), (5, .int v5)] → W p l e (rmk 2 0 0 46) s m args below meth c H locs 0 0 (MQ below (Pst g (vI r9) σ9 sz) args s 0 0 (Aw g)) (F0 m 37 ls []) := by
  intro n
  induction n with
  | zero => intro σ a0 v3 v4 v5 h; exact absurd h (fun q => nomatch q)
  | succ n ih =>
    intro σ a0 v3 v4 v5 h H locs ls hs hl
    exact tb_X7_split_37 (N := N) C hr h (fun σ a0 v3 v4 v5 h H locs ls hs hl => ih σ a0 v3 v4 v5 h H locs ls hs hl) hs hl
set_option maxHeartbeats 4000000 in
set_option maxRecDepth 100000 in
theorem t_X7_split_37 {l : Launch} {g : PP} {p : Program} {e : Env} {s : State} {m : MethodId} {args : Array Value} {below : List Frame} {meth : Method} {c : Code} (C : Cx g p s m meth c cX7_split 6 "Tillhouse$Sharing") (hr : meth.sig.returnType = some .int) {N : Nat}  {σ : Sto} {sz : Nat} {a0 : Nat} {v3 : Int32} {v4 : Int32} {v5 : Int32} {r9 : Int32} {σ9 : Sto}
    (h : b_X7_split_37 N σ a0 v3 v4 v5 = some (r9, σ9)) 
    {H : Heap} {locs : List Loc} {ls : Array Slot} (hs : HS g s σ sz H locs) (hl : lv_has ls 6 [(0, .ref a0), (3, .int v3), (4, .int v4), (5, .int v5)]) : W p l e (rmk 2 0 0 46) s m args below meth c H locs 0 0 (MQ below (Pst g (vI r9) σ9 sz) args s 0 0 (Aw g)) (F0 m 37 ls []) := tl_X7_split_37 C hr N σ a0 v3 v4 v5 h H locs ls hs hl
set_option maxHeartbeats 4000000 in
set_option maxRecDepth 100000 in
theorem c_X7_split {l : Launch} {g : PP} {N : Nat} {σ : Sto} {sz : Nat} {a0 : Nat} {v1 : Int64} {v3 : Int32} {r9 : Int32} {σ9 : Sto} (h : f_X7_split N σ a0 v1 v3 = some (r9, σ9)) : Met l yX7_split [Cond.code yX7_split cX7_split 6 (some .int)] (rmk 2 0 0 46) (Pre g σ sz [.ref a0, .long v1, .int v3]) (Pst g (vI r9) σ9 sz) 0 0 (Aw g) := by
  refine Met.ofW (cc := cX7_split) (maxL := 6) (ret := (some .int)) (by decide) rfl ?_
  intro p e s m args below meth c s₁ B hml hv
  obtain ⟨rfl, C, hs⟩ := ctx_of B hml hv
  have C : Cx g p s m meth c cX7_split 6 "Tillhouse$Sharing" := C
  have hr := B.returns
  have hl := lv_entry ([.ref a0, .long v1, .int v3]) (n := 6) (Nat.le_of_ble_eq_true rfl)
  rw [lg_entry_eq]
  generalize (lg_sl ([.ref a0, .long v1, .int v3]) ++ List.replicate (6 - (lg_sl ([.ref a0, .long v1, .int v3])).length) Slot.unset).toArray = ls at hl ⊢
  have hl : lv_has ls 6 [(0, .ref a0), (1, .long v1), (3, .int v3)] := hl
  unfold f_X7_split at h
  refine lv_aload_n C.1 C.2.1 dX7_split_0 rfl (lv_at hl 0 rfl) ?_
  refine lv_lload_n C.1 C.2.1 dX7_split_1 rfl (lv_at hl 1 rfl) ?_
  refine lv_aload_n C.1 C.2.1 dX7_split_2 rfl (lv_at hl 0 rfl) ?_
  replace h := ob h; obtain ⟨⟨⟩, i1, h⟩ := h
  replace h := ob h; obtain ⟨x2, ex2, h⟩ := h
  refine sx_callV (As := []) (rest := [.long v1, .ref a0]) C hs (c_X7_allWeights ex2) mo_X7_allWeights q1172 i1 rfl rfl hl.1 ⟨⟨(Nat.le_of_ble_eq_true rfl), (Nat.le_of_ble_eq_true rfl)⟩, (Nat.le_of_ble_eq_true rfl), (Nat.le_of_ble_eq_true rfl)⟩ rfl (Nat.le_of_ble_eq_true rfl) dX7_split_3 (fun H locs hs => ?_)
  refine W.eq (g2 := F0 m 6 ls [.long x2, .long v1, .ref a0]) rfl ?_
  refine lv_lconst (v := 1) C.1 C.2.1 dX7_split_6 (by decide) ?_
  refine va_mmax_long C.1 C.2.1 (C.2.2.1.trans hl.1.symm) C.2.2.2.1 (C.2.2.2.2.1.1 _ q1173 _) (C.2.2.2.2.1.1 _ mth_va_mmax_long_s _) (C.2.2.2.2.1.1 _ qmath _) (C.2.2.2.2.1.1 _ mth_va_mmax_long_c _) (by exact Nat.le_of_ble_eq_true rfl) (by exact Nat.le_of_ble_eq_true rfl) (by exact Nat.le_of_ble_eq_true rfl) (by exact Nat.le_of_ble_eq_true rfl) dX7_split_7 ?_
  replace h := ob2 h; obtain ⟨x3, τ4, ex3, h⟩ := h
  refine sx_callV (As := [.long v1, .long (if 1 < x2 then x2 else 1)]) (rest := []) C hs (c_X7_cutParts ex3) mo_X7_cutParts q1174 i1 rfl rfl hl.1 ⟨⟨(Nat.le_of_ble_eq_true rfl), (Nat.le_of_ble_eq_true rfl)⟩, (Nat.le_of_ble_eq_true rfl), (Nat.le_of_ble_eq_true rfl)⟩ rfl (Nat.le_of_ble_eq_true rfl) dX7_split_10 (fun H locs hs => ?_)
  refine W.eq (g2 := F0 m 13 ls [.long x3]) rfl ?_
  refine lv_l2i (v := Int64.toInt32 x3) C.1 C.2.1 dX7_split_13 rfl ?_
  replace h := ol h; obtain ⟨x5, ex5, h⟩ := h
  refine sx_nmI ex5 ?_
  refine lv_istore (lv' := [(4, .int x5), (0, .ref a0), (1, .long v1), (3, .int v3)]) C.1 C.2.1 dX7_split_14 hl (by decide) rfl (fun ls hl => ?_)
  refine lv_aload_n C.1 C.2.1 dX7_split_16 rfl (lv_at hl 1 rfl) ?_
  refine lv_aload_n C.1 C.2.1 dX7_split_17 rfl (lv_at hl 1 rfl) ?_
  replace h := ob h; obtain ⟨x6, ex6, h⟩ := h
  refine sx_getV C hs fo_X7_13 (gI_v ex6) dX7_split_18 ?_
  replace h := ob h; obtain ⟨τ7, eτ7, h⟩ := h
  refine sx_put C hs fp_X7_21 rfl rfl eτ7 dX7_split_21 (fun H locs hs => ?_)
  refine lv_aload_n C.1 C.2.1 dX7_split_24 rfl (lv_at hl 1 rfl) ?_
  refine lv_iconst (v := 0) C.1 C.2.1 dX7_split_25 (by decide) ?_
  replace h := ob h; obtain ⟨τ8, eτ8, h⟩ := h
  refine sx_put C hs fp_X7_13 rfl rfl eτ8 dX7_split_26 (fun H locs hs => ?_)
  refine lv_aload_n C.1 C.2.1 dX7_split_29 rfl (lv_at hl 1 rfl) ?_
  refine lv_lload_n C.1 C.2.1 dX7_split_30 rfl (lv_at hl 2 rfl) ?_
  replace h := ob h; obtain ⟨τ9, eτ9, h⟩ := h
  refine sx_put C hs fp_X7_27 rfl rfl eτ9 dX7_split_31 (fun H locs hs => ?_)
  refine lv_iconst (v := 0) C.1 C.2.1 dX7_split_34 (by decide) ?_
  refine lv_istore (lv' := [(5, .int 0), (4, .int x5), (0, .ref a0), (1, .long v1), (3, .int v3)]) C.1 C.2.1 dX7_split_35 hl (by decide) rfl (fun ls hl => ?_)
  exact t_X7_split_37 C hr h hs (lv_sub hl [2, 4, 1, 0] rfl)
def b_X7_addsUp_4_body (N : Nat) (k4 : Sto × Nat × Int64 × Int32 → Option Int32) (σ : Sto) (a0 : Nat) (v1 : Int64) (v3 : Int32) : Option Int32 :=
 (gI σ a0 6 3).bind fun x1 =>
 if x1 ≤ v3 then
 (gL σ a0 6 5).bind fun x3 =>
 if v1 = x3 then
 some (1)
 else
 some (0)
 else
 (gR σ a0 6 2).bind fun p5 =>
 (aL σ p5 2 v3).bind fun x6 =>
 lt_ (v1 + x6) fun x7 =>
 lt_ (v3 + 1) fun x8 =>
 k4 (σ, a0, x7, x8)
def b_X7_addsUp_4 (N : Nat) (σ : Sto) (a0 : Nat) (v1 : Int64) (v3 : Int32) : Option Int32 :=
  lp (fun k e => b_X7_addsUp_4_body N k e.1 e.2.1 e.2.2.1 e.2.2.2) N (σ, a0, v1, v3)
def f_X7_addsUp (N : Nat) (σ : Sto) (a0 : Nat) : Option Int32 :=
 b_X7_addsUp_4 N σ a0 0 0
set_option maxHeartbeats 4000000 in
set_option maxRecDepth 100000 in
theorem tb_X7_addsUp_4 {l : Launch} {g : PP} {p : Program} {e : Env} {s : State} {m : MethodId} {args : Array Value} {below : List Frame} {meth : Method} {c : Code} (C : Cx g p s m meth c cX7_addsUp 4 "Tillhouse$Sharing") (hr : meth.sig.returnType = some .boolean) {N : Nat}  {k4 : Sto × Nat × Int64 × Int32 → Option Int32} {σ : Sto} {sz : Nat} {a0 : Nat} {v1 : Int64} {v3 : Int32} {r9 : Int32}
    (h : b_X7_addsUp_4_body N k4 σ a0 v1 v3 = some r9)  (hk4 : ∀ (σ : Sto) (a0 : Nat) (v1 : Int64) (v3 : Int32), k4 (σ, a0, v1, v3) = some r9 → ∀ (H : Heap) (locs : List Loc) (ls : Array Slot), HS g s σ sz H locs → lv_has ls 4 [(0, .ref a0), (1, .long v1), (3, .int v3)] → W p l e (rmk 0 0 0 0) s m args below meth c H locs 0 0 (MQ below (Pst g (vI r9) σ sz) args s 0 0 (Aw g)) (F0 m 4 ls []))
    {H : Heap} {locs : List Loc} {ls : Array Slot} (hs : HS g s σ sz H locs) (hl : lv_has ls 4 [(0, .ref a0), (1, .long v1), (3, .int v3)]) : W p l e (rmk 0 0 0 0) s m args below meth c H locs 0 0 (MQ below (Pst g (vI r9) σ sz) args s 0 0 (Aw g)) (F0 m 4 ls []) := by
  unfold b_X7_addsUp_4_body at h
  refine lv_iload_n C.1 C.2.1 dX7_addsUp_4 rfl (lv_at hl 2 rfl) ?_
  refine lv_aload_n C.1 C.2.1 dX7_addsUp_5 rfl (lv_at hl 0 rfl) ?_
  replace h := ob h; obtain ⟨x1, ex1, h⟩ := h
  refine sx_getV C hs fo_X7_21 (gI_v ex1) dX7_addsUp_6 ?_
  refine lv_icmp_ge (tgt := 27) C.1 C.2.1 dX7_addsUp_9 (by decide) (fun c2 => ?_) (fun c2 => ?_)
  · replace h := ip c2 h
    refine lv_lload_n C.1 C.2.1 dX7_addsUp_27 rfl (lv_at hl 1 rfl) ?_
    refine lv_aload_n C.1 C.2.1 dX7_addsUp_28 rfl (lv_at hl 0 rfl) ?_
    replace h := ob h; obtain ⟨x3, ex3, h⟩ := h
    refine sx_getV C hs fo_X7_27 (gL_v ex3) dX7_addsUp_29 ?_
    refine W.lcmp C.1 C.2.1 dX7_addsUp_32 ?_
    refine lv_if_ne (tgt := 40) C.1 C.2.1 dX7_addsUp_33 (by decide) (fun c4 => ?_) (fun c4 => ?_)
    · replace h := iN (fun q => c4 ((lg_cmp_eq _ _).mpr q)) h
      refine lv_iconst (v := 0) C.1 C.2.1 dX7_addsUp_40 (by decide) ?_
      cases h
      exact sx_iret C hs hr (by decide) dX7_addsUp_41
    · replace h := ip ((lg_cmp_eq _ _).mp c4) h
      refine lv_iconst (v := 1) C.1 C.2.1 dX7_addsUp_36 (by decide) ?_
      refine lv_goto (tgt := 41) C.1 C.2.1 dX7_addsUp_37 (by decide) ?_
      cases h
      exact sx_iret C hs hr (by decide) dX7_addsUp_41
  · replace h := iN c2 h
    refine lv_lload_n C.1 C.2.1 dX7_addsUp_12 rfl (lv_at hl 1 rfl) ?_
    refine lv_aload_n C.1 C.2.1 dX7_addsUp_13 rfl (lv_at hl 0 rfl) ?_
    replace h := ob h; obtain ⟨p5, ep5, h⟩ := h
    refine sx_getV C hs fo_X7_17 (gR_v ep5) dX7_addsUp_14 ?_
    refine lv_iload_n C.1 C.2.1 dX7_addsUp_17 rfl (lv_at hl 2 rfl) ?_
    replace h := ob h; obtain ⟨x6, ex6, h⟩ := h
    refine sx_lald C hs ex6 dX7_addsUp_18 ?_
    refine lv_ladd C.1 C.2.1 dX7_addsUp_19 ?_
    replace h := ol h; obtain ⟨x7, ex7, h⟩ := h
    refine sx_nmL ex7 ?_
    refine lv_lstore_n (lv' := [(1, .long x7), (0, .ref a0), (3, .int v3)]) C.1 C.2.1 dX7_addsUp_20 rfl hl (by decide) rfl (fun ls hl => ?_)
    replace h := ol h; obtain ⟨x8, ex8, h⟩ := h
    refine lv_iinc (v := x8) (lv' := [(3, .int x8), (1, .long x7), (0, .ref a0)]) C.1 C.2.1 dX7_addsUp_21 hl (k := 2) rfl (by rw [ex8]; rfl) (by decide) rfl (fun ls hl => ?_)
    refine lv_goto (tgt := 4) C.1 C.2.1 dX7_addsUp_24 (by decide) ?_
    exact hk4 σ a0 x7 x8 h _ _ _ hs (lv_sub hl [2, 1, 0] rfl)
set_option maxHeartbeats 4000000 in
set_option maxRecDepth 100000 in
theorem tl_X7_addsUp_4 {l : Launch} {g : PP} {p : Program} {e : Env} {s : State} {m : MethodId} {args : Array Value} {below : List Frame} {meth : Method} {c : Code} (C : Cx g p s m meth c cX7_addsUp 4 "Tillhouse$Sharing") (hr : meth.sig.returnType = some .boolean) {N : Nat}   {sz : Nat} {r9 : Int32}  : ∀ (n : Nat) (σ : Sto) (a0 : Nat) (v1 : Int64) (v3 : Int32), lp (fun k e => b_X7_addsUp_4_body N k e.1 e.2.1 e.2.2.1 e.2.2.2) n (σ, a0, v1, v3) = some r9 → ∀ (H : Heap) (locs : List Loc) (ls : Array Slot), HS g s σ sz H locs → lv_has ls 4 [(0, .ref a0), (1, .long v1), (3, .int v3)] → W p l e (rmk 0 0 0 0) s m args below meth c H locs 0 0 (MQ below (Pst g (vI r9) σ sz) args s 0 0 (Aw g)) (F0 m 4 ls []) := by
  intro n
  induction n with
  | zero => intro σ a0 v1 v3 h; exact absurd h (fun q => nomatch q)
  | succ n ih =>
    intro σ a0 v1 v3 h H locs ls hs hl
    exact tb_X7_addsUp_4 (N := N) C hr h (fun σ a0 v1 v3 h H locs ls hs hl => ih σ a0 v1 v3 h H locs ls hs hl) hs hl
set_option maxHeartbeats 4000000 in
set_option maxRecDepth 100000 in
theorem t_X7_addsUp_4 {l : Launch} {g : PP} {p : Program} {e : Env} {s : State} {m : MethodId} {args : Array Value} {below : List Frame} {meth : Method} {c : Code} (C : Cx g p s m meth c cX7_addsUp 4 "Tillhouse$Sharing") (hr : meth.sig.returnType = some .boolean) {N : Nat}  {σ : Sto} {sz : Nat} {a0 : Nat} {v1 : Int64} {v3 : Int32} {r9 : Int32}
    (h : b_X7_addsUp_4 N σ a0 v1 v3 = some r9) 
    {H : Heap} {locs : List Loc} {ls : Array Slot} (hs : HS g s σ sz H locs) (hl : lv_has ls 4 [(0, .ref a0), (1, .long v1), (3, .int v3)]) : W p l e (rmk 0 0 0 0) s m args below meth c H locs 0 0 (MQ below (Pst g (vI r9) σ sz) args s 0 0 (Aw g)) (F0 m 4 ls []) := tl_X7_addsUp_4 C hr N σ a0 v1 v3 h H locs ls hs hl
set_option maxHeartbeats 4000000 in
set_option maxRecDepth 100000 in
theorem c_X7_addsUp {l : Launch} {g : PP} {N : Nat} {σ : Sto} {sz : Nat} {a0 : Nat} {r9 : Int32} (h : f_X7_addsUp N σ a0 = some r9) : Met l yX7_addsUp [Cond.code yX7_addsUp cX7_addsUp 4 (some .boolean)] (rmk 0 0 0 0) (Pre g σ sz [.ref a0]) (Pst g (vI r9) σ sz) 0 0 (Aw g) := by
  refine Met.ofW (cc := cX7_addsUp) (maxL := 4) (ret := (some .boolean)) (by decide) rfl ?_
  intro p e s m args below meth c s₁ B hml hv
  obtain ⟨rfl, C, hs⟩ := ctx_of B hml hv
  have C : Cx g p s m meth c cX7_addsUp 4 "Tillhouse$Sharing" := C
  have hr := B.returns
  have hl := lv_entry ([.ref a0]) (n := 4) (Nat.le_of_ble_eq_true rfl)
  rw [lg_entry_eq]
  generalize (lg_sl ([.ref a0]) ++ List.replicate (4 - (lg_sl ([.ref a0])).length) Slot.unset).toArray = ls at hl ⊢
  have hl : lv_has ls 4 [(0, .ref a0)] := hl
  unfold f_X7_addsUp at h
  refine lv_lconst (v := 0) C.1 C.2.1 dX7_addsUp_0 (by decide) ?_
  refine lv_lstore_n (lv' := [(1, .long 0), (0, .ref a0)]) C.1 C.2.1 dX7_addsUp_1 rfl hl (by decide) rfl (fun ls hl => ?_)
  refine lv_iconst (v := 0) C.1 C.2.1 dX7_addsUp_2 (by decide) ?_
  refine lv_istore_n (lv' := [(3, .int 0), (1, .long 0), (0, .ref a0)]) C.1 C.2.1 dX7_addsUp_3 rfl hl (by decide) rfl (fun ls hl => ?_)
  exact t_X7_addsUp_4 C hr h hs (lv_sub hl [2, 1, 0] rfl)
def f_X8_init (σ : Sto) (sz : Nat) (a0 : Nat) : Option (Unit × Sto × Nat) :=
 lt_ (nA σ sz 1 4 z1) fun τ1 =>
 (pF τ1 a0 7 0 (.ref sz)).bind fun τ2 =>
 lt_ (nA τ2 (sz + 1) 1 4 z1) fun τ3 =>
 (pF τ3 a0 7 1 (.ref (sz + 1))).bind fun τ4 =>
 (pF τ4 a0 7 2 (.int 0)).bind fun τ5 =>
 some ((), τ5, sz + 2)
set_option maxHeartbeats 4000000 in
set_option maxRecDepth 100000 in
theorem c_X8_init {l : Launch} {g : PP} {σ : Sto} {sz : Nat} {a0 : Nat} {r9 : Unit} {σ9 : Sto} {sz9 : Nat} (h : f_X8_init σ sz a0 = some (r9, σ9, sz9)) : Met l yX8_init [Cond.code yX8_init cX8_init 1 none] (rmk 1 2 8 20) (Pre g σ sz [.ref a0]) (Pst g (vV r9) σ9 sz9) 2 8 (Aw g) := by
  refine Met.ofW (cc := cX8_init) (maxL := 1) (ret := none) (by decide) rfl ?_
  intro p e s m args below meth c s₁ B hml hv
  obtain ⟨rfl, C, hs⟩ := ctx_of B hml hv
  have C : Cx g p s m meth c cX8_init 1 "Tillhouse$Steps" := C
  have hr := B.returns
  have hin : meth.name = "<init>" := (name_of_methodNamed B.named B.method).1
  have hl := lv_entry ([.ref a0]) (n := 1) (Nat.le_of_ble_eq_true rfl)
  rw [lg_entry_eq]
  generalize (lg_sl ([.ref a0]) ++ List.replicate (1 - (lg_sl ([.ref a0])).length) Slot.unset).toArray = ls at hl ⊢
  have hl : lv_has ls 1 [(0, .ref a0)] := hl
  unfold f_X8_init at h
  refine lv_aload_n C.1 C.2.1 dX8_init_0 rfl (lv_at hl 0 rfl) ?_
  refine sx_objInit C hl q234 qobj1 qobj2 dX8_init_1 (Nat.le_of_ble_eq_true rfl) (Nat.le_of_ble_eq_true rfl) ?_
  refine lv_aload_n C.1 C.2.1 dX8_init_4 rfl (lv_at hl 0 rfl) ?_
  refine lv_iconst (v := 4) C.1 C.2.1 dX8_init_5 (by decide) ?_
  replace h := ol h; obtain ⟨τ1, eτ1, h⟩ := h
  refine sx_newa (atype := .int) (k := 1) (N := 4) (f := z1) C hs (by decide) rfl q145 (fun _ => rfl) (by decide) (by decide +kernel) (Nat.le_of_ble_eq_true rfl) (Nat.le_of_ble_eq_true rfl) (Nat.le_of_ble_eq_true rfl) dX8_init_6 (fun H hs => ?_)
  replace hs := HS.nm eτ1 hs
  replace h := ob h; obtain ⟨τ2, eτ2, h⟩ := h
  refine sx_put C hs fp_X8_7 rfl rfl eτ2 dX8_init_8 (fun H locs hs => ?_)
  refine lv_aload_n C.1 C.2.1 dX8_init_11 rfl (lv_at hl 0 rfl) ?_
  refine lv_iconst (v := 4) C.1 C.2.1 dX8_init_12 (by decide) ?_
  replace h := ol h; obtain ⟨τ3, eτ3, h⟩ := h
  refine sx_newa (atype := .int) (k := 1) (N := 4) (f := z1) C hs (by decide) rfl q145 (fun _ => rfl) (by decide) (by decide +kernel) (Nat.le_of_ble_eq_true rfl) (Nat.le_of_ble_eq_true rfl) (Nat.le_of_ble_eq_true rfl) dX8_init_13 (fun H hs => ?_)
  replace hs := HS.nm eτ3 hs
  replace h := ob h; obtain ⟨τ4, eτ4, h⟩ := h
  refine sx_put C hs fp_X8_13 rfl rfl eτ4 dX8_init_15 (fun H locs hs => ?_)
  refine lv_aload_n C.1 C.2.1 dX8_init_18 rfl (lv_at hl 0 rfl) ?_
  refine lv_iconst (v := 0) C.1 C.2.1 dX8_init_19 (by decide) ?_
  replace h := ob h; obtain ⟨τ5, eτ5, h⟩ := h
  refine sx_put C hs fp_X8_16 rfl rfl eτ5 dX8_init_20 (fun H locs hs => ?_)
  cases h
  exact sx_vret C hs hr dX8_init_23
def b_X8_placeOf_2_body (N : Nat) (k2 : Sto × Nat × Int32 × Int32 → Option Int32) (σ : Sto) (a0 : Nat) (v1 : Int32) (v2 : Int32) : Option Int32 :=
 (gI σ a0 7 2).bind fun x1 =>
 if x1 ≤ v2 then
 (gI σ a0 7 2).bind fun x3 =>
 some (x3)
 else
 (gR σ a0 7 0).bind fun p4 =>
 (aI σ p4 1 v2).bind fun x5 =>
 if x5 = v1 then
 some (v2)
 else
 lt_ (v2 + 1) fun x7 =>
 k2 (σ, a0, v1, x7)
def b_X8_placeOf_2 (N : Nat) (σ : Sto) (a0 : Nat) (v1 : Int32) (v2 : Int32) : Option Int32 :=
  lp (fun k e => b_X8_placeOf_2_body N k e.1 e.2.1 e.2.2.1 e.2.2.2) N (σ, a0, v1, v2)
def f_X8_placeOf (N : Nat) (σ : Sto) (a0 : Nat) (v1 : Int32) : Option Int32 :=
 b_X8_placeOf_2 N σ a0 v1 0
set_option maxHeartbeats 4000000 in
set_option maxRecDepth 100000 in
theorem tb_X8_placeOf_2 {l : Launch} {g : PP} {p : Program} {e : Env} {s : State} {m : MethodId} {args : Array Value} {below : List Frame} {meth : Method} {c : Code} (C : Cx g p s m meth c cX8_placeOf 3 "Tillhouse$Steps") (hr : meth.sig.returnType = some .int) {N : Nat}  {k2 : Sto × Nat × Int32 × Int32 → Option Int32} {σ : Sto} {sz : Nat} {a0 : Nat} {v1 : Int32} {v2 : Int32} {r9 : Int32}
    (h : b_X8_placeOf_2_body N k2 σ a0 v1 v2 = some r9)  (hk2 : ∀ (σ : Sto) (a0 : Nat) (v1 : Int32) (v2 : Int32), k2 (σ, a0, v1, v2) = some r9 → ∀ (H : Heap) (locs : List Loc) (ls : Array Slot), HS g s σ sz H locs → lv_has ls 3 [(0, .ref a0), (1, .int v1), (2, .int v2)] → W p l e (rmk 0 0 0 0) s m args below meth c H locs 0 0 (MQ below (Pst g (vI r9) σ sz) args s 0 0 (Aw g)) (F0 m 2 ls []))
    {H : Heap} {locs : List Loc} {ls : Array Slot} (hs : HS g s σ sz H locs) (hl : lv_has ls 3 [(0, .ref a0), (1, .int v1), (2, .int v2)]) : W p l e (rmk 0 0 0 0) s m args below meth c H locs 0 0 (MQ below (Pst g (vI r9) σ sz) args s 0 0 (Aw g)) (F0 m 2 ls []) := by
  unfold b_X8_placeOf_2_body at h
  refine lv_iload_n C.1 C.2.1 dX8_placeOf_2 rfl (lv_at hl 2 rfl) ?_
  refine lv_aload_n C.1 C.2.1 dX8_placeOf_3 rfl (lv_at hl 0 rfl) ?_
  replace h := ob h; obtain ⟨x1, ex1, h⟩ := h
  refine sx_getV C hs fo_X8_16 (gI_v ex1) dX8_placeOf_4 ?_
  refine lv_icmp_ge (tgt := 28) C.1 C.2.1 dX8_placeOf_7 (by decide) (fun c2 => ?_) (fun c2 => ?_)
  · replace h := ip c2 h
    refine lv_aload_n C.1 C.2.1 dX8_placeOf_28 rfl (lv_at hl 0 rfl) ?_
    replace h := ob h; obtain ⟨x3, ex3, h⟩ := h
    refine sx_getV C hs fo_X8_16 (gI_v ex3) dX8_placeOf_29 ?_
    cases h
    exact sx_iret C hs hr rfl dX8_placeOf_32
  · replace h := iN c2 h
    refine lv_aload_n C.1 C.2.1 dX8_placeOf_10 rfl (lv_at hl 0 rfl) ?_
    replace h := ob h; obtain ⟨p4, ep4, h⟩ := h
    refine sx_getV C hs fo_X8_7 (gR_v ep4) dX8_placeOf_11 ?_
    refine lv_iload_n C.1 C.2.1 dX8_placeOf_14 rfl (lv_at hl 2 rfl) ?_
    replace h := ob h; obtain ⟨x5, ex5, h⟩ := h
    refine sx_iald C hs ex5 dX8_placeOf_15 ?_
    refine lv_iload_n C.1 C.2.1 dX8_placeOf_16 rfl (lv_at hl 1 rfl) ?_
    refine lv_icmp_ne (tgt := 22) C.1 C.2.1 dX8_placeOf_17 (by decide) (fun c6 => ?_) (fun c6 => ?_)
    · replace h := iN c6 h
      replace h := ol h; obtain ⟨x7, ex7, h⟩ := h
      refine lv_iinc (v := x7) (lv' := [(2, .int x7), (0, .ref a0), (1, .int v1)]) C.1 C.2.1 dX8_placeOf_22 hl (k := 2) rfl (by rw [ex7]; rfl) (by decide) rfl (fun ls hl => ?_)
      refine lv_goto (tgt := 2) C.1 C.2.1 dX8_placeOf_25 (by decide) ?_
      exact hk2 σ a0 v1 x7 h _ _ _ hs (lv_sub hl [1, 2, 0] rfl)
    · replace h := ip c6 h
      refine lv_iload_n C.1 C.2.1 dX8_placeOf_20 rfl (lv_at hl 2 rfl) ?_
      cases h
      exact sx_iret C hs hr rfl dX8_placeOf_21
set_option maxHeartbeats 4000000 in
set_option maxRecDepth 100000 in
theorem tl_X8_placeOf_2 {l : Launch} {g : PP} {p : Program} {e : Env} {s : State} {m : MethodId} {args : Array Value} {below : List Frame} {meth : Method} {c : Code} (C : Cx g p s m meth c cX8_placeOf 3 "Tillhouse$Steps") (hr : meth.sig.returnType = some .int) {N : Nat}   {sz : Nat} {r9 : Int32}  : ∀ (n : Nat) (σ : Sto) (a0 : Nat) (v1 : Int32) (v2 : Int32), lp (fun k e => b_X8_placeOf_2_body N k e.1 e.2.1 e.2.2.1 e.2.2.2) n (σ, a0, v1, v2) = some r9 → ∀ (H : Heap) (locs : List Loc) (ls : Array Slot), HS g s σ sz H locs → lv_has ls 3 [(0, .ref a0), (1, .int v1), (2, .int v2)] → W p l e (rmk 0 0 0 0) s m args below meth c H locs 0 0 (MQ below (Pst g (vI r9) σ sz) args s 0 0 (Aw g)) (F0 m 2 ls []) := by
  intro n
  induction n with
  | zero => intro σ a0 v1 v2 h; exact absurd h (fun q => nomatch q)
  | succ n ih =>
    intro σ a0 v1 v2 h H locs ls hs hl
    exact tb_X8_placeOf_2 (N := N) C hr h (fun σ a0 v1 v2 h H locs ls hs hl => ih σ a0 v1 v2 h H locs ls hs hl) hs hl
set_option maxHeartbeats 4000000 in
set_option maxRecDepth 100000 in
theorem t_X8_placeOf_2 {l : Launch} {g : PP} {p : Program} {e : Env} {s : State} {m : MethodId} {args : Array Value} {below : List Frame} {meth : Method} {c : Code} (C : Cx g p s m meth c cX8_placeOf 3 "Tillhouse$Steps") (hr : meth.sig.returnType = some .int) {N : Nat}  {σ : Sto} {sz : Nat} {a0 : Nat} {v1 : Int32} {v2 : Int32} {r9 : Int32}
    (h : b_X8_placeOf_2 N σ a0 v1 v2 = some r9) 
    {H : Heap} {locs : List Loc} {ls : Array Slot} (hs : HS g s σ sz H locs) (hl : lv_has ls 3 [(0, .ref a0), (1, .int v1), (2, .int v2)]) : W p l e (rmk 0 0 0 0) s m args below meth c H locs 0 0 (MQ below (Pst g (vI r9) σ sz) args s 0 0 (Aw g)) (F0 m 2 ls []) := tl_X8_placeOf_2 C hr N σ a0 v1 v2 h H locs ls hs hl
set_option maxHeartbeats 4000000 in
set_option maxRecDepth 100000 in
theorem c_X8_placeOf {l : Launch} {g : PP} {N : Nat} {σ : Sto} {sz : Nat} {a0 : Nat} {v1 : Int32} {r9 : Int32} (h : f_X8_placeOf N σ a0 v1 = some r9) : Met l yX8_placeOf [Cond.code yX8_placeOf cX8_placeOf 3 (some .int)] (rmk 0 0 0 0) (Pre g σ sz [.ref a0, .int v1]) (Pst g (vI r9) σ sz) 0 0 (Aw g) := by
  refine Met.ofW (cc := cX8_placeOf) (maxL := 3) (ret := (some .int)) (by decide) rfl ?_
  intro p e s m args below meth c s₁ B hml hv
  obtain ⟨rfl, C, hs⟩ := ctx_of B hml hv
  have C : Cx g p s m meth c cX8_placeOf 3 "Tillhouse$Steps" := C
  have hr := B.returns
  have hl := lv_entry ([.ref a0, .int v1]) (n := 3) (Nat.le_of_ble_eq_true rfl)
  rw [lg_entry_eq]
  generalize (lg_sl ([.ref a0, .int v1]) ++ List.replicate (3 - (lg_sl ([.ref a0, .int v1])).length) Slot.unset).toArray = ls at hl ⊢
  have hl : lv_has ls 3 [(0, .ref a0), (1, .int v1)] := hl
  unfold f_X8_placeOf at h
  refine lv_iconst (v := 0) C.1 C.2.1 dX8_placeOf_0 (by decide) ?_
  refine lv_istore_n (lv' := [(2, .int 0), (0, .ref a0), (1, .int v1)]) C.1 C.2.1 dX8_placeOf_1 rfl hl (by decide) rfl (fun ls hl => ?_)
  exact t_X8_placeOf_2 C hr h hs (lv_sub hl [1, 2, 0] rfl)
def f_J7_copyOf_59c91 (σ : Sto) (sz : Nat) (a0 : Nat) (v1 : Int32) : Option (Nat × Sto × Nat) :=
 (aN σ a0 1).bind fun x1 =>
 if v1 = x1 then
 none
 else
 (nN v1).bind fun n4 =>
 lt_ (nA σ sz 1 n4 z1) fun τ3 =>
 (aN τ3 a0 1).bind fun x5 =>
 (cpI τ3 a0 0 sz 0 (if v1 < x5 then v1 else x5)).bind fun τ6 =>
 some (sz, τ6, sz + 1)
set_option maxHeartbeats 4000000 in
set_option maxRecDepth 100000 in
theorem c_J7_copyOf_59c91 {l : Launch} {g : PP} {σ : Sto} {sz : Nat} {a0 : Nat} {v1 : Int32} {r9 : Nat} {σ9 : Sto} {sz9 : Nat} (h : f_J7_copyOf_59c91 σ sz a0 v1 = some (r9, σ9, sz9)) : Met l yJ7_copyOf_59c91 [Cond.code yJ7_copyOf_59c91 cJ7_copyOf_59c91 3 (some (.array .int))] (rmk 1 1 1024 40) (Pre g σ sz [.ref a0, .int v1]) (Pst g (vR r9) σ9 sz9) 1 1024 (Aw g) := by
  refine Met.ofW (cc := cJ7_copyOf_59c91) (maxL := 3) (ret := (some (.array .int))) (by decide) rfl ?_
  intro p e s m args below meth c s₁ B hml hv
  obtain ⟨rfl, C, hs⟩ := ctx_of B hml hv
  have C : Cx g p s m meth c cJ7_copyOf_59c91 3 "java/util/Arrays" := C
  have hr := B.returns
  have hl := lv_entry ([.ref a0, .int v1]) (n := 3) (Nat.le_of_ble_eq_true rfl)
  rw [lg_entry_eq]
  generalize (lg_sl ([.ref a0, .int v1]) ++ List.replicate (3 - (lg_sl ([.ref a0, .int v1])).length) Slot.unset).toArray = ls at hl ⊢
  have hl : lv_has ls 3 [(0, .ref a0), (1, .int v1)] := hl
  unfold f_J7_copyOf_59c91 at h
  refine lv_iload_n C.1 C.2.1 dJ7_copyOf_59c91_0 rfl (lv_at hl 1 rfl) ?_
  refine lv_aload_n C.1 C.2.1 dJ7_copyOf_59c91_1 rfl (lv_at hl 0 rfl) ?_
  replace h := ob h; obtain ⟨x1, ex1, h⟩ := h
  refine sx_alen C hs (by decide) ex1 dJ7_copyOf_59c91_2 ?_
  refine lv_icmp_ne (tgt := 14) C.1 C.2.1 dJ7_copyOf_59c91_3 (by decide) (fun c2 => ?_) (fun c2 => ?_)
  · replace h := iN c2 h
    refine lv_iload_n C.1 C.2.1 dJ7_copyOf_59c91_14 rfl (lv_at hl 1 rfl) ?_
    replace h := ob h; obtain ⟨n4, en4, h⟩ := h
    replace h := ol h; obtain ⟨τ3, eτ3, h⟩ := h
    refine sx_newa (atype := .int) (k := 1) (N := n4) (f := z1) C hs (by decide) rfl q145 (fun _ => rfl) (nN_v en4).1 (nN_v en4).2.1 (by have := (nN_v en4).2.2; omega) (Nat.le_of_ble_eq_true rfl) (by have := (nN_v en4).2.2; show 0 + n4 ≤ 1024; omega) dJ7_copyOf_59c91_15 (fun H hs => ?_)
    replace hs := HS.nm eτ3 hs
    refine W.widen (k := 1) (n := 1024) (Nat.le_of_ble_eq_true rfl) (by have := (nN_v en4).2.2; omega) ?_
    refine lv_astore_n (lv' := [(2, .ref sz), (0, .ref a0), (1, .int v1)]) C.1 C.2.1 dJ7_copyOf_59c91_17 rfl hl (by decide) rfl (fun ls hl => ?_)
    refine lv_aload_n C.1 C.2.1 dJ7_copyOf_59c91_18 rfl (lv_at hl 1 rfl) ?_
    refine lv_iconst (v := 0) C.1 C.2.1 dJ7_copyOf_59c91_19 (by decide) ?_
    refine lv_aload_n C.1 C.2.1 dJ7_copyOf_59c91_20 rfl (lv_at hl 0 rfl) ?_
    refine lv_iconst (v := 0) C.1 C.2.1 dJ7_copyOf_59c91_21 (by decide) ?_
    refine lv_aload_n C.1 C.2.1 dJ7_copyOf_59c91_22 rfl (lv_at hl 1 rfl) ?_
    replace h := ob h; obtain ⟨x5, ex5, h⟩ := h
    refine sx_alen C hs (by decide) ex5 dJ7_copyOf_59c91_23 ?_
    refine lv_iload_n C.1 C.2.1 dJ7_copyOf_59c91_24 rfl (lv_at hl 2 rfl) ?_
    refine va_mmin C.1 C.2.1 (C.2.2.1.trans hl.1.symm) C.2.2.2.1 (C.2.2.2.2.1.1 _ q966 _) (C.2.2.2.2.1.1 _ mth_va_mmin_s _) (C.2.2.2.2.1.1 _ qmath _) (C.2.2.2.2.1.1 _ mth_va_mmin_c _) (by exact Nat.le_of_ble_eq_true rfl) (by exact Nat.le_of_ble_eq_true rfl) (by exact Nat.le_of_ble_eq_true rfl) (by exact Nat.le_of_ble_eq_true rfl) dJ7_copyOf_59c91_25 ?_
    replace h := ob h; obtain ⟨τ6, eτ6, h⟩ := h
    refine sx_copy (lv := []) C hs hl.1 q969 qcopy eτ6 (Nat.le_of_ble_eq_true rfl) (Nat.le_of_ble_eq_true rfl) dJ7_copyOf_59c91_28 (fun H locs hs => ?_)
    refine lv_aload_n C.1 C.2.1 dJ7_copyOf_59c91_31 rfl (lv_at hl 0 rfl) ?_
    cases h
    exact sx_aret C hs hr (by first | exact Or.inl ⟨_, rfl⟩ | exact Or.inr ⟨_, rfl⟩) dJ7_copyOf_59c91_32
  · replace h := ip c2 h
    cases h
def f_X8_makeRoom (σ : Sto) (sz : Nat) (a0 : Nat) : Option (Unit × Sto × Nat) :=
 (gR σ a0 7 0).bind fun p1 =>
 (gR σ a0 7 0).bind fun p2 =>
 (aN σ p2 1).bind fun x3 =>
 b3 (f_J7_copyOf_59c91 σ sz p1 (x3 * 2)) fun p4 τ5 y6 =>
 (pF τ5 a0 7 0 (.ref p4)).bind fun τ7 =>
 (gR τ7 a0 7 1).bind fun p8 =>
 (gR τ7 a0 7 0).bind fun p9 =>
 (aN τ7 p9 1).bind fun x10 =>
 b3 (f_J7_copyOf_59c91 τ7 y6 p8 x10) fun p11 τ12 y13 =>
 (pF τ12 a0 7 1 (.ref p11)).bind fun τ14 =>
 some ((), τ14, y13)
set_option maxHeartbeats 4000000 in
set_option maxRecDepth 100000 in
theorem c_X8_makeRoom {l : Launch} {g : PP} {σ : Sto} {sz : Nat} {a0 : Nat} {r9 : Unit} {σ9 : Sto} {sz9 : Nat} (h : f_X8_makeRoom σ sz a0 = some (r9, σ9, sz9)) : Met l yX8_makeRoom [Cond.code yX8_makeRoom cX8_makeRoom 1 none] (rmk 2 2 2048 62) (Pre g σ sz [.ref a0]) (Pst g (vV r9) σ9 sz9) 2 2048 (Aw g) := by
  refine Met.ofW (cc := cX8_makeRoom) (maxL := 1) (ret := none) (by decide) rfl ?_
  intro p e s m args below meth c s₁ B hml hv
  obtain ⟨rfl, C, hs⟩ := ctx_of B hml hv
  have C : Cx g p s m meth c cX8_makeRoom 1 "Tillhouse$Steps" := C
  have hr := B.returns
  have hl := lv_entry ([.ref a0]) (n := 1) (Nat.le_of_ble_eq_true rfl)
  rw [lg_entry_eq]
  generalize (lg_sl ([.ref a0]) ++ List.replicate (1 - (lg_sl ([.ref a0])).length) Slot.unset).toArray = ls at hl ⊢
  have hl : lv_has ls 1 [(0, .ref a0)] := hl
  unfold f_X8_makeRoom at h
  refine lv_aload_n C.1 C.2.1 dX8_makeRoom_0 rfl (lv_at hl 0 rfl) ?_
  refine lv_aload_n C.1 C.2.1 dX8_makeRoom_1 rfl (lv_at hl 0 rfl) ?_
  replace h := ob h; obtain ⟨p1, ep1, h⟩ := h
  refine sx_getV C hs fo_X8_7 (gR_v ep1) dX8_makeRoom_2 ?_
  refine lv_aload_n C.1 C.2.1 dX8_makeRoom_5 rfl (lv_at hl 0 rfl) ?_
  replace h := ob h; obtain ⟨p2, ep2, h⟩ := h
  refine sx_getV C hs fo_X8_7 (gR_v ep2) dX8_makeRoom_6 ?_
  replace h := ob h; obtain ⟨x3, ex3, h⟩ := h
  refine sx_alen C hs (by decide) ex3 dX8_makeRoom_9 ?_
  refine lv_iconst (v := 2) C.1 C.2.1 dX8_makeRoom_10 (by decide) ?_
  refine lv_imul C.1 C.2.1 dX8_makeRoom_11 ?_
  replace h := ob3 h; obtain ⟨p4, τ5, y6, ep4, h⟩ := h
  refine sx_callS (As := [.ref p1, .int (x3 * 2)]) (rest := [.ref a0]) C hs (c_J7_copyOf_59c91 ep4) mo_J7_copyOf_59c91 q956 rfl hl.1 ⟨⟨(Nat.le_of_ble_eq_true rfl), (Nat.le_of_ble_eq_true rfl)⟩, (Nat.le_of_ble_eq_true rfl), (Nat.le_of_ble_eq_true rfl)⟩ rfl (Nat.le_of_ble_eq_true rfl) dX8_makeRoom_12 (fun H locs hs => ?_)
  refine W.eq (g2 := F0 m 15 ls [.ref p4, .ref a0]) rfl ?_
  replace h := ob h; obtain ⟨τ7, eτ7, h⟩ := h
  refine sx_put C hs fp_X8_7 rfl rfl eτ7 dX8_makeRoom_15 (fun H locs hs => ?_)
  refine lv_aload_n C.1 C.2.1 dX8_makeRoom_18 rfl (lv_at hl 0 rfl) ?_
  refine lv_aload_n C.1 C.2.1 dX8_makeRoom_19 rfl (lv_at hl 0 rfl) ?_
  replace h := ob h; obtain ⟨p8, ep8, h⟩ := h
  refine sx_getV C hs fo_X8_13 (gR_v ep8) dX8_makeRoom_20 ?_
  refine lv_aload_n C.1 C.2.1 dX8_makeRoom_23 rfl (lv_at hl 0 rfl) ?_
  replace h := ob h; obtain ⟨p9, ep9, h⟩ := h
  refine sx_getV C hs fo_X8_7 (gR_v ep9) dX8_makeRoom_24 ?_
  replace h := ob h; obtain ⟨x10, ex10, h⟩ := h
  refine sx_alen C hs (by decide) ex10 dX8_makeRoom_27 ?_
  replace h := ob3 h; obtain ⟨p11, τ12, y13, ep11, h⟩ := h
  refine sx_callS (As := [.ref p8, .int x10]) (rest := [.ref a0]) C hs (c_J7_copyOf_59c91 ep11) mo_J7_copyOf_59c91 q956 rfl hl.1 ⟨⟨(Nat.le_of_ble_eq_true rfl), (Nat.le_of_ble_eq_true rfl)⟩, (Nat.le_of_ble_eq_true rfl), (Nat.le_of_ble_eq_true rfl)⟩ rfl (Nat.le_of_ble_eq_true rfl) dX8_makeRoom_28 (fun H locs hs => ?_)
  refine W.eq (g2 := F0 m 31 ls [.ref p11, .ref a0]) rfl ?_
  replace h := ob h; obtain ⟨τ14, eτ14, h⟩ := h
  refine sx_put C hs fp_X8_13 rfl rfl eτ14 dX8_makeRoom_31 (fun H locs hs => ?_)
  cases h
  exact sx_vret C hs hr dX8_makeRoom_34
def b_X8_tell_19 (N : Nat) (σ : Sto) (sz : Nat) (a0 : Nat) (v1 : Int32) (v2 : Int32) (v3 : Int32) : Option (Int32 × Sto × Nat) :=
 (gR σ a0 7 0).bind fun p1 =>
 (sI σ p1 1 v3 v1).bind fun τ2 =>
 (gR τ2 a0 7 1).bind fun p3 =>
 (sI τ2 p3 1 v3 v2).bind fun τ4 =>
 (gI τ4 a0 7 2).bind fun x5 =>
 (pF τ4 a0 7 2 (.int (if x5 < (v3 + 1) then (v3 + 1) else x5))).bind fun τ6 =>
 (gI τ6 a0 7 2).bind fun x7 =>
 some (x7, τ6, sz)
def f_X8_tell (N : Nat) (σ : Sto) (sz : Nat) (a0 : Nat) (v1 : Int32) (v2 : Int32) : Option (Int32 × Sto × Nat) :=
 (isO σ a0 7).bind fun _ =>
 (f_X8_placeOf N σ a0 v1).bind fun x2 =>
 (gR σ a0 7 0).bind fun p3 =>
 (aN σ p3 1).bind fun x4 =>
 if x2 < x4 then
 b_X8_tell_19 N σ sz a0 v1 v2 x2
 else
 b3 (f_X8_makeRoom σ sz a0) fun x6 τ7 y8 =>
 b_X8_tell_19 N τ7 y8 a0 v1 v2 x2
set_option maxHeartbeats 4000000 in
set_option maxRecDepth 100000 in
theorem t_X8_tell_19 {l : Launch} {g : PP} {p : Program} {e : Env} {s : State} {m : MethodId} {args : Array Value} {below : List Frame} {meth : Method} {c : Code} (C : Cx g p s m meth c cX8_tell 4 "Tillhouse$Steps") (hr : meth.sig.returnType = some .int) {N : Nat}  {σ : Sto} {sz : Nat} {a0 : Nat} {v1 : Int32} {v2 : Int32} {v3 : Int32} {r9 : Int32} {σ9 : Sto} {sz9 : Nat}
    (h : b_X8_tell_19 N σ sz a0 v1 v2 v3 = some (r9, σ9, sz9)) 
    {H : Heap} {locs : List Loc} {ls : Array Slot} (hs : HS g s σ sz H locs) (hl : lv_has ls 4 [(0, .ref a0), (1, .int v1), (2, .int v2), (3, .int v3)]) : W p l e (rmk 3 2 2048 82) s m args below meth c H locs 2 2048 (MQ below (Pst g (vI r9) σ9 sz9) args s 2 2048 (Aw g)) (F0 m 19 ls []) := by
  unfold b_X8_tell_19 at h
  refine lv_aload_n C.1 C.2.1 dX8_tell_19 rfl (lv_at hl 0 rfl) ?_
  replace h := ob h; obtain ⟨p1, ep1, h⟩ := h
  refine sx_getV C hs fo_X8_7 (gR_v ep1) dX8_tell_20 ?_
  refine lv_iload_n C.1 C.2.1 dX8_tell_23 rfl (lv_at hl 3 rfl) ?_
  refine lv_iload_n C.1 C.2.1 dX8_tell_24 rfl (lv_at hl 1 rfl) ?_
  replace h := ob h; obtain ⟨τ2, eτ2, h⟩ := h
  refine sx_iast C hs eτ2 dX8_tell_25 (fun H locs hs => ?_)
  refine lv_aload_n C.1 C.2.1 dX8_tell_26 rfl (lv_at hl 0 rfl) ?_
  replace h := ob h; obtain ⟨p3, ep3, h⟩ := h
  refine sx_getV C hs fo_X8_13 (gR_v ep3) dX8_tell_27 ?_
  refine lv_iload_n C.1 C.2.1 dX8_tell_30 rfl (lv_at hl 3 rfl) ?_
  refine lv_iload_n C.1 C.2.1 dX8_tell_31 rfl (lv_at hl 2 rfl) ?_
  replace h := ob h; obtain ⟨τ4, eτ4, h⟩ := h
  refine sx_iast C hs eτ4 dX8_tell_32 (fun H locs hs => ?_)
  refine lv_aload_n C.1 C.2.1 dX8_tell_33 rfl (lv_at hl 0 rfl) ?_
  refine lv_aload_n C.1 C.2.1 dX8_tell_34 rfl (lv_at hl 0 rfl) ?_
  replace h := ob h; obtain ⟨x5, ex5, h⟩ := h
  refine sx_getV C hs fo_X8_16 (gI_v ex5) dX8_tell_35 ?_
  refine lv_iload_n C.1 C.2.1 dX8_tell_38 rfl (lv_at hl 3 rfl) ?_
  refine lv_iconst (v := 1) C.1 C.2.1 dX8_tell_39 (by decide) ?_
  refine lv_iadd C.1 C.2.1 dX8_tell_40 ?_
  refine va_mmax C.1 C.2.1 (C.2.2.1.trans hl.1.symm) C.2.2.2.1 (C.2.2.2.2.1.1 _ q972 _) (C.2.2.2.2.1.1 _ mth_va_mmax_s _) (C.2.2.2.2.1.1 _ qmath _) (C.2.2.2.2.1.1 _ mth_va_mmax_c _) (by exact Nat.le_of_ble_eq_true rfl) (by exact Nat.le_of_ble_eq_true rfl) (by exact Nat.le_of_ble_eq_true rfl) (by exact Nat.le_of_ble_eq_true rfl) dX8_tell_41 ?_
  replace h := ob h; obtain ⟨τ6, eτ6, h⟩ := h
  refine sx_put C hs fp_X8_16 rfl rfl eτ6 dX8_tell_44 (fun H locs hs => ?_)
  refine lv_aload_n C.1 C.2.1 dX8_tell_47 rfl (lv_at hl 0 rfl) ?_
  replace h := ob h; obtain ⟨x7, ex7, h⟩ := h
  refine sx_getV C hs fo_X8_16 (gI_v ex7) dX8_tell_48 ?_
  cases h
  exact sx_iret C hs hr rfl dX8_tell_51
set_option maxHeartbeats 4000000 in
set_option maxRecDepth 100000 in
theorem c_X8_tell {l : Launch} {g : PP} {N : Nat} {σ : Sto} {sz : Nat} {a0 : Nat} {v1 : Int32} {v2 : Int32} {r9 : Int32} {σ9 : Sto} {sz9 : Nat} (h : f_X8_tell N σ sz a0 v1 v2 = some (r9, σ9, sz9)) : Met l yX8_tell [Cond.code yX8_tell cX8_tell 4 (some .int)] (rmk 3 2 2048 82) (Pre g σ sz [.ref a0, .int v1, .int v2]) (Pst g (vI r9) σ9 sz9) 2 2048 (Aw g) := by
  refine Met.ofW (cc := cX8_tell) (maxL := 4) (ret := (some .int)) (by decide) rfl ?_
  intro p e s m args below meth c s₁ B hml hv
  obtain ⟨rfl, C, hs⟩ := ctx_of B hml hv
  have C : Cx g p s m meth c cX8_tell 4 "Tillhouse$Steps" := C
  have hr := B.returns
  have hl := lv_entry ([.ref a0, .int v1, .int v2]) (n := 4) (Nat.le_of_ble_eq_true rfl)
  rw [lg_entry_eq]
  generalize (lg_sl ([.ref a0, .int v1, .int v2]) ++ List.replicate (4 - (lg_sl ([.ref a0, .int v1, .int v2])).length) Slot.unset).toArray = ls at hl ⊢
  have hl : lv_has ls 4 [(0, .ref a0), (1, .int v1), (2, .int v2)] := hl
  unfold f_X8_tell at h
  refine lv_aload_n C.1 C.2.1 dX8_tell_0 rfl (lv_at hl 0 rfl) ?_
  refine lv_iload_n C.1 C.2.1 dX8_tell_1 rfl (lv_at hl 1 rfl) ?_
  replace h := ob h; obtain ⟨⟨⟩, i1, h⟩ := h
  replace h := ob h; obtain ⟨x2, ex2, h⟩ := h
  refine sx_callV (As := [.int v1]) (rest := []) C hs (c_X8_placeOf ex2) mo_X8_placeOf q948 i1 rfl rfl hl.1 ⟨⟨(Nat.le_of_ble_eq_true rfl), (Nat.le_of_ble_eq_true rfl)⟩, (Nat.le_of_ble_eq_true rfl), (Nat.le_of_ble_eq_true rfl)⟩ rfl (Nat.le_of_ble_eq_true rfl) dX8_tell_2 (fun H locs hs => ?_)
  refine W.eq (g2 := F0 m 5 ls [.int x2]) rfl ?_
  refine lv_istore_n (lv' := [(3, .int x2), (0, .ref a0), (1, .int v1), (2, .int v2)]) C.1 C.2.1 dX8_tell_5 rfl hl (by decide) rfl (fun ls hl => ?_)
  refine lv_iload_n C.1 C.2.1 dX8_tell_6 rfl (lv_at hl 0 rfl) ?_
  refine lv_aload_n C.1 C.2.1 dX8_tell_7 rfl (lv_at hl 1 rfl) ?_
  replace h := ob h; obtain ⟨p3, ep3, h⟩ := h
  refine sx_getV C hs fo_X8_7 (gR_v ep3) dX8_tell_8 ?_
  replace h := ob h; obtain ⟨x4, ex4, h⟩ := h
  refine sx_alen C hs (by decide) ex4 dX8_tell_11 ?_
  refine lv_icmp_lt (tgt := 19) C.1 C.2.1 dX8_tell_12 (by decide) (fun c5 => ?_) (fun c5 => ?_)
  · replace h := ip c5 h
    refine W.widen (k := 2) (n := 2048) (Nat.le_of_ble_eq_true rfl) (Nat.le_of_ble_eq_true rfl) ?_
    exact t_X8_tell_19 C hr h hs (lv_sub hl [1, 2, 3, 0] rfl)
  · replace h := iN c5 h
    refine lv_aload_n C.1 C.2.1 dX8_tell_15 rfl (lv_at hl 1 rfl) ?_
    replace h := ob3 h; obtain ⟨x6, τ7, y8, ex6, h⟩ := h
    refine sx_callV (As := []) (rest := []) C hs (c_X8_makeRoom ex6) mo_X8_makeRoom q952 i1 rfl rfl hl.1 ⟨⟨(Nat.le_of_ble_eq_true rfl), (Nat.le_of_ble_eq_true rfl)⟩, (Nat.le_of_ble_eq_true rfl), (Nat.le_of_ble_eq_true rfl)⟩ rfl (Nat.le_of_ble_eq_true rfl) dX8_tell_16 (fun H locs hs => ?_)
    refine W.eq (g2 := F0 m 19 ls []) rfl ?_
    exact t_X8_tell_19 C hr h hs (lv_sub hl [1, 2, 3, 0] rfl)
def b_X8_amountAt_54 (N : Nat) (k7 : Sto × Nat × Int32 × Int32 × Int32 × Int32 → Option Int32) (σ : Sto) (a0 : Nat) (v1 : Int32) (v2 : Int32) (v3 : Int32) (v4 : Int32) : Option Int32 :=
 lt_ (v4 + 1) fun x1 =>
 k7 (σ, a0, v1, v2, v3, x1)
def b_X8_amountAt_7_body (N : Nat) (k7 : Sto × Nat × Int32 × Int32 × Int32 × Int32 → Option Int32) (σ : Sto) (a0 : Nat) (v1 : Int32) (v2 : Int32) (v3 : Int32) (v4 : Int32) : Option Int32 :=
 (gI σ a0 7 2).bind fun x1 =>
 if x1 ≤ v4 then
 some (v3)
 else
 (gR σ a0 7 0).bind fun p3 =>
 (aI σ p3 1 v4).bind fun x4 =>
 if v1 < x4 then
 b_X8_amountAt_54 N k7 σ a0 v1 v2 v3 v4
 else
 (gR σ a0 7 0).bind fun p6 =>
 (aI σ p6 1 v4).bind fun x7 =>
 if x7 ≤ v2 then
 b_X8_amountAt_54 N k7 σ a0 v1 v2 v3 v4
 else
 (gR σ a0 7 0).bind fun p9 =>
 (aI σ p9 1 v4).bind fun x10 =>
 (gR σ a0 7 1).bind fun p11 =>
 (aI σ p11 1 v4).bind fun x12 =>
 b_X8_amountAt_54 N k7 σ a0 v1 x10 x12 v4
def b_X8_amountAt_7 (N : Nat) (σ : Sto) (a0 : Nat) (v1 : Int32) (v2 : Int32) (v3 : Int32) (v4 : Int32) : Option Int32 :=
  lp (fun k e => b_X8_amountAt_7_body N k e.1 e.2.1 e.2.2.1 e.2.2.2.1 e.2.2.2.2.1 e.2.2.2.2.2) N (σ, a0, v1, v2, v3, v4)
def f_X8_amountAt (N : Nat) (σ : Sto) (a0 : Nat) (v1 : Int32) : Option Int32 :=
 b_X8_amountAt_7 N σ a0 v1 (-1) 0 0
set_option maxHeartbeats 4000000 in
set_option maxRecDepth 100000 in
theorem t_X8_amountAt_54 {l : Launch} {g : PP} {p : Program} {e : Env} {s : State} {m : MethodId} {args : Array Value} {below : List Frame} {meth : Method} {c : Code} (C : Cx g p s m meth c cX8_amountAt 5 "Tillhouse$Steps") (hr : meth.sig.returnType = some .int) {N : Nat} {k7 : Sto × Nat × Int32 × Int32 × Int32 × Int32 → Option Int32} {σ : Sto} {sz : Nat} {a0 : Nat} {v1 : Int32} {v2 : Int32} {v3 : Int32} {v4 : Int32} {r9 : Int32}
    (h : b_X8_amountAt_54 N k7 σ a0 v1 v2 v3 v4 = some r9) (hk7 : ∀ (σ : Sto) (a0 : Nat) (v1 : Int32) (v2 : Int32) (v3 : Int32) (v4 : Int32), k7 (σ, a0, v1, v2, v3, v4) = some r9 → ∀ (H : Heap) (locs : List Loc) (ls : Array Slot), HS g s σ sz H locs → lv_has ls 5 [(0, .ref a0), (1, .int v1), (2, .int v2), (3, .int v3), (4, .int v4)] → W p l e (rmk 0 0 0 0) s m args below meth c H locs 0 0 (MQ below (Pst g (vI r9) σ sz) args s 0 0 (Aw g)) (F0 m 7 ls []))
    {H : Heap} {locs : List Loc} {ls : Array Slot} (hs : HS g s σ sz H locs) (hl : lv_has ls 5 [(0, .ref a0), (1, .int v1), (2, .int v2), (3, .int v3), (4, .int v4)]) : W p l e (rmk 0 0 0 0) s m args below meth c H locs 0 0 (MQ below (Pst g (vI r9) σ sz) args s 0 0 (Aw g)) (F0 m 54 ls []) := by
  unfold b_X8_amountAt_54 at h
  replace h := ol h; obtain ⟨x1, ex1, h⟩ := h
  refine lv_iinc (v := x1) (lv' := [(4, .int x1), (0, .ref a0), (1, .int v1), (2, .int v2), (3, .int v3)]) C.1 C.2.1 dX8_amountAt_54 hl (k := 4) rfl (by rw [ex1]; rfl) (by decide) rfl (fun ls hl => ?_)
  refine lv_goto (tgt := 7) C.1 C.2.1 dX8_amountAt_57 (by decide) ?_
  exact hk7 σ a0 v1 v2 v3 x1 h _ _ _ hs (lv_sub hl [1, 2, 3, 4, 0] rfl)
set_option maxHeartbeats 4000000 in
set_option maxRecDepth 100000 in
theorem tb_X8_amountAt_7 {l : Launch} {g : PP} {p : Program} {e : Env} {s : State} {m : MethodId} {args : Array Value} {below : List Frame} {meth : Method} {c : Code} (C : Cx g p s m meth c cX8_amountAt 5 "Tillhouse$Steps") (hr : meth.sig.returnType = some .int) {N : Nat}  {k7 : Sto × Nat × Int32 × Int32 × Int32 × Int32 → Option Int32} {σ : Sto} {sz : Nat} {a0 : Nat} {v1 : Int32} {v2 : Int32} {v3 : Int32} {v4 : Int32} {r9 : Int32}
    (h : b_X8_amountAt_7_body N k7 σ a0 v1 v2 v3 v4 = some r9)  (hk7 : ∀ (σ : Sto) (a0 : Nat) (v1 : Int32) (v2 : Int32) (v3 : Int32) (v4 : Int32), k7 (σ, a0, v1, v2, v3, v4) = some r9 → ∀ (H : Heap) (locs : List Loc) (ls : Array Slot), HS g s σ sz H locs → lv_has ls 5 [(0, .ref a0), (1, .int v1), (2, .int v2), (3, .int v3), (4, .int v4)] → W p l e (rmk 0 0 0 0) s m args below meth c H locs 0 0 (MQ below (Pst g (vI r9) σ sz) args s 0 0 (Aw g)) (F0 m 7 ls []))
    {H : Heap} {locs : List Loc} {ls : Array Slot} (hs : HS g s σ sz H locs) (hl : lv_has ls 5 [(0, .ref a0), (1, .int v1), (2, .int v2), (3, .int v3), (4, .int v4)]) : W p l e (rmk 0 0 0 0) s m args below meth c H locs 0 0 (MQ below (Pst g (vI r9) σ sz) args s 0 0 (Aw g)) (F0 m 7 ls []) := by
  unfold b_X8_amountAt_7_body at h
  refine lv_iload C.1 C.2.1 dX8_amountAt_7 (lv_at hl 4 rfl) ?_
  refine lv_aload_n C.1 C.2.1 dX8_amountAt_9 rfl (lv_at hl 0 rfl) ?_
  replace h := ob h; obtain ⟨x1, ex1, h⟩ := h
  refine sx_getV C hs fo_X8_16 (gI_v ex1) dX8_amountAt_10 ?_
  refine lv_icmp_ge (tgt := 60) C.1 C.2.1 dX8_amountAt_13 (by decide) (fun c2 => ?_) (fun c2 => ?_)
  · replace h := ip c2 h
    refine lv_iload_n C.1 C.2.1 dX8_amountAt_60 rfl (lv_at hl 3 rfl) ?_
    cases h
    exact sx_iret C hs hr rfl dX8_amountAt_61
  · replace h := iN c2 h
    refine lv_aload_n C.1 C.2.1 dX8_amountAt_16 rfl (lv_at hl 0 rfl) ?_
    replace h := ob h; obtain ⟨p3, ep3, h⟩ := h
    refine sx_getV C hs fo_X8_7 (gR_v ep3) dX8_amountAt_17 ?_
    refine lv_iload C.1 C.2.1 dX8_amountAt_20 (lv_at hl 4 rfl) ?_
    replace h := ob h; obtain ⟨x4, ex4, h⟩ := h
    refine sx_iald C hs ex4 dX8_amountAt_22 ?_
    refine lv_iload_n C.1 C.2.1 dX8_amountAt_23 rfl (lv_at hl 1 rfl) ?_
    refine lv_icmp_gt (tgt := 54) C.1 C.2.1 dX8_amountAt_24 (by decide) (fun c5 => ?_) (fun c5 => ?_)
    · replace h := ip c5 h
      exact t_X8_amountAt_54 C hr h hk7 hs (lv_sub hl [0, 1, 2, 3, 4] rfl)
    · replace h := iN c5 h
      refine lv_aload_n C.1 C.2.1 dX8_amountAt_27 rfl (lv_at hl 0 rfl) ?_
      replace h := ob h; obtain ⟨p6, ep6, h⟩ := h
      refine sx_getV C hs fo_X8_7 (gR_v ep6) dX8_amountAt_28 ?_
      refine lv_iload C.1 C.2.1 dX8_amountAt_31 (lv_at hl 4 rfl) ?_
      replace h := ob h; obtain ⟨x7, ex7, h⟩ := h
      refine sx_iald C hs ex7 dX8_amountAt_33 ?_
      refine lv_iload_n C.1 C.2.1 dX8_amountAt_34 rfl (lv_at hl 2 rfl) ?_
      refine lv_icmp_le (tgt := 54) C.1 C.2.1 dX8_amountAt_35 (by decide) (fun c8 => ?_) (fun c8 => ?_)
      · replace h := ip c8 h
        exact t_X8_amountAt_54 C hr h hk7 hs (lv_sub hl [0, 1, 2, 3, 4] rfl)
      · replace h := iN c8 h
        refine lv_aload_n C.1 C.2.1 dX8_amountAt_38 rfl (lv_at hl 0 rfl) ?_
        replace h := ob h; obtain ⟨p9, ep9, h⟩ := h
        refine sx_getV C hs fo_X8_7 (gR_v ep9) dX8_amountAt_39 ?_
        refine lv_iload C.1 C.2.1 dX8_amountAt_42 (lv_at hl 4 rfl) ?_
        replace h := ob h; obtain ⟨x10, ex10, h⟩ := h
        refine sx_iald C hs ex10 dX8_amountAt_44 ?_
        refine lv_istore_n (lv' := [(2, .int x10), (0, .ref a0), (1, .int v1), (3, .int v3), (4, .int v4)]) C.1 C.2.1 dX8_amountAt_45 rfl hl (by decide) rfl (fun ls hl => ?_)
        refine lv_aload_n C.1 C.2.1 dX8_amountAt_46 rfl (lv_at hl 1 rfl) ?_
        replace h := ob h; obtain ⟨p11, ep11, h⟩ := h
        refine sx_getV C hs fo_X8_13 (gR_v ep11) dX8_amountAt_47 ?_
        refine lv_iload C.1 C.2.1 dX8_amountAt_50 (lv_at hl 4 rfl) ?_
        replace h := ob h; obtain ⟨x12, ex12, h⟩ := h
        refine sx_iald C hs ex12 dX8_amountAt_52 ?_
        refine lv_istore_n (lv' := [(3, .int x12), (2, .int x10), (0, .ref a0), (1, .int v1), (4, .int v4)]) C.1 C.2.1 dX8_amountAt_53 rfl hl (by decide) rfl (fun ls hl => ?_)
        exact t_X8_amountAt_54 C hr h hk7 hs (lv_sub hl [2, 3, 1, 0, 4] rfl)
set_option maxHeartbeats 4000000 in
set_option maxRecDepth 100000 in
theorem tl_X8_amountAt_7 {l : Launch} {g : PP} {p : Program} {e : Env} {s : State} {m : MethodId} {args : Array Value} {below : List Frame} {meth : Method} {c : Code} (C : Cx g p s m meth c cX8_amountAt 5 "Tillhouse$Steps") (hr : meth.sig.returnType = some .int) {N : Nat}   {sz : Nat} {r9 : Int32}  : ∀ (n : Nat) (σ : Sto) (a0 : Nat) (v1 : Int32) (v2 : Int32) (v3 : Int32) (v4 : Int32), lp (fun k e => b_X8_amountAt_7_body N k e.1 e.2.1 e.2.2.1 e.2.2.2.1 e.2.2.2.2.1 e.2.2.2.2.2) n (σ, a0, v1, v2, v3, v4) = some r9 → ∀ (H : Heap) (locs : List Loc) (ls : Array Slot), HS g s σ sz H locs → lv_has ls 5 [(0, .ref a0), (1, .int v1), (2, .int v2), (3, .int v3), (4, .int v4)] → W p l e (rmk 0 0 0 0) s m args below meth c H locs 0 0 (MQ below (Pst g (vI r9) σ sz) args s 0 0 (Aw g)) (F0 m 7 ls []) := by
  intro n
  induction n with
  | zero => intro σ a0 v1 v2 v3 v4 h; exact absurd h (fun q => nomatch q)
  | succ n ih =>
    intro σ a0 v1 v2 v3 v4 h H locs ls hs hl
    exact tb_X8_amountAt_7 (N := N) C hr h (fun σ a0 v1 v2 v3 v4 h H locs ls hs hl => ih σ a0 v1 v2 v3 v4 h H locs ls hs hl) hs hl
set_option maxHeartbeats 4000000 in
set_option maxRecDepth 100000 in
theorem t_X8_amountAt_7 {l : Launch} {g : PP} {p : Program} {e : Env} {s : State} {m : MethodId} {args : Array Value} {below : List Frame} {meth : Method} {c : Code} (C : Cx g p s m meth c cX8_amountAt 5 "Tillhouse$Steps") (hr : meth.sig.returnType = some .int) {N : Nat}  {σ : Sto} {sz : Nat} {a0 : Nat} {v1 : Int32} {v2 : Int32} {v3 : Int32} {v4 : Int32} {r9 : Int32}
    (h : b_X8_amountAt_7 N σ a0 v1 v2 v3 v4 = some r9) 
    {H : Heap} {locs : List Loc} {ls : Array Slot} (hs : HS g s σ sz H locs) (hl : lv_has ls 5 [(0, .ref a0), (1, .int v1), (2, .int v2), (3, .int v3), (4, .int v4)]) : W p l e (rmk 0 0 0 0) s m args below meth c H locs 0 0 (MQ below (Pst g (vI r9) σ sz) args s 0 0 (Aw g)) (F0 m 7 ls []) := tl_X8_amountAt_7 C hr N σ a0 v1 v2 v3 v4 h H locs ls hs hl
set_option maxHeartbeats 4000000 in
set_option maxRecDepth 100000 in
theorem c_X8_amountAt {l : Launch} {g : PP} {N : Nat} {σ : Sto} {sz : Nat} {a0 : Nat} {v1 : Int32} {r9 : Int32} (h : f_X8_amountAt N σ a0 v1 = some r9) : Met l yX8_amountAt [Cond.code yX8_amountAt cX8_amountAt 5 (some .int)] (rmk 0 0 0 0) (Pre g σ sz [.ref a0, .int v1]) (Pst g (vI r9) σ sz) 0 0 (Aw g) := by
  refine Met.ofW (cc := cX8_amountAt) (maxL := 5) (ret := (some .int)) (by decide) rfl ?_
  intro p e s m args below meth c s₁ B hml hv
  obtain ⟨rfl, C, hs⟩ := ctx_of B hml hv
  have C : Cx g p s m meth c cX8_amountAt 5 "Tillhouse$Steps" := C
  have hr := B.returns
  have hl := lv_entry ([.ref a0, .int v1]) (n := 5) (Nat.le_of_ble_eq_true rfl)
  rw [lg_entry_eq]
  generalize (lg_sl ([.ref a0, .int v1]) ++ List.replicate (5 - (lg_sl ([.ref a0, .int v1])).length) Slot.unset).toArray = ls at hl ⊢
  have hl : lv_has ls 5 [(0, .ref a0), (1, .int v1)] := hl
  unfold f_X8_amountAt at h
  refine lv_iconst (v := (-1)) C.1 C.2.1 dX8_amountAt_0 (by decide) ?_
  refine lv_istore_n (lv' := [(2, .int (-1)), (0, .ref a0), (1, .int v1)]) C.1 C.2.1 dX8_amountAt_1 rfl hl (by decide) rfl (fun ls hl => ?_)
  refine lv_iconst (v := 0) C.1 C.2.1 dX8_amountAt_2 (by decide) ?_
  refine lv_istore_n (lv' := [(3, .int 0), (2, .int (-1)), (0, .ref a0), (1, .int v1)]) C.1 C.2.1 dX8_amountAt_3 rfl hl (by decide) rfl (fun ls hl => ?_)
  refine lv_iconst (v := 0) C.1 C.2.1 dX8_amountAt_4 (by decide) ?_
  refine lv_istore (lv' := [(4, .int 0), (3, .int 0), (2, .int (-1)), (0, .ref a0), (1, .int v1)]) C.1 C.2.1 dX8_amountAt_5 hl (by decide) rfl (fun ls hl => ?_)
  exact t_X8_amountAt_7 C hr h hs (lv_sub hl [3, 4, 2, 1, 0] rfl)
def f_X9_init (σ : Sto) (sz : Nat) (a0 : Nat) : Option (Unit × Sto × Nat) :=
 lt_ (nA σ sz 0 24 z1) fun τ1 =>
 (pF τ1 a0 8 0 (.ref sz)).bind fun τ2 =>
 (pF τ2 a0 8 1 (.int 0)).bind fun τ3 =>
 some ((), τ3, sz + 1)
set_option maxHeartbeats 4000000 in
set_option maxRecDepth 100000 in
theorem c_X9_init {l : Launch} {g : PP} {σ : Sto} {sz : Nat} {a0 : Nat} {r9 : Unit} {σ9 : Sto} {sz9 : Nat} (h : f_X9_init σ sz a0 = some (r9, σ9, sz9)) : Met l yX9_init [Cond.code yX9_init cX9_init 1 none] (rmk 1 1 24 20) (Pre g σ sz [.ref a0]) (Pst g (vV r9) σ9 sz9) 1 24 (Aw g) := by
  refine Met.ofW (cc := cX9_init) (maxL := 1) (ret := none) (by decide) rfl ?_
  intro p e s m args below meth c s₁ B hml hv
  obtain ⟨rfl, C, hs⟩ := ctx_of B hml hv
  have C : Cx g p s m meth c cX9_init 1 "Tillhouse$Text" := C
  have hr := B.returns
  have hin : meth.name = "<init>" := (name_of_methodNamed B.named B.method).1
  have hl := lv_entry ([.ref a0]) (n := 1) (Nat.le_of_ble_eq_true rfl)
  rw [lg_entry_eq]
  generalize (lg_sl ([.ref a0]) ++ List.replicate (1 - (lg_sl ([.ref a0])).length) Slot.unset).toArray = ls at hl ⊢
  have hl : lv_has ls 1 [(0, .ref a0)] := hl
  unfold f_X9_init at h
  refine lv_aload_n C.1 C.2.1 dX9_init_0 rfl (lv_at hl 0 rfl) ?_
  refine sx_objInit C hl q103 qobj1 qobj2 dX9_init_1 (Nat.le_of_ble_eq_true rfl) (Nat.le_of_ble_eq_true rfl) ?_
  refine lv_aload_n C.1 C.2.1 dX9_init_4 rfl (lv_at hl 0 rfl) ?_
  refine lv_bipush (v := 24) C.1 C.2.1 dX9_init_5 (by decide) ?_
  replace h := ol h; obtain ⟨τ1, eτ1, h⟩ := h
  refine sx_newa (atype := .char) (k := 0) (N := 24) (f := z1) C hs (by decide) rfl q111 (fun _ => rfl) (by decide) (by decide +kernel) (Nat.le_of_ble_eq_true rfl) (Nat.le_of_ble_eq_true rfl) (Nat.le_of_ble_eq_true rfl) dX9_init_7 (fun H hs => ?_)
  replace hs := HS.nm eτ1 hs
  replace h := ob h; obtain ⟨τ2, eτ2, h⟩ := h
  refine sx_putF C hs fi_X9_11 hin rfl rfl eτ2 dX9_init_9 (fun H locs hs => ?_)
  refine lv_aload_n C.1 C.2.1 dX9_init_12 rfl (lv_at hl 0 rfl) ?_
  refine lv_iconst (v := 0) C.1 C.2.1 dX9_init_13 (by decide) ?_
  replace h := ob h; obtain ⟨τ3, eτ3, h⟩ := h
  refine sx_put C hs fp_X9_15 rfl rfl eτ3 dX9_init_14 (fun H locs hs => ?_)
  cases h
  exact sx_vret C hs hr dX9_init_17
def f_X9_isFull (σ : Sto) (a0 : Nat) : Option Int32 :=
 (gI σ a0 8 1).bind fun x1 =>
 if x1 < 24 then
 some (0)
 else
 some (1)
set_option maxHeartbeats 4000000 in
set_option maxRecDepth 100000 in
theorem c_X9_isFull {l : Launch} {g : PP} {σ : Sto} {sz : Nat} {a0 : Nat} {r9 : Int32} (h : f_X9_isFull σ a0 = some r9) : Met l yX9_isFull [Cond.code yX9_isFull cX9_isFull 1 (some .boolean)] (rmk 0 0 0 0) (Pre g σ sz [.ref a0]) (Pst g (vI r9) σ sz) 0 0 (Aw g) := by
  refine Met.ofW (cc := cX9_isFull) (maxL := 1) (ret := (some .boolean)) (by decide) rfl ?_
  intro p e s m args below meth c s₁ B hml hv
  obtain ⟨rfl, C, hs⟩ := ctx_of B hml hv
  have C : Cx g p s m meth c cX9_isFull 1 "Tillhouse$Text" := C
  have hr := B.returns
  have hl := lv_entry ([.ref a0]) (n := 1) (Nat.le_of_ble_eq_true rfl)
  rw [lg_entry_eq]
  generalize (lg_sl ([.ref a0]) ++ List.replicate (1 - (lg_sl ([.ref a0])).length) Slot.unset).toArray = ls at hl ⊢
  have hl : lv_has ls 1 [(0, .ref a0)] := hl
  unfold f_X9_isFull at h
  refine lv_aload_n C.1 C.2.1 dX9_isFull_0 rfl (lv_at hl 0 rfl) ?_
  replace h := ob h; obtain ⟨x1, ex1, h⟩ := h
  refine sx_getV C hs fo_X9_15 (gI_v ex1) dX9_isFull_1 ?_
  refine lv_bipush (v := 24) C.1 C.2.1 dX9_isFull_4 (by decide) ?_
  refine lv_icmp_lt (tgt := 13) C.1 C.2.1 dX9_isFull_6 (by decide) (fun c2 => ?_) (fun c2 => ?_)
  · replace h := ip c2 h
    refine lv_iconst (v := 0) C.1 C.2.1 dX9_isFull_13 (by decide) ?_
    cases h
    exact sx_iret C hs hr (by decide) dX9_isFull_14
  · replace h := iN c2 h
    refine lv_iconst (v := 1) C.1 C.2.1 dX9_isFull_9 (by decide) ?_
    refine lv_goto (tgt := 14) C.1 C.2.1 dX9_isFull_10 (by decide) ?_
    cases h
    exact sx_iret C hs hr (by decide) dX9_isFull_14
def f_X9_add (σ : Sto) (a0 : Nat) (v1 : Int32) : Option (Int32 × Sto) :=
 (gI σ a0 8 1).bind fun x1 =>
 if 24 ≤ x1 then
 (gI σ a0 8 1).bind fun x3 =>
 some (x3, σ)
 else
 (gR σ a0 8 0).bind fun p4 =>
 (gI σ a0 8 1).bind fun x5 =>
 (sI σ p4 0 x5 (nC v1)).bind fun τ6 =>
 (gI τ6 a0 8 1).bind fun x7 =>
 (pF τ6 a0 8 1 (.int (x7 + 1))).bind fun τ8 =>
 (gI τ8 a0 8 1).bind fun x9 =>
 some (x9, τ8)
set_option maxHeartbeats 4000000 in
set_option maxRecDepth 100000 in
theorem c_X9_add {l : Launch} {g : PP} {σ : Sto} {sz : Nat} {a0 : Nat} {v1 : Int32} {r9 : Int32} {σ9 : Sto} (h : f_X9_add σ a0 v1 = some (r9, σ9)) : Met l yX9_add [Cond.code yX9_add cX9_add 2 (some .int)] (rmk 0 0 0 0) (Pre g σ sz [.ref a0, .int v1]) (Pst g (vI r9) σ9 sz) 0 0 (Aw g) := by
  refine Met.ofW (cc := cX9_add) (maxL := 2) (ret := (some .int)) (by decide) rfl ?_
  intro p e s m args below meth c s₁ B hml hv
  obtain ⟨rfl, C, hs⟩ := ctx_of B hml hv
  have C : Cx g p s m meth c cX9_add 2 "Tillhouse$Text" := C
  have hr := B.returns
  have hl := lv_entry ([.ref a0, .int v1]) (n := 2) (Nat.le_of_ble_eq_true rfl)
  rw [lg_entry_eq]
  generalize (lg_sl ([.ref a0, .int v1]) ++ List.replicate (2 - (lg_sl ([.ref a0, .int v1])).length) Slot.unset).toArray = ls at hl ⊢
  have hl : lv_has ls 2 [(0, .ref a0), (1, .int v1)] := hl
  unfold f_X9_add at h
  refine lv_aload_n C.1 C.2.1 dX9_add_0 rfl (lv_at hl 0 rfl) ?_
  replace h := ob h; obtain ⟨x1, ex1, h⟩ := h
  refine sx_getV C hs fo_X9_15 (gI_v ex1) dX9_add_1 ?_
  refine lv_bipush (v := 24) C.1 C.2.1 dX9_add_4 (by decide) ?_
  refine lv_icmp_ge (tgt := 29) C.1 C.2.1 dX9_add_6 (by decide) (fun c2 => ?_) (fun c2 => ?_)
  · replace h := ip c2 h
    refine lv_aload_n C.1 C.2.1 dX9_add_29 rfl (lv_at hl 0 rfl) ?_
    replace h := ob h; obtain ⟨x3, ex3, h⟩ := h
    refine sx_getV C hs fo_X9_15 (gI_v ex3) dX9_add_30 ?_
    cases h
    exact sx_iret C hs hr rfl dX9_add_33
  · replace h := iN c2 h
    refine lv_aload_n C.1 C.2.1 dX9_add_9 rfl (lv_at hl 0 rfl) ?_
    replace h := ob h; obtain ⟨p4, ep4, h⟩ := h
    refine sx_getV C hs fo_X9_11 (gR_v ep4) dX9_add_10 ?_
    refine lv_aload_n C.1 C.2.1 dX9_add_13 rfl (lv_at hl 0 rfl) ?_
    replace h := ob h; obtain ⟨x5, ex5, h⟩ := h
    refine sx_getV C hs fo_X9_15 (gI_v ex5) dX9_add_14 ?_
    refine lv_iload_n C.1 C.2.1 dX9_add_17 rfl (lv_at hl 1 rfl) ?_
    replace h := ob h; obtain ⟨τ6, eτ6, h⟩ := h
    refine sx_cast C hs eτ6 dX9_add_18 (fun H locs hs => ?_)
    refine lv_aload_n C.1 C.2.1 dX9_add_19 rfl (lv_at hl 0 rfl) ?_
    refine lv_dup C.1 C.2.1 dX9_add_20 rfl ?_
    replace h := ob h; obtain ⟨x7, ex7, h⟩ := h
    refine sx_getV C hs fo_X9_15 (gI_v ex7) dX9_add_21 ?_
    refine lv_iconst (v := 1) C.1 C.2.1 dX9_add_24 (by decide) ?_
    refine lv_iadd C.1 C.2.1 dX9_add_25 ?_
    replace h := ob h; obtain ⟨τ8, eτ8, h⟩ := h
    refine sx_put C hs fp_X9_15 rfl rfl eτ8 dX9_add_26 (fun H locs hs => ?_)
    refine lv_aload_n C.1 C.2.1 dX9_add_29 rfl (lv_at hl 0 rfl) ?_
    replace h := ob h; obtain ⟨x9, ex9, h⟩ := h
    refine sx_getV C hs fo_X9_15 (gI_v ex9) dX9_add_30 ?_
    cases h
    exact sx_iret C hs hr rfl dX9_add_33
def f_X9_empty (σ : Sto) (a0 : Nat) : Option (Int32 × Sto) :=
 (gI σ a0 8 1).bind fun x1 =>
 (pF σ a0 8 1 (.int 0)).bind fun τ2 =>
 some (x1, τ2)
set_option maxHeartbeats 4000000 in
set_option maxRecDepth 100000 in
theorem c_X9_empty {l : Launch} {g : PP} {σ : Sto} {sz : Nat} {a0 : Nat} {r9 : Int32} {σ9 : Sto} (h : f_X9_empty σ a0 = some (r9, σ9)) : Met l yX9_empty [Cond.code yX9_empty cX9_empty 2 (some .int)] (rmk 0 0 0 0) (Pre g σ sz [.ref a0]) (Pst g (vI r9) σ9 sz) 0 0 (Aw g) := by
  refine Met.ofW (cc := cX9_empty) (maxL := 2) (ret := (some .int)) (by decide) rfl ?_
  intro p e s m args below meth c s₁ B hml hv
  obtain ⟨rfl, C, hs⟩ := ctx_of B hml hv
  have C : Cx g p s m meth c cX9_empty 2 "Tillhouse$Text" := C
  have hr := B.returns
  have hl := lv_entry ([.ref a0]) (n := 2) (Nat.le_of_ble_eq_true rfl)
  rw [lg_entry_eq]
  generalize (lg_sl ([.ref a0]) ++ List.replicate (2 - (lg_sl ([.ref a0])).length) Slot.unset).toArray = ls at hl ⊢
  have hl : lv_has ls 2 [(0, .ref a0)] := hl
  unfold f_X9_empty at h
  refine lv_aload_n C.1 C.2.1 dX9_empty_0 rfl (lv_at hl 0 rfl) ?_
  replace h := ob h; obtain ⟨x1, ex1, h⟩ := h
  refine sx_getV C hs fo_X9_15 (gI_v ex1) dX9_empty_1 ?_
  refine lv_istore_n (lv' := [(1, .int x1), (0, .ref a0)]) C.1 C.2.1 dX9_empty_4 rfl hl (by decide) rfl (fun ls hl => ?_)
  refine lv_aload_n C.1 C.2.1 dX9_empty_5 rfl (lv_at hl 1 rfl) ?_
  refine lv_iconst (v := 0) C.1 C.2.1 dX9_empty_6 (by decide) ?_
  replace h := ob h; obtain ⟨τ2, eτ2, h⟩ := h
  refine sx_put C hs fp_X9_15 rfl rfl eτ2 dX9_empty_7 (fun H locs hs => ?_)
  refine lv_iload_n C.1 C.2.1 dX9_empty_10 rfl (lv_at hl 0 rfl) ?_
  cases h
  exact sx_iret C hs hr rfl dX9_empty_11
def f_X9_isPlusOrMinus (v0 : Int32) : Option Int32 :=
 if v0 = 43 then
 some (1)
 else
 if v0 = 45 then
 some (1)
 else
 some (0)
set_option maxHeartbeats 4000000 in
set_option maxRecDepth 100000 in
theorem c_X9_isPlusOrMinus {l : Launch} {g : PP} {σ : Sto} {sz : Nat} {v0 : Int32} {r9 : Int32} (h : f_X9_isPlusOrMinus v0 = some r9) : Met l yX9_isPlusOrMinus [Cond.code yX9_isPlusOrMinus cX9_isPlusOrMinus 1 (some .boolean)] (rmk 0 0 0 0) (Pre g σ sz [.int v0]) (Pst g (vI r9) σ sz) 0 0 (Aw g) := by
  refine Met.ofW (cc := cX9_isPlusOrMinus) (maxL := 1) (ret := (some .boolean)) (by decide) rfl ?_
  intro p e s m args below meth c s₁ B hml hv
  obtain ⟨rfl, C, hs⟩ := ctx_of B hml hv
  have C : Cx g p s m meth c cX9_isPlusOrMinus 1 "Tillhouse$Text" := C
  have hr := B.returns
  have hl := lv_entry ([.int v0]) (n := 1) (Nat.le_of_ble_eq_true rfl)
  rw [lg_entry_eq]
  generalize (lg_sl ([.int v0]) ++ List.replicate (1 - (lg_sl ([.int v0])).length) Slot.unset).toArray = ls at hl ⊢
  have hl : lv_has ls 1 [(0, .int v0)] := hl
  unfold f_X9_isPlusOrMinus at h
  refine lv_iload_n C.1 C.2.1 dX9_isPlusOrMinus_0 rfl (lv_at hl 0 rfl) ?_
  refine lv_bipush (v := 43) C.1 C.2.1 dX9_isPlusOrMinus_1 (by decide) ?_
  refine lv_icmp_eq (tgt := 12) C.1 C.2.1 dX9_isPlusOrMinus_3 (by decide) (fun c1 => ?_) (fun c1 => ?_)
  · replace h := ip c1 h
    refine lv_iconst (v := 1) C.1 C.2.1 dX9_isPlusOrMinus_12 (by decide) ?_
    refine lv_goto (tgt := 17) C.1 C.2.1 dX9_isPlusOrMinus_13 (by decide) ?_
    cases h
    exact sx_iret C hs hr (by decide) dX9_isPlusOrMinus_17
  · replace h := iN c1 h
    refine lv_iload_n C.1 C.2.1 dX9_isPlusOrMinus_6 rfl (lv_at hl 0 rfl) ?_
    refine lv_bipush (v := 45) C.1 C.2.1 dX9_isPlusOrMinus_7 (by decide) ?_
    refine lv_icmp_ne (tgt := 16) C.1 C.2.1 dX9_isPlusOrMinus_9 (by decide) (fun c2 => ?_) (fun c2 => ?_)
    · replace h := iN c2 h
      refine lv_iconst (v := 0) C.1 C.2.1 dX9_isPlusOrMinus_16 (by decide) ?_
      cases h
      exact sx_iret C hs hr (by decide) dX9_isPlusOrMinus_17
    · replace h := ip c2 h
      refine lv_iconst (v := 1) C.1 C.2.1 dX9_isPlusOrMinus_12 (by decide) ?_
      refine lv_goto (tgt := 17) C.1 C.2.1 dX9_isPlusOrMinus_13 (by decide) ?_
      cases h
      exact sx_iret C hs hr (by decide) dX9_isPlusOrMinus_17
def f_X9_isDigit (v0 : Int32) : Option Int32 :=
 if v0 < 48 then
 some (0)
 else
 if 57 < v0 then
 some (0)
 else
 some (1)
set_option maxHeartbeats 4000000 in
set_option maxRecDepth 100000 in
theorem c_X9_isDigit {l : Launch} {g : PP} {σ : Sto} {sz : Nat} {v0 : Int32} {r9 : Int32} (h : f_X9_isDigit v0 = some r9) : Met l yX9_isDigit [Cond.code yX9_isDigit cX9_isDigit 1 (some .boolean)] (rmk 0 0 0 0) (Pre g σ sz [.int v0]) (Pst g (vI r9) σ sz) 0 0 (Aw g) := by
  refine Met.ofW (cc := cX9_isDigit) (maxL := 1) (ret := (some .boolean)) (by decide) rfl ?_
  intro p e s m args below meth c s₁ B hml hv
  obtain ⟨rfl, C, hs⟩ := ctx_of B hml hv
  have C : Cx g p s m meth c cX9_isDigit 1 "Tillhouse$Text" := C
  have hr := B.returns
  have hl := lv_entry ([.int v0]) (n := 1) (Nat.le_of_ble_eq_true rfl)
  rw [lg_entry_eq]
  generalize (lg_sl ([.int v0]) ++ List.replicate (1 - (lg_sl ([.int v0])).length) Slot.unset).toArray = ls at hl ⊢
  have hl : lv_has ls 1 [(0, .int v0)] := hl
  unfold f_X9_isDigit at h
  refine lv_iload_n C.1 C.2.1 dX9_isDigit_0 rfl (lv_at hl 0 rfl) ?_
  refine lv_bipush (v := 48) C.1 C.2.1 dX9_isDigit_1 (by decide) ?_
  refine lv_icmp_lt (tgt := 16) C.1 C.2.1 dX9_isDigit_3 (by decide) (fun c1 => ?_) (fun c1 => ?_)
  · replace h := ip c1 h
    refine lv_iconst (v := 0) C.1 C.2.1 dX9_isDigit_16 (by decide) ?_
    cases h
    exact sx_iret C hs hr (by decide) dX9_isDigit_17
  · replace h := iN c1 h
    refine lv_iload_n C.1 C.2.1 dX9_isDigit_6 rfl (lv_at hl 0 rfl) ?_
    refine lv_bipush (v := 57) C.1 C.2.1 dX9_isDigit_7 (by decide) ?_
    refine lv_icmp_gt (tgt := 16) C.1 C.2.1 dX9_isDigit_9 (by decide) (fun c2 => ?_) (fun c2 => ?_)
    · replace h := ip c2 h
      refine lv_iconst (v := 0) C.1 C.2.1 dX9_isDigit_16 (by decide) ?_
      cases h
      exact sx_iret C hs hr (by decide) dX9_isDigit_17
    · replace h := iN c2 h
      refine lv_iconst (v := 1) C.1 C.2.1 dX9_isDigit_12 (by decide) ?_
      refine lv_goto (tgt := 17) C.1 C.2.1 dX9_isDigit_13 (by decide) ?_
      cases h
      exact sx_iret C hs hr (by decide) dX9_isDigit_17
def f_X9_nextIfDigit (v0 : Int32) (v1 : Int32) : Option Int32 :=
 (f_X9_isDigit v1).bind fun x1 =>
 if x1 = 0 then
 some ((-1))
 else
 some (v0)
set_option maxHeartbeats 4000000 in
set_option maxRecDepth 100000 in
theorem c_X9_nextIfDigit {l : Launch} {g : PP} {σ : Sto} {sz : Nat} {v0 : Int32} {v1 : Int32} {r9 : Int32} (h : f_X9_nextIfDigit v0 v1 = some r9) : Met l yX9_nextIfDigit [Cond.code yX9_nextIfDigit cX9_nextIfDigit 2 (some .int)] (rmk 1 0 0 20) (Pre g σ sz [.int v0, .int v1]) (Pst g (vI r9) σ sz) 0 0 (Aw g) := by
  refine Met.ofW (cc := cX9_nextIfDigit) (maxL := 2) (ret := (some .int)) (by decide) rfl ?_
  intro p e s m args below meth c s₁ B hml hv
  obtain ⟨rfl, C, hs⟩ := ctx_of B hml hv
  have C : Cx g p s m meth c cX9_nextIfDigit 2 "Tillhouse$Text" := C
  have hr := B.returns
  have hl := lv_entry ([.int v0, .int v1]) (n := 2) (Nat.le_of_ble_eq_true rfl)
  rw [lg_entry_eq]
  generalize (lg_sl ([.int v0, .int v1]) ++ List.replicate (2 - (lg_sl ([.int v0, .int v1])).length) Slot.unset).toArray = ls at hl ⊢
  have hl : lv_has ls 2 [(0, .int v0), (1, .int v1)] := hl
  unfold f_X9_nextIfDigit at h
  refine lv_iload_n C.1 C.2.1 dX9_nextIfDigit_0 rfl (lv_at hl 1 rfl) ?_
  replace h := ob h; obtain ⟨x1, ex1, h⟩ := h
  refine sx_callS (As := [.int v1]) (rest := []) C hs (c_X9_isDigit ex1) mo_X9_isDigit q299 rfl hl.1 ⟨⟨(Nat.le_of_ble_eq_true rfl), (Nat.le_of_ble_eq_true rfl)⟩, (Nat.le_of_ble_eq_true rfl), (Nat.le_of_ble_eq_true rfl)⟩ rfl (Nat.le_of_ble_eq_true rfl) dX9_nextIfDigit_1 (fun H locs hs => ?_)
  refine W.eq (g2 := F0 m 4 ls [.int x1]) rfl ?_
  refine lv_if_eq (tgt := 11) C.1 C.2.1 dX9_nextIfDigit_4 (by decide) (fun c2 => ?_) (fun c2 => ?_)
  · replace h := ip c2 h
    refine lv_iconst (v := (-1)) C.1 C.2.1 dX9_nextIfDigit_11 (by decide) ?_
    cases h
    exact sx_iret C hs hr rfl dX9_nextIfDigit_12
  · replace h := iN c2 h
    refine lv_iload_n C.1 C.2.1 dX9_nextIfDigit_7 rfl (lv_at hl 0 rfl) ?_
    refine lv_goto (tgt := 12) C.1 C.2.1 dX9_nextIfDigit_8 (by decide) ?_
    cases h
    exact sx_iret C hs hr rfl dX9_nextIfDigit_12
def f_X9_nextBeforeDigits (v0 : Int32) : Option Int32 :=
 if v0 = 46 then
 some (2)
 else
 (f_X9_nextIfDigit 3 v0).bind fun x2 =>
 some (x2)
set_option maxHeartbeats 4000000 in
set_option maxRecDepth 100000 in
theorem c_X9_nextBeforeDigits {l : Launch} {g : PP} {σ : Sto} {sz : Nat} {v0 : Int32} {r9 : Int32} (h : f_X9_nextBeforeDigits v0 = some r9) : Met l yX9_nextBeforeDigits [Cond.code yX9_nextBeforeDigits cX9_nextBeforeDigits 1 (some .int)] (rmk 2 0 0 41) (Pre g σ sz [.int v0]) (Pst g (vI r9) σ sz) 0 0 (Aw g) := by
  refine Met.ofW (cc := cX9_nextBeforeDigits) (maxL := 1) (ret := (some .int)) (by decide) rfl ?_
  intro p e s m args below meth c s₁ B hml hv
  obtain ⟨rfl, C, hs⟩ := ctx_of B hml hv
  have C : Cx g p s m meth c cX9_nextBeforeDigits 1 "Tillhouse$Text" := C
  have hr := B.returns
  have hl := lv_entry ([.int v0]) (n := 1) (Nat.le_of_ble_eq_true rfl)
  rw [lg_entry_eq]
  generalize (lg_sl ([.int v0]) ++ List.replicate (1 - (lg_sl ([.int v0])).length) Slot.unset).toArray = ls at hl ⊢
  have hl : lv_has ls 1 [(0, .int v0)] := hl
  unfold f_X9_nextBeforeDigits at h
  refine lv_iload_n C.1 C.2.1 dX9_nextBeforeDigits_0 rfl (lv_at hl 0 rfl) ?_
  refine lv_bipush (v := 46) C.1 C.2.1 dX9_nextBeforeDigits_1 (by decide) ?_
  refine lv_icmp_ne (tgt := 10) C.1 C.2.1 dX9_nextBeforeDigits_3 (by decide) (fun c1 => ?_) (fun c1 => ?_)
  · replace h := iN c1 h
    refine lv_iconst (v := 3) C.1 C.2.1 dX9_nextBeforeDigits_10 (by decide) ?_
    refine lv_iload_n C.1 C.2.1 dX9_nextBeforeDigits_11 rfl (lv_at hl 0 rfl) ?_
    replace h := ob h; obtain ⟨x2, ex2, h⟩ := h
    refine sx_callS (As := [.int 3, .int v0]) (rest := []) C hs (c_X9_nextIfDigit ex2) mo_X9_nextIfDigit q296 rfl hl.1 ⟨⟨(Nat.le_of_ble_eq_true rfl), (Nat.le_of_ble_eq_true rfl)⟩, (Nat.le_of_ble_eq_true rfl), (Nat.le_of_ble_eq_true rfl)⟩ rfl (Nat.le_of_ble_eq_true rfl) dX9_nextBeforeDigits_12 (fun H locs hs => ?_)
    refine W.eq (g2 := F0 m 15 ls [.int x2]) rfl ?_
    cases h
    exact sx_iret C hs hr rfl dX9_nextBeforeDigits_15
  · replace h := ip c1 h
    refine lv_iconst (v := 2) C.1 C.2.1 dX9_nextBeforeDigits_6 (by decide) ?_
    refine lv_goto (tgt := 15) C.1 C.2.1 dX9_nextBeforeDigits_7 (by decide) ?_
    cases h
    exact sx_iret C hs hr rfl dX9_nextBeforeDigits_15
def f_X9_nextAmongDigits (v0 : Int32) (v1 : Int32) : Option Int32 :=
 if v1 = 101 then
 some (5)
 else
 if v1 = 69 then
 some (5)
 else
 (f_X9_nextIfDigit v0 v1).bind fun x3 =>
 some (x3)
set_option maxHeartbeats 4000000 in
set_option maxRecDepth 100000 in
theorem c_X9_nextAmongDigits {l : Launch} {g : PP} {σ : Sto} {sz : Nat} {v0 : Int32} {v1 : Int32} {r9 : Int32} (h : f_X9_nextAmongDigits v0 v1 = some r9) : Met l yX9_nextAmongDigits [Cond.code yX9_nextAmongDigits cX9_nextAmongDigits 2 (some .int)] (rmk 2 0 0 41) (Pre g σ sz [.int v0, .int v1]) (Pst g (vI r9) σ sz) 0 0 (Aw g) := by
  refine Met.ofW (cc := cX9_nextAmongDigits) (maxL := 2) (ret := (some .int)) (by decide) rfl ?_
  intro p e s m args below meth c s₁ B hml hv
  obtain ⟨rfl, C, hs⟩ := ctx_of B hml hv
  have C : Cx g p s m meth c cX9_nextAmongDigits 2 "Tillhouse$Text" := C
  have hr := B.returns
  have hl := lv_entry ([.int v0, .int v1]) (n := 2) (Nat.le_of_ble_eq_true rfl)
  rw [lg_entry_eq]
  generalize (lg_sl ([.int v0, .int v1]) ++ List.replicate (2 - (lg_sl ([.int v0, .int v1])).length) Slot.unset).toArray = ls at hl ⊢
  have hl : lv_has ls 2 [(0, .int v0), (1, .int v1)] := hl
  unfold f_X9_nextAmongDigits at h
  refine lv_iload_n C.1 C.2.1 dX9_nextAmongDigits_0 rfl (lv_at hl 1 rfl) ?_
  refine lv_bipush (v := 101) C.1 C.2.1 dX9_nextAmongDigits_1 (by decide) ?_
  refine lv_icmp_eq (tgt := 12) C.1 C.2.1 dX9_nextAmongDigits_3 (by decide) (fun c1 => ?_) (fun c1 => ?_)
  · replace h := ip c1 h
    refine lv_iconst (v := 5) C.1 C.2.1 dX9_nextAmongDigits_12 (by decide) ?_
    refine lv_goto (tgt := 21) C.1 C.2.1 dX9_nextAmongDigits_13 (by decide) ?_
    cases h
    exact sx_iret C hs hr rfl dX9_nextAmongDigits_21
  · replace h := iN c1 h
    refine lv_iload_n C.1 C.2.1 dX9_nextAmongDigits_6 rfl (lv_at hl 1 rfl) ?_
    refine lv_bipush (v := 69) C.1 C.2.1 dX9_nextAmongDigits_7 (by decide) ?_
    refine lv_icmp_ne (tgt := 16) C.1 C.2.1 dX9_nextAmongDigits_9 (by decide) (fun c2 => ?_) (fun c2 => ?_)
    · replace h := iN c2 h
      refine lv_iload_n C.1 C.2.1 dX9_nextAmongDigits_16 rfl (lv_at hl 0 rfl) ?_
      refine lv_iload_n C.1 C.2.1 dX9_nextAmongDigits_17 rfl (lv_at hl 1 rfl) ?_
      replace h := ob h; obtain ⟨x3, ex3, h⟩ := h
      refine sx_callS (As := [.int v0, .int v1]) (rest := []) C hs (c_X9_nextIfDigit ex3) mo_X9_nextIfDigit q296 rfl hl.1 ⟨⟨(Nat.le_of_ble_eq_true rfl), (Nat.le_of_ble_eq_true rfl)⟩, (Nat.le_of_ble_eq_true rfl), (Nat.le_of_ble_eq_true rfl)⟩ rfl (Nat.le_of_ble_eq_true rfl) dX9_nextAmongDigits_18 (fun H locs hs => ?_)
      refine W.eq (g2 := F0 m 21 ls [.int x3]) rfl ?_
      cases h
      exact sx_iret C hs hr rfl dX9_nextAmongDigits_21
    · replace h := ip c2 h
      refine lv_iconst (v := 5) C.1 C.2.1 dX9_nextAmongDigits_12 (by decide) ?_
      refine lv_goto (tgt := 21) C.1 C.2.1 dX9_nextAmongDigits_13 (by decide) ?_
      cases h
      exact sx_iret C hs hr rfl dX9_nextAmongDigits_21
def f_X9_next (v0 : Int32) (v1 : Int32) : Option Int32 :=
 if v0 = 0 then
 (f_X9_isPlusOrMinus v1).bind fun x2 =>
 if x2 = 0 then
 (f_X9_nextBeforeDigits v1).bind fun x4 =>
 some (x4)
 else
 some (1)
 else
 if v0 = 1 then
 (f_X9_nextBeforeDigits v1).bind fun x6 =>
 some (x6)
 else
 if v0 = 2 then
 (f_X9_isDigit v1).bind fun x8 =>
 if x8 = 0 then
 some ((-1))
 else
 some (4)
 else
 if v0 = 3 then
 if v1 = 46 then
 some (4)
 else
 (f_X9_nextAmongDigits 3 v1).bind fun x12 =>
 some (x12)
 else
 if v0 = 4 then
 (f_X9_nextAmongDigits 4 v1).bind fun x14 =>
 some (x14)
 else
 if v0 = 5 then
 (f_X9_isPlusOrMinus v1).bind fun x16 =>
 if x16 = 0 then
 (f_X9_nextIfDigit 7 v1).bind fun x18 =>
 some (x18)
 else
 some (6)
 else
 if v0 = 6 then
 (f_X9_nextIfDigit 7 v1).bind fun x20 =>
 some (x20)
 else
 if v0 = 7 then
 (f_X9_nextIfDigit 8 v1).bind fun x22 =>
 some (x22)
 else
 if v0 = 8 then
 (f_X9_nextIfDigit 9 v1).bind fun x24 =>
 some (x24)
 else
 some ((-1))
set_option maxHeartbeats 4000000 in
set_option maxRecDepth 100000 in
theorem c_X9_next {l : Launch} {g : PP} {σ : Sto} {sz : Nat} {v0 : Int32} {v1 : Int32} {r9 : Int32} (h : f_X9_next v0 v1 = some r9) : Met l yX9_next [Cond.code yX9_next cX9_next 2 (some .int)] (rmk 3 0 0 62) (Pre g σ sz [.int v0, .int v1]) (Pst g (vI r9) σ sz) 0 0 (Aw g) := by
  refine Met.ofW (cc := cX9_next) (maxL := 2) (ret := (some .int)) (by decide) rfl ?_
  intro p e s m args below meth c s₁ B hml hv
  obtain ⟨rfl, C, hs⟩ := ctx_of B hml hv
  have C : Cx g p s m meth c cX9_next 2 "Tillhouse$Text" := C
  have hr := B.returns
  have hl := lv_entry ([.int v0, .int v1]) (n := 2) (Nat.le_of_ble_eq_true rfl)
  rw [lg_entry_eq]
  generalize (lg_sl ([.int v0, .int v1]) ++ List.replicate (2 - (lg_sl ([.int v0, .int v1])).length) Slot.unset).toArray = ls at hl ⊢
  have hl : lv_has ls 2 [(0, .int v0), (1, .int v1)] := hl
  unfold f_X9_next at h
  refine lv_iload_n C.1 C.2.1 dX9_next_0 rfl (lv_at hl 0 rfl) ?_
  rcases Decidable.em (v0 = 0) with c1 | c1
  · replace h := ip c1 h
    refine sx_tblK (tgt := 52) (off := 51) 0 C dX9_next_1 c1 (by decide) (by decide) ?_
    refine lv_iload_n C.1 C.2.1 dX9_next_52 rfl (lv_at hl 1 rfl) ?_
    replace h := ob h; obtain ⟨x2, ex2, h⟩ := h
    refine sx_callS (As := [.int v1]) (rest := []) C hs (c_X9_isPlusOrMinus ex2) mo_X9_isPlusOrMinus q290 rfl hl.1 ⟨⟨(Nat.le_of_ble_eq_true rfl), (Nat.le_of_ble_eq_true rfl)⟩, (Nat.le_of_ble_eq_true rfl), (Nat.le_of_ble_eq_true rfl)⟩ rfl (Nat.le_of_ble_eq_true rfl) dX9_next_53 (fun H locs hs => ?_)
    refine W.eq (g2 := F0 m 56 ls [.int x2]) rfl ?_
    refine lv_if_eq (tgt := 63) C.1 C.2.1 dX9_next_56 (by decide) (fun c3 => ?_) (fun c3 => ?_)
    · replace h := ip c3 h
      refine lv_iload_n C.1 C.2.1 dX9_next_63 rfl (lv_at hl 1 rfl) ?_
      replace h := ob h; obtain ⟨x4, ex4, h⟩ := h
      refine sx_callS (As := [.int v1]) (rest := []) C hs (c_X9_nextBeforeDigits ex4) mo_X9_nextBeforeDigits q293 rfl hl.1 ⟨⟨(Nat.le_of_ble_eq_true rfl), (Nat.le_of_ble_eq_true rfl)⟩, (Nat.le_of_ble_eq_true rfl), (Nat.le_of_ble_eq_true rfl)⟩ rfl (Nat.le_of_ble_eq_true rfl) dX9_next_64 (fun H locs hs => ?_)
      refine W.eq (g2 := F0 m 67 ls [.int x4]) rfl ?_
      cases h
      exact sx_iret C hs hr rfl dX9_next_67
    · replace h := iN c3 h
      refine lv_iconst (v := 1) C.1 C.2.1 dX9_next_59 (by decide) ?_
      refine lv_goto (tgt := 67) C.1 C.2.1 dX9_next_60 (by decide) ?_
      cases h
      exact sx_iret C hs hr rfl dX9_next_67
  · replace h := iN c1 h
    rcases Decidable.em (v0 = 1) with c5 | c5
    · replace h := ip c5 h
      refine sx_tblK (tgt := 68) (off := 67) 1 C dX9_next_1 c5 (by decide) (by decide) ?_
      refine lv_iload_n C.1 C.2.1 dX9_next_68 rfl (lv_at hl 1 rfl) ?_
      replace h := ob h; obtain ⟨x6, ex6, h⟩ := h
      refine sx_callS (As := [.int v1]) (rest := []) C hs (c_X9_nextBeforeDigits ex6) mo_X9_nextBeforeDigits q293 rfl hl.1 ⟨⟨(Nat.le_of_ble_eq_true rfl), (Nat.le_of_ble_eq_true rfl)⟩, (Nat.le_of_ble_eq_true rfl), (Nat.le_of_ble_eq_true rfl)⟩ rfl (Nat.le_of_ble_eq_true rfl) dX9_next_69 (fun H locs hs => ?_)
      refine W.eq (g2 := F0 m 72 ls [.int x6]) rfl ?_
      cases h
      exact sx_iret C hs hr rfl dX9_next_72
    · replace h := iN c5 h
      rcases Decidable.em (v0 = 2) with c7 | c7
      · replace h := ip c7 h
        refine sx_tblK (tgt := 89) (off := 88) 2 C dX9_next_1 c7 (by decide) (by decide) ?_
        refine lv_iload_n C.1 C.2.1 dX9_next_89 rfl (lv_at hl 1 rfl) ?_
        replace h := ob h; obtain ⟨x8, ex8, h⟩ := h
        refine sx_callS (As := [.int v1]) (rest := []) C hs (c_X9_isDigit ex8) mo_X9_isDigit q299 rfl hl.1 ⟨⟨(Nat.le_of_ble_eq_true rfl), (Nat.le_of_ble_eq_true rfl)⟩, (Nat.le_of_ble_eq_true rfl), (Nat.le_of_ble_eq_true rfl)⟩ rfl (Nat.le_of_ble_eq_true rfl) dX9_next_90 (fun H locs hs => ?_)
        refine W.eq (g2 := F0 m 93 ls [.int x8]) rfl ?_
        refine lv_if_eq (tgt := 100) C.1 C.2.1 dX9_next_93 (by decide) (fun c9 => ?_) (fun c9 => ?_)
        · replace h := ip c9 h
          refine lv_iconst (v := (-1)) C.1 C.2.1 dX9_next_100 (by decide) ?_
          cases h
          exact sx_iret C hs hr rfl dX9_next_101
        · replace h := iN c9 h
          refine lv_iconst (v := 4) C.1 C.2.1 dX9_next_96 (by decide) ?_
          refine lv_goto (tgt := 101) C.1 C.2.1 dX9_next_97 (by decide) ?_
          cases h
          exact sx_iret C hs hr rfl dX9_next_101
      · replace h := iN c7 h
        rcases Decidable.em (v0 = 3) with c10 | c10
        · replace h := ip c10 h
          refine sx_tblK (tgt := 73) (off := 72) 3 C dX9_next_1 c10 (by decide) (by decide) ?_
          refine lv_iload_n C.1 C.2.1 dX9_next_73 rfl (lv_at hl 1 rfl) ?_
          refine lv_bipush (v := 46) C.1 C.2.1 dX9_next_74 (by decide) ?_
          refine lv_icmp_ne (tgt := 83) C.1 C.2.1 dX9_next_76 (by decide) (fun c11 => ?_) (fun c11 => ?_)
          · replace h := iN c11 h
            refine lv_iconst (v := 3) C.1 C.2.1 dX9_next_83 (by decide) ?_
            refine lv_iload_n C.1 C.2.1 dX9_next_84 rfl (lv_at hl 1 rfl) ?_
            replace h := ob h; obtain ⟨x12, ex12, h⟩ := h
            refine sx_callS (As := [.int 3, .int v1]) (rest := []) C hs (c_X9_nextAmongDigits ex12) mo_X9_nextAmongDigits q302 rfl hl.1 ⟨⟨(Nat.le_of_ble_eq_true rfl), (Nat.le_of_ble_eq_true rfl)⟩, (Nat.le_of_ble_eq_true rfl), (Nat.le_of_ble_eq_true rfl)⟩ rfl (Nat.le_of_ble_eq_true rfl) dX9_next_85 (fun H locs hs => ?_)
            refine W.eq (g2 := F0 m 88 ls [.int x12]) rfl ?_
            cases h
            exact sx_iret C hs hr rfl dX9_next_88
          · replace h := ip c11 h
            refine lv_iconst (v := 4) C.1 C.2.1 dX9_next_79 (by decide) ?_
            refine lv_goto (tgt := 88) C.1 C.2.1 dX9_next_80 (by decide) ?_
            cases h
            exact sx_iret C hs hr rfl dX9_next_88
        · replace h := iN c10 h
          rcases Decidable.em (v0 = 4) with c13 | c13
          · replace h := ip c13 h
            refine sx_tblK (tgt := 102) (off := 101) 4 C dX9_next_1 c13 (by decide) (by decide) ?_
            refine lv_iconst (v := 4) C.1 C.2.1 dX9_next_102 (by decide) ?_
            refine lv_iload_n C.1 C.2.1 dX9_next_103 rfl (lv_at hl 1 rfl) ?_
            replace h := ob h; obtain ⟨x14, ex14, h⟩ := h
            refine sx_callS (As := [.int 4, .int v1]) (rest := []) C hs (c_X9_nextAmongDigits ex14) mo_X9_nextAmongDigits q302 rfl hl.1 ⟨⟨(Nat.le_of_ble_eq_true rfl), (Nat.le_of_ble_eq_true rfl)⟩, (Nat.le_of_ble_eq_true rfl), (Nat.le_of_ble_eq_true rfl)⟩ rfl (Nat.le_of_ble_eq_true rfl) dX9_next_104 (fun H locs hs => ?_)
            refine W.eq (g2 := F0 m 107 ls [.int x14]) rfl ?_
            cases h
            exact sx_iret C hs hr rfl dX9_next_107
          · replace h := iN c13 h
            rcases Decidable.em (v0 = 5) with c15 | c15
            · replace h := ip c15 h
              refine sx_tblK (tgt := 108) (off := 107) 5 C dX9_next_1 c15 (by decide) (by decide) ?_
              refine lv_iload_n C.1 C.2.1 dX9_next_108 rfl (lv_at hl 1 rfl) ?_
              replace h := ob h; obtain ⟨x16, ex16, h⟩ := h
              refine sx_callS (As := [.int v1]) (rest := []) C hs (c_X9_isPlusOrMinus ex16) mo_X9_isPlusOrMinus q290 rfl hl.1 ⟨⟨(Nat.le_of_ble_eq_true rfl), (Nat.le_of_ble_eq_true rfl)⟩, (Nat.le_of_ble_eq_true rfl), (Nat.le_of_ble_eq_true rfl)⟩ rfl (Nat.le_of_ble_eq_true rfl) dX9_next_109 (fun H locs hs => ?_)
              refine W.eq (g2 := F0 m 112 ls [.int x16]) rfl ?_
              refine lv_if_eq (tgt := 120) C.1 C.2.1 dX9_next_112 (by decide) (fun c17 => ?_) (fun c17 => ?_)
              · replace h := ip c17 h
                refine lv_bipush (v := 7) C.1 C.2.1 dX9_next_120 (by decide) ?_
                refine lv_iload_n C.1 C.2.1 dX9_next_122 rfl (lv_at hl 1 rfl) ?_
                replace h := ob h; obtain ⟨x18, ex18, h⟩ := h
                refine sx_callS (As := [.int 7, .int v1]) (rest := []) C hs (c_X9_nextIfDigit ex18) mo_X9_nextIfDigit q296 rfl hl.1 ⟨⟨(Nat.le_of_ble_eq_true rfl), (Nat.le_of_ble_eq_true rfl)⟩, (Nat.le_of_ble_eq_true rfl), (Nat.le_of_ble_eq_true rfl)⟩ rfl (Nat.le_of_ble_eq_true rfl) dX9_next_123 (fun H locs hs => ?_)
                refine W.eq (g2 := F0 m 126 ls [.int x18]) rfl ?_
                cases h
                exact sx_iret C hs hr rfl dX9_next_126
              · replace h := iN c17 h
                refine lv_bipush (v := 6) C.1 C.2.1 dX9_next_115 (by decide) ?_
                refine lv_goto (tgt := 126) C.1 C.2.1 dX9_next_117 (by decide) ?_
                cases h
                exact sx_iret C hs hr rfl dX9_next_126
            · replace h := iN c15 h
              rcases Decidable.em (v0 = 6) with c19 | c19
              · replace h := ip c19 h
                refine sx_tblK (tgt := 127) (off := 126) 6 C dX9_next_1 c19 (by decide) (by decide) ?_
                refine lv_bipush (v := 7) C.1 C.2.1 dX9_next_127 (by decide) ?_
                refine lv_iload_n C.1 C.2.1 dX9_next_129 rfl (lv_at hl 1 rfl) ?_
                replace h := ob h; obtain ⟨x20, ex20, h⟩ := h
                refine sx_callS (As := [.int 7, .int v1]) (rest := []) C hs (c_X9_nextIfDigit ex20) mo_X9_nextIfDigit q296 rfl hl.1 ⟨⟨(Nat.le_of_ble_eq_true rfl), (Nat.le_of_ble_eq_true rfl)⟩, (Nat.le_of_ble_eq_true rfl), (Nat.le_of_ble_eq_true rfl)⟩ rfl (Nat.le_of_ble_eq_true rfl) dX9_next_130 (fun H locs hs => ?_)
                refine W.eq (g2 := F0 m 133 ls [.int x20]) rfl ?_
                cases h
                exact sx_iret C hs hr rfl dX9_next_133
              · replace h := iN c19 h
                rcases Decidable.em (v0 = 7) with c21 | c21
                · replace h := ip c21 h
                  refine sx_tblK (tgt := 134) (off := 133) 7 C dX9_next_1 c21 (by decide) (by decide) ?_
                  refine lv_bipush (v := 8) C.1 C.2.1 dX9_next_134 (by decide) ?_
                  refine lv_iload_n C.1 C.2.1 dX9_next_136 rfl (lv_at hl 1 rfl) ?_
                  replace h := ob h; obtain ⟨x22, ex22, h⟩ := h
                  refine sx_callS (As := [.int 8, .int v1]) (rest := []) C hs (c_X9_nextIfDigit ex22) mo_X9_nextIfDigit q296 rfl hl.1 ⟨⟨(Nat.le_of_ble_eq_true rfl), (Nat.le_of_ble_eq_true rfl)⟩, (Nat.le_of_ble_eq_true rfl), (Nat.le_of_ble_eq_true rfl)⟩ rfl (Nat.le_of_ble_eq_true rfl) dX9_next_137 (fun H locs hs => ?_)
                  refine W.eq (g2 := F0 m 140 ls [.int x22]) rfl ?_
                  cases h
                  exact sx_iret C hs hr rfl dX9_next_140
                · replace h := iN c21 h
                  rcases Decidable.em (v0 = 8) with c23 | c23
                  · replace h := ip c23 h
                    refine sx_tblK (tgt := 141) (off := 140) 8 C dX9_next_1 c23 (by decide) (by decide) ?_
                    refine lv_bipush (v := 9) C.1 C.2.1 dX9_next_141 (by decide) ?_
                    refine lv_iload_n C.1 C.2.1 dX9_next_143 rfl (lv_at hl 1 rfl) ?_
                    replace h := ob h; obtain ⟨x24, ex24, h⟩ := h
                    refine sx_callS (As := [.int 9, .int v1]) (rest := []) C hs (c_X9_nextIfDigit ex24) mo_X9_nextIfDigit q296 rfl hl.1 ⟨⟨(Nat.le_of_ble_eq_true rfl), (Nat.le_of_ble_eq_true rfl)⟩, (Nat.le_of_ble_eq_true rfl), (Nat.le_of_ble_eq_true rfl)⟩ rfl (Nat.le_of_ble_eq_true rfl) dX9_next_144 (fun H locs hs => ?_)
                    refine W.eq (g2 := F0 m 147 ls [.int x24]) rfl ?_
                    cases h
                    exact sx_iret C hs hr rfl dX9_next_147
                  · replace h := iN c23 h
                    refine sx_tblD (tgt := 148) [0, 1, 2, 3, 4, 5, 6, 7, 8] C dX9_next_1 (by decide) (by decide) (List.forall_mem_cons.mpr ⟨c1, (List.forall_mem_cons.mpr ⟨c5, (List.forall_mem_cons.mpr ⟨c7, (List.forall_mem_cons.mpr ⟨c10, (List.forall_mem_cons.mpr ⟨c13, (List.forall_mem_cons.mpr ⟨c15, (List.forall_mem_cons.mpr ⟨c19, (List.forall_mem_cons.mpr ⟨c21, (List.forall_mem_cons.mpr ⟨c23, (fun _ h => nomatch h)⟩)⟩)⟩)⟩)⟩)⟩)⟩)⟩)⟩) (by decide) ?_
                    refine lv_iconst (v := (-1)) C.1 C.2.1 dX9_next_148 (by decide) ?_
                    cases h
                    exact sx_iret C hs hr rfl dX9_next_149
def f_X9_isEnd (v0 : Int32) : Option Int32 :=
 if v0 = 3 then
 some (1)
 else
 if v0 = 4 then
 some (1)
 else
 if v0 < 7 then
 some (0)
 else
 some (1)
set_option maxHeartbeats 4000000 in
set_option maxRecDepth 100000 in
theorem c_X9_isEnd {l : Launch} {g : PP} {σ : Sto} {sz : Nat} {v0 : Int32} {r9 : Int32} (h : f_X9_isEnd v0 = some r9) : Met l yX9_isEnd [Cond.code yX9_isEnd cX9_isEnd 1 (some .boolean)] (rmk 0 0 0 0) (Pre g σ sz [.int v0]) (Pst g (vI r9) σ sz) 0 0 (Aw g) := by
  refine Met.ofW (cc := cX9_isEnd) (maxL := 1) (ret := (some .boolean)) (by decide) rfl ?_
  intro p e s m args below meth c s₁ B hml hv
  obtain ⟨rfl, C, hs⟩ := ctx_of B hml hv
  have C : Cx g p s m meth c cX9_isEnd 1 "Tillhouse$Text" := C
  have hr := B.returns
  have hl := lv_entry ([.int v0]) (n := 1) (Nat.le_of_ble_eq_true rfl)
  rw [lg_entry_eq]
  generalize (lg_sl ([.int v0]) ++ List.replicate (1 - (lg_sl ([.int v0])).length) Slot.unset).toArray = ls at hl ⊢
  have hl : lv_has ls 1 [(0, .int v0)] := hl
  unfold f_X9_isEnd at h
  refine lv_iload_n C.1 C.2.1 dX9_isEnd_0 rfl (lv_at hl 0 rfl) ?_
  refine lv_iconst (v := 3) C.1 C.2.1 dX9_isEnd_1 (by decide) ?_
  refine lv_icmp_eq (tgt := 16) C.1 C.2.1 dX9_isEnd_2 (by decide) (fun c1 => ?_) (fun c1 => ?_)
  · replace h := ip c1 h
    refine lv_iconst (v := 1) C.1 C.2.1 dX9_isEnd_16 (by decide) ?_
    refine lv_goto (tgt := 21) C.1 C.2.1 dX9_isEnd_17 (by decide) ?_
    cases h
    exact sx_iret C hs hr (by decide) dX9_isEnd_21
  · replace h := iN c1 h
    refine lv_iload_n C.1 C.2.1 dX9_isEnd_5 rfl (lv_at hl 0 rfl) ?_
    refine lv_iconst (v := 4) C.1 C.2.1 dX9_isEnd_6 (by decide) ?_
    refine lv_icmp_eq (tgt := 16) C.1 C.2.1 dX9_isEnd_7 (by decide) (fun c2 => ?_) (fun c2 => ?_)
    · replace h := ip c2 h
      refine lv_iconst (v := 1) C.1 C.2.1 dX9_isEnd_16 (by decide) ?_
      refine lv_goto (tgt := 21) C.1 C.2.1 dX9_isEnd_17 (by decide) ?_
      cases h
      exact sx_iret C hs hr (by decide) dX9_isEnd_21
    · replace h := iN c2 h
      refine lv_iload_n C.1 C.2.1 dX9_isEnd_10 rfl (lv_at hl 0 rfl) ?_
      refine lv_bipush (v := 7) C.1 C.2.1 dX9_isEnd_11 (by decide) ?_
      refine lv_icmp_lt (tgt := 20) C.1 C.2.1 dX9_isEnd_13 (by decide) (fun c3 => ?_) (fun c3 => ?_)
      · replace h := ip c3 h
        refine lv_iconst (v := 0) C.1 C.2.1 dX9_isEnd_20 (by decide) ?_
        cases h
        exact sx_iret C hs hr (by decide) dX9_isEnd_21
      · replace h := iN c3 h
        refine lv_iconst (v := 1) C.1 C.2.1 dX9_isEnd_16 (by decide) ?_
        refine lv_goto (tgt := 21) C.1 C.2.1 dX9_isEnd_17 (by decide) ?_
        cases h
        exact sx_iret C hs hr (by decide) dX9_isEnd_21
def b_X9_firstFault_4_body (N : Nat) (k4 : Sto × Nat × Int32 × Int32 → Option Int32) (σ : Sto) (a0 : Nat) (v1 : Int32) (v2 : Int32) : Option Int32 :=
 (gI σ a0 8 1).bind fun x1 =>
 if x1 ≤ v2 then
 (f_X9_isEnd v1).bind fun x3 =>
 if x3 = 0 then
 (gI σ a0 8 1).bind fun x5 =>
 some (x5)
 else
 some ((-1))
 else
 (gR σ a0 8 0).bind fun p6 =>
 (aI σ p6 0 v2).bind fun x7 =>
 (f_X9_next v1 x7).bind fun x8 =>
 if x8 = (-1) then
 some (v2)
 else
 lt_ (v2 + 1) fun x10 =>
 k4 (σ, a0, x8, x10)
def b_X9_firstFault_4 (N : Nat) (σ : Sto) (a0 : Nat) (v1 : Int32) (v2 : Int32) : Option Int32 :=
  lp (fun k e => b_X9_firstFault_4_body N k e.1 e.2.1 e.2.2.1 e.2.2.2) N (σ, a0, v1, v2)
def f_X9_firstFault (N : Nat) (σ : Sto) (a0 : Nat) : Option Int32 :=
 b_X9_firstFault_4 N σ a0 0 0
set_option maxHeartbeats 4000000 in
set_option maxRecDepth 100000 in
theorem tb_X9_firstFault_4 {l : Launch} {g : PP} {p : Program} {e : Env} {s : State} {m : MethodId} {args : Array Value} {below : List Frame} {meth : Method} {c : Code} (C : Cx g p s m meth c cX9_firstFault 3 "Tillhouse$Text") (hr : meth.sig.returnType = some .int) {N : Nat}  {k4 : Sto × Nat × Int32 × Int32 → Option Int32} {σ : Sto} {sz : Nat} {a0 : Nat} {v1 : Int32} {v2 : Int32} {r9 : Int32}
    (h : b_X9_firstFault_4_body N k4 σ a0 v1 v2 = some r9)  (hk4 : ∀ (σ : Sto) (a0 : Nat) (v1 : Int32) (v2 : Int32), k4 (σ, a0, v1, v2) = some r9 → ∀ (H : Heap) (locs : List Loc) (ls : Array Slot), HS g s σ sz H locs → lv_has ls 3 [(0, .ref a0), (1, .int v1), (2, .int v2)] → W p l e (rmk 4 0 0 83) s m args below meth c H locs 0 0 (MQ below (Pst g (vI r9) σ sz) args s 0 0 (Aw g)) (F0 m 4 ls []))
    {H : Heap} {locs : List Loc} {ls : Array Slot} (hs : HS g s σ sz H locs) (hl : lv_has ls 3 [(0, .ref a0), (1, .int v1), (2, .int v2)]) : W p l e (rmk 4 0 0 83) s m args below meth c H locs 0 0 (MQ below (Pst g (vI r9) σ sz) args s 0 0 (Aw g)) (F0 m 4 ls []) := by
  unfold b_X9_firstFault_4_body at h
  refine lv_iload_n C.1 C.2.1 dX9_firstFault_4 rfl (lv_at hl 2 rfl) ?_
  refine lv_aload_n C.1 C.2.1 dX9_firstFault_5 rfl (lv_at hl 0 rfl) ?_
  replace h := ob h; obtain ⟨x1, ex1, h⟩ := h
  refine sx_getV C hs fo_X9_15 (gI_v ex1) dX9_firstFault_6 ?_
  refine lv_icmp_ge (tgt := 36) C.1 C.2.1 dX9_firstFault_9 (by decide) (fun c2 => ?_) (fun c2 => ?_)
  · replace h := ip c2 h
    refine lv_iload_n C.1 C.2.1 dX9_firstFault_36 rfl (lv_at hl 1 rfl) ?_
    replace h := ob h; obtain ⟨x3, ex3, h⟩ := h
    refine sx_callS (As := [.int v1]) (rest := []) C hs (c_X9_isEnd ex3) mo_X9_isEnd q305 rfl hl.1 ⟨⟨(Nat.le_of_ble_eq_true rfl), (Nat.le_of_ble_eq_true rfl)⟩, (Nat.le_of_ble_eq_true rfl), (Nat.le_of_ble_eq_true rfl)⟩ rfl (Nat.le_of_ble_eq_true rfl) dX9_firstFault_37 (fun H locs hs => ?_)
    refine W.eq (g2 := F0 m 40 ls [.int x3]) rfl ?_
    refine lv_if_eq (tgt := 47) C.1 C.2.1 dX9_firstFault_40 (by decide) (fun c4 => ?_) (fun c4 => ?_)
    · replace h := ip c4 h
      refine lv_aload_n C.1 C.2.1 dX9_firstFault_47 rfl (lv_at hl 0 rfl) ?_
      replace h := ob h; obtain ⟨x5, ex5, h⟩ := h
      refine sx_getV C hs fo_X9_15 (gI_v ex5) dX9_firstFault_48 ?_
      cases h
      exact sx_iret C hs hr rfl dX9_firstFault_51
    · replace h := iN c4 h
      refine lv_iconst (v := (-1)) C.1 C.2.1 dX9_firstFault_43 (by decide) ?_
      refine lv_goto (tgt := 51) C.1 C.2.1 dX9_firstFault_44 (by decide) ?_
      cases h
      exact sx_iret C hs hr rfl dX9_firstFault_51
  · replace h := iN c2 h
    refine lv_iload_n C.1 C.2.1 dX9_firstFault_12 rfl (lv_at hl 1 rfl) ?_
    refine lv_aload_n C.1 C.2.1 dX9_firstFault_13 rfl (lv_at hl 0 rfl) ?_
    replace h := ob h; obtain ⟨p6, ep6, h⟩ := h
    refine sx_getV C hs fo_X9_11 (gR_v ep6) dX9_firstFault_14 ?_
    refine lv_iload_n C.1 C.2.1 dX9_firstFault_17 rfl (lv_at hl 2 rfl) ?_
    replace h := ob h; obtain ⟨x7, ex7, h⟩ := h
    refine sx_cald C hs ex7 dX9_firstFault_18 ?_
    replace h := ob h; obtain ⟨x8, ex8, h⟩ := h
    refine sx_callS (As := [.int v1, .int x7]) (rest := []) C hs (c_X9_next ex8) mo_X9_next q287 rfl hl.1 ⟨⟨(Nat.le_of_ble_eq_true rfl), (Nat.le_of_ble_eq_true rfl)⟩, (Nat.le_of_ble_eq_true rfl), (Nat.le_of_ble_eq_true rfl)⟩ rfl (Nat.le_of_ble_eq_true rfl) dX9_firstFault_19 (fun H locs hs => ?_)
    refine W.eq (g2 := F0 m 22 ls [.int x8]) rfl ?_
    refine lv_istore_n (lv' := [(1, .int x8), (0, .ref a0), (2, .int v2)]) C.1 C.2.1 dX9_firstFault_22 rfl hl (by decide) rfl (fun ls hl => ?_)
    refine lv_iload_n C.1 C.2.1 dX9_firstFault_23 rfl (lv_at hl 0 rfl) ?_
    refine lv_iconst (v := (-1)) C.1 C.2.1 dX9_firstFault_24 (by decide) ?_
    refine lv_icmp_ne (tgt := 30) C.1 C.2.1 dX9_firstFault_25 (by decide) (fun c9 => ?_) (fun c9 => ?_)
    · replace h := iN c9 h
      replace h := ol h; obtain ⟨x10, ex10, h⟩ := h
      refine lv_iinc (v := x10) (lv' := [(2, .int x10), (1, .int x8), (0, .ref a0)]) C.1 C.2.1 dX9_firstFault_30 hl (k := 2) rfl (by rw [ex10]; rfl) (by decide) rfl (fun ls hl => ?_)
      refine lv_goto (tgt := 4) C.1 C.2.1 dX9_firstFault_33 (by decide) ?_
      exact hk4 σ a0 x8 x10 h _ _ _ hs (lv_sub hl [2, 1, 0] rfl)
    · replace h := ip c9 h
      refine lv_iload_n C.1 C.2.1 dX9_firstFault_28 rfl (lv_at hl 2 rfl) ?_
      cases h
      exact sx_iret C hs hr rfl dX9_firstFault_29
set_option maxHeartbeats 4000000 in
set_option maxRecDepth 100000 in
theorem tl_X9_firstFault_4 {l : Launch} {g : PP} {p : Program} {e : Env} {s : State} {m : MethodId} {args : Array Value} {below : List Frame} {meth : Method} {c : Code} (C : Cx g p s m meth c cX9_firstFault 3 "Tillhouse$Text") (hr : meth.sig.returnType = some .int) {N : Nat}   {sz : Nat} {r9 : Int32}  : ∀ (n : Nat) (σ : Sto) (a0 : Nat) (v1 : Int32) (v2 : Int32), lp (fun k e => b_X9_firstFault_4_body N k e.1 e.2.1 e.2.2.1 e.2.2.2) n (σ, a0, v1, v2) = some r9 → ∀ (H : Heap) (locs : List Loc) (ls : Array Slot), HS g s σ sz H locs → lv_has ls 3 [(0, .ref a0), (1, .int v1), (2, .int v2)] → W p l e (rmk 4 0 0 83) s m args below meth c H locs 0 0 (MQ below (Pst g (vI r9) σ sz) args s 0 0 (Aw g)) (F0 m 4 ls []) := by
  intro n
  induction n with
  | zero => intro σ a0 v1 v2 h; exact absurd h (fun q => nomatch q)
  | succ n ih =>
    intro σ a0 v1 v2 h H locs ls hs hl
    exact tb_X9_firstFault_4 (N := N) C hr h (fun σ a0 v1 v2 h H locs ls hs hl => ih σ a0 v1 v2 h H locs ls hs hl) hs hl
set_option maxHeartbeats 4000000 in
set_option maxRecDepth 100000 in
theorem t_X9_firstFault_4 {l : Launch} {g : PP} {p : Program} {e : Env} {s : State} {m : MethodId} {args : Array Value} {below : List Frame} {meth : Method} {c : Code} (C : Cx g p s m meth c cX9_firstFault 3 "Tillhouse$Text") (hr : meth.sig.returnType = some .int) {N : Nat}  {σ : Sto} {sz : Nat} {a0 : Nat} {v1 : Int32} {v2 : Int32} {r9 : Int32}
    (h : b_X9_firstFault_4 N σ a0 v1 v2 = some r9) 
    {H : Heap} {locs : List Loc} {ls : Array Slot} (hs : HS g s σ sz H locs) (hl : lv_has ls 3 [(0, .ref a0), (1, .int v1), (2, .int v2)]) : W p l e (rmk 4 0 0 83) s m args below meth c H locs 0 0 (MQ below (Pst g (vI r9) σ sz) args s 0 0 (Aw g)) (F0 m 4 ls []) := tl_X9_firstFault_4 C hr N σ a0 v1 v2 h H locs ls hs hl
set_option maxHeartbeats 4000000 in
set_option maxRecDepth 100000 in
theorem c_X9_firstFault {l : Launch} {g : PP} {N : Nat} {σ : Sto} {sz : Nat} {a0 : Nat} {r9 : Int32} (h : f_X9_firstFault N σ a0 = some r9) : Met l yX9_firstFault [Cond.code yX9_firstFault cX9_firstFault 3 (some .int)] (rmk 4 0 0 83) (Pre g σ sz [.ref a0]) (Pst g (vI r9) σ sz) 0 0 (Aw g) := by
  refine Met.ofW (cc := cX9_firstFault) (maxL := 3) (ret := (some .int)) (by decide) rfl ?_
  intro p e s m args below meth c s₁ B hml hv
  obtain ⟨rfl, C, hs⟩ := ctx_of B hml hv
  have C : Cx g p s m meth c cX9_firstFault 3 "Tillhouse$Text" := C
  have hr := B.returns
  have hl := lv_entry ([.ref a0]) (n := 3) (Nat.le_of_ble_eq_true rfl)
  rw [lg_entry_eq]
  generalize (lg_sl ([.ref a0]) ++ List.replicate (3 - (lg_sl ([.ref a0])).length) Slot.unset).toArray = ls at hl ⊢
  have hl : lv_has ls 3 [(0, .ref a0)] := hl
  unfold f_X9_firstFault at h
  refine lv_iconst (v := 0) C.1 C.2.1 dX9_firstFault_0 (by decide) ?_
  refine lv_istore_n (lv' := [(1, .int 0), (0, .ref a0)]) C.1 C.2.1 dX9_firstFault_1 rfl hl (by decide) rfl (fun ls hl => ?_)
  refine lv_iconst (v := 0) C.1 C.2.1 dX9_firstFault_2 (by decide) ?_
  refine lv_istore_n (lv' := [(2, .int 0), (1, .int 0), (0, .ref a0)]) C.1 C.2.1 dX9_firstFault_3 rfl hl (by decide) rfl (fun ls hl => ?_)
  exact t_X9_firstFault_4 C hr h hs (lv_sub hl [2, 1, 0] rfl)
def f_X9_longer (v0 : Int64) (v2 : Int32) : Option ((Nat ⊕ Int64)) :=
 if v0 ≤ 99999999999999999 then
 some (.inr ((v0 * 10) + (Int32.toInt64 v2)))
 else
 some (.inl 3)
set_option maxHeartbeats 4000000 in
set_option maxRecDepth 100000 in
theorem c_X9_longer {l : Launch} (hfl : l.stackTraces = false) {g : PP} {σ : Sto} {sz : Nat} {v0 : Int64} {v2 : Int32} {r9 : Nat ⊕ Int64} (h : f_X9_longer v0 v2 = some r9) : vx_Met l yX9_longer [Cond.code yX9_longer cX9_longer 3 (some .long)] (rmk 6 (cX r9) (cY r9) 100) (Pre g σ sz [.long v0, .int v2]) (PstX g (Sum.map id vL r9) σ sz) (XpX g (Sum.map id vL r9) σ sz) (cX r9) (cY r9) (Aw g) := by
  refine vx_ofW (cc := cX9_longer) (maxL := 3) (ret := (some .long)) (by decide) rfl ?_
  intro p e s m args below meth c s₁ B hml ht hv
  obtain ⟨rfl, C, hs⟩ := ctx_of B hml hv
  have C : Cx g p s m meth c cX9_longer 3 "Tillhouse$Text" := C
  have hr := B.returns
  have hl := lv_entry ([.long v0, .int v2]) (n := 3) (Nat.le_of_ble_eq_true rfl)
  rw [lg_entry_eq]
  generalize (lg_sl ([.long v0, .int v2]) ++ List.replicate (3 - (lg_sl ([.long v0, .int v2])).length) Slot.unset).toArray = ls at hl ⊢
  have hl : lv_has ls 3 [(0, .long v0), (2, .int v2)] := hl
  unfold f_X9_longer at h
  refine lv_lload_n C.1 C.2.1 dX9_longer_0 rfl (lv_at hl 0 rfl) ?_
  refine lv_ldc2 (v := 99999999999999999) C.1 C.2.1 C.2.2.2.1 (C.2.2.2.2.1.1 _ q552 _) dX9_longer_1 ?_
  refine W.lcmp C.1 C.2.1 dX9_longer_4 ?_
  refine lv_if_le (tgt := 18) C.1 C.2.1 dX9_longer_5 (by decide) (fun c1 => ?_) (fun c1 => ?_)
  · replace h := ip ((lg_cmp_le _ _).mp c1) h
    refine lv_lload_n C.1 C.2.1 dX9_longer_18 rfl (lv_at hl 0 rfl) ?_
    refine lv_ldc2 (v := 10) C.1 C.2.1 C.2.2.2.1 (C.2.2.2.2.1.1 _ q556 _) dX9_longer_19 ?_
    refine lv_lmul C.1 C.2.1 dX9_longer_22 ?_
    refine lv_iload_n C.1 C.2.1 dX9_longer_23 rfl (lv_at hl 1 rfl) ?_
    refine lv_i2l (v := Int32.toInt64 v2) C.1 C.2.1 dX9_longer_24 rfl ?_
    refine lv_ladd C.1 C.2.1 dX9_longer_25 ?_
    cases h
    exact sx_lretX C hs hr dX9_longer_26
  · replace h := iN (fun q => c1 ((lg_cmp_le _ _).mpr q)) h
    cases h
    exact sx_throw C hfl hs to_X9_56_58 ht hl.1 dX9_longer_8 dX9_longer_11 dX9_longer_12 dX9_longer_14 dX9_longer_17 ⟨by decide, (Nat.le_of_ble_eq_true rfl), (Nat.le_of_ble_eq_true rfl), (Nat.le_of_ble_eq_true rfl)⟩ ⟨(Nat.le_of_ble_eq_true rfl), (Nat.le_of_ble_eq_true rfl)⟩
def f_X10_isInRange (v0 : Int64) (v2 : Int32) : Option Int32 :=
 if v0 < (-999999999999999999) then
 some (0)
 else
 if 999999999999999999 < v0 then
 some (0)
 else
 if v2 < (-18) then
 some (0)
 else
 if 36 < v2 then
 some (0)
 else
 some (1)
set_option maxHeartbeats 4000000 in
set_option maxRecDepth 100000 in
theorem c_X10_isInRange {l : Launch} {g : PP} {σ : Sto} {sz : Nat} {v0 : Int64} {v2 : Int32} {r9 : Int32} (h : f_X10_isInRange v0 v2 = some r9) : Met l yX10_isInRange [Cond.code yX10_isInRange cX10_isInRange 3 (some .boolean)] (rmk 0 0 0 0) (Pre g σ sz [.long v0, .int v2]) (Pst g (vI r9) σ sz) 0 0 (Aw g) := by
  refine Met.ofW (cc := cX10_isInRange) (maxL := 3) (ret := (some .boolean)) (by decide) rfl ?_
  intro p e s m args below meth c s₁ B hml hv
  obtain ⟨rfl, C, hs⟩ := ctx_of B hml hv
  have C : Cx g p s m meth c cX10_isInRange 3 "Tillhouse$Value" := C
  have hr := B.returns
  have hl := lv_entry ([.long v0, .int v2]) (n := 3) (Nat.le_of_ble_eq_true rfl)
  rw [lg_entry_eq]
  generalize (lg_sl ([.long v0, .int v2]) ++ List.replicate (3 - (lg_sl ([.long v0, .int v2])).length) Slot.unset).toArray = ls at hl ⊢
  have hl : lv_has ls 3 [(0, .long v0), (2, .int v2)] := hl
  unfold f_X10_isInRange at h
  refine lv_lload_n C.1 C.2.1 dX10_isInRange_0 rfl (lv_at hl 0 rfl) ?_
  refine lv_ldc2 (v := (-999999999999999999)) C.1 C.2.1 C.2.2.2.1 (C.2.2.2.2.1.1 _ q443 _) dX10_isInRange_1 ?_
  refine W.lcmp C.1 C.2.1 dX10_isInRange_4 ?_
  refine lv_if_lt (tgt := 32) C.1 C.2.1 dX10_isInRange_5 (by decide) (fun c1 => ?_) (fun c1 => ?_)
  · replace h := ip ((lg_cmp_lt _ _).mp c1) h
    refine lv_iconst (v := 0) C.1 C.2.1 dX10_isInRange_32 (by decide) ?_
    cases h
    exact sx_iret C hs hr (by decide) dX10_isInRange_33
  · replace h := iN (fun q => c1 ((lg_cmp_lt _ _).mpr q)) h
    refine lv_lload_n C.1 C.2.1 dX10_isInRange_8 rfl (lv_at hl 0 rfl) ?_
    refine lv_ldc2 (v := 999999999999999999) C.1 C.2.1 C.2.2.2.1 (C.2.2.2.2.1.1 _ q444 _) dX10_isInRange_9 ?_
    refine W.lcmp C.1 C.2.1 dX10_isInRange_12 ?_
    refine lv_if_gt (tgt := 32) C.1 C.2.1 dX10_isInRange_13 (by decide) (fun c2 => ?_) (fun c2 => ?_)
    · replace h := ip ((lg_cmp_gt _ _).mp c2) h
      refine lv_iconst (v := 0) C.1 C.2.1 dX10_isInRange_32 (by decide) ?_
      cases h
      exact sx_iret C hs hr (by decide) dX10_isInRange_33
    · replace h := iN (fun q => c2 ((lg_cmp_gt _ _).mpr q)) h
      refine lv_iload_n C.1 C.2.1 dX10_isInRange_16 rfl (lv_at hl 1 rfl) ?_
      refine lv_bipush (v := (-18)) C.1 C.2.1 dX10_isInRange_17 (by decide) ?_
      refine lv_icmp_lt (tgt := 32) C.1 C.2.1 dX10_isInRange_19 (by decide) (fun c3 => ?_) (fun c3 => ?_)
      · replace h := ip c3 h
        refine lv_iconst (v := 0) C.1 C.2.1 dX10_isInRange_32 (by decide) ?_
        cases h
        exact sx_iret C hs hr (by decide) dX10_isInRange_33
      · replace h := iN c3 h
        refine lv_iload_n C.1 C.2.1 dX10_isInRange_22 rfl (lv_at hl 1 rfl) ?_
        refine lv_bipush (v := 36) C.1 C.2.1 dX10_isInRange_23 (by decide) ?_
        refine lv_icmp_gt (tgt := 32) C.1 C.2.1 dX10_isInRange_25 (by decide) (fun c4 => ?_) (fun c4 => ?_)
        · replace h := ip c4 h
          refine lv_iconst (v := 0) C.1 C.2.1 dX10_isInRange_32 (by decide) ?_
          cases h
          exact sx_iret C hs hr (by decide) dX10_isInRange_33
        · replace h := iN c4 h
          refine lv_iconst (v := 1) C.1 C.2.1 dX10_isInRange_28 (by decide) ?_
          refine lv_goto (tgt := 33) C.1 C.2.1 dX10_isInRange_29 (by decide) ?_
          cases h
          exact sx_iret C hs hr (by decide) dX10_isInRange_33
def f_X10_init (σ : Sto) (a0 : Nat) (v1 : Int64) (v3 : Int32) : Option (Unit × Sto) :=
 (pF σ a0 9 0 (.long v1)).bind fun τ1 =>
 (pF τ1 a0 9 1 (.int v3)).bind fun τ2 =>
 some ((), τ2)
set_option maxHeartbeats 4000000 in
set_option maxRecDepth 100000 in
theorem c_X10_init {l : Launch} {g : PP} {σ : Sto} {sz : Nat} {a0 : Nat} {v1 : Int64} {v3 : Int32} {r9 : Unit} {σ9 : Sto} (h : f_X10_init σ a0 v1 v3 = some (r9, σ9)) : Met l yX10_init [Cond.code yX10_init cX10_init 4 none] (rmk 1 0 0 20) (Pre g σ sz [.ref a0, .long v1, .int v3]) (Pst g (vV r9) σ9 sz) 0 0 (Aw g) := by
  refine Met.ofW (cc := cX10_init) (maxL := 4) (ret := none) (by decide) rfl ?_
  intro p e s m args below meth c s₁ B hml hv
  obtain ⟨rfl, C, hs⟩ := ctx_of B hml hv
  have C : Cx g p s m meth c cX10_init 4 "Tillhouse$Value" := C
  have hr := B.returns
  have hin : meth.name = "<init>" := (name_of_methodNamed B.named B.method).1
  have hl := lv_entry ([.ref a0, .long v1, .int v3]) (n := 4) (Nat.le_of_ble_eq_true rfl)
  rw [lg_entry_eq]
  generalize (lg_sl ([.ref a0, .long v1, .int v3]) ++ List.replicate (4 - (lg_sl ([.ref a0, .long v1, .int v3])).length) Slot.unset).toArray = ls at hl ⊢
  have hl : lv_has ls 4 [(0, .ref a0), (1, .long v1), (3, .int v3)] := hl
  unfold f_X10_init at h
  refine lv_aload_n C.1 C.2.1 dX10_init_0 rfl (lv_at hl 0 rfl) ?_
  refine sx_objInit C hl q465 qobj1 qobj2 dX10_init_1 (Nat.le_of_ble_eq_true rfl) (Nat.le_of_ble_eq_true rfl) ?_
  refine lv_aload_n C.1 C.2.1 dX10_init_4 rfl (lv_at hl 0 rfl) ?_
  refine lv_lload_n C.1 C.2.1 dX10_init_5 rfl (lv_at hl 1 rfl) ?_
  replace h := ob h; obtain ⟨τ1, eτ1, h⟩ := h
  refine sx_putF C hs fi_X10_9 hin rfl rfl eτ1 dX10_init_6 (fun H locs hs => ?_)
  refine lv_aload_n C.1 C.2.1 dX10_init_9 rfl (lv_at hl 0 rfl) ?_
  refine lv_iload_n C.1 C.2.1 dX10_init_10 rfl (lv_at hl 2 rfl) ?_
  replace h := ob h; obtain ⟨τ2, eτ2, h⟩ := h
  refine sx_putF C hs fi_X10_15 hin rfl rfl eτ2 dX10_init_11 (fun H locs hs => ?_)
  cases h
  exact sx_vret C hs hr dX10_init_14
def f_X10_checked (σ : Sto) (sz : Nat) (v0 : Int64) (v2 : Int32) : Option ((Nat ⊕ Nat) × Sto × Nat) :=
 (f_X10_isInRange v0 v2).bind fun x1 =>
 if x1 = 0 then
 some (.inl 3, σ, sz)
 else
 lt_ (nO σ sz 9 dvX10) fun τ3 =>
 b2 (f_X10_init τ3 sz v0 v2) fun x4 τ5 =>
 some (.inr sz, τ5, sz + 1)
set_option maxHeartbeats 4000000 in
set_option maxRecDepth 100000 in
theorem c_X10_checked {l : Launch} (hfl : l.stackTraces = false) {g : PP} {σ : Sto} {sz : Nat} {v0 : Int64} {v2 : Int32} {r9 : Nat ⊕ Nat} {σ9 : Sto} {sz9 : Nat} (h : f_X10_checked σ sz v0 v2 = some (r9, σ9, sz9)) : vx_Met l yX10_checked [Cond.code yX10_checked cX10_checked 3 (some (.object "Tillhouse$Value"))] (rmk 6 1 6 100) (Pre g σ sz [.long v0, .int v2]) (PstX g (Sum.map id vR r9) σ9 sz9) (XpX g (Sum.map id vR r9) σ9 sz9) 1 6 (Aw g) := by
  refine vx_ofW (cc := cX10_checked) (maxL := 3) (ret := (some (.object "Tillhouse$Value"))) (by decide) rfl ?_
  intro p e s m args below meth c s₁ B hml ht hv
  obtain ⟨rfl, C, hs⟩ := ctx_of B hml hv
  have C : Cx g p s m meth c cX10_checked 3 "Tillhouse$Value" := C
  have hr := B.returns
  have hl := lv_entry ([.long v0, .int v2]) (n := 3) (Nat.le_of_ble_eq_true rfl)
  rw [lg_entry_eq]
  generalize (lg_sl ([.long v0, .int v2]) ++ List.replicate (3 - (lg_sl ([.long v0, .int v2])).length) Slot.unset).toArray = ls at hl ⊢
  have hl : lv_has ls 3 [(0, .long v0), (2, .int v2)] := hl
  unfold f_X10_checked at h
  refine lv_lload_n C.1 C.2.1 dX10_checked_0 rfl (lv_at hl 0 rfl) ?_
  refine lv_iload_n C.1 C.2.1 dX10_checked_1 rfl (lv_at hl 1 rfl) ?_
  replace h := ob h; obtain ⟨x1, ex1, h⟩ := h
  refine sx_callS (As := [.long v0, .int v2]) (rest := []) C hs (c_X10_isInRange ex1) mo_X10_isInRange q560 rfl hl.1 ⟨⟨(Nat.le_of_ble_eq_true rfl), (Nat.le_of_ble_eq_true rfl)⟩, (Nat.le_of_ble_eq_true rfl), (Nat.le_of_ble_eq_true rfl)⟩ rfl (Nat.le_of_ble_eq_true rfl) dX10_checked_2 (fun H locs hs => ?_)
  refine W.eq (g2 := F0 m 5 ls [.int x1]) rfl ?_
  refine lv_if_ne (tgt := 18) C.1 C.2.1 dX10_checked_5 (by decide) (fun c2 => ?_) (fun c2 => ?_)
  · replace h := iN c2 h
    replace h := ol h; obtain ⟨τ3, eτ3, h⟩ := h
    refine sx_new C hs no_X10_10 (Nat.le_of_ble_eq_true rfl) (Nat.le_of_ble_eq_true rfl) dX10_checked_18 (fun H hs => ?_)
    replace hs := HS.nm eτ3 hs
    refine lv_dup C.1 C.2.1 dX10_checked_21 rfl ?_
    refine lv_lload_n C.1 C.2.1 dX10_checked_22 rfl (lv_at hl 0 rfl) ?_
    refine lv_iload_n C.1 C.2.1 dX10_checked_23 rfl (lv_at hl 1 rfl) ?_
    replace h := ob2 h; obtain ⟨x4, τ5, ex4, h⟩ := h
    refine sx_callI (As := [.long v0, .int v2]) (rest := [.ref sz]) C hs (c_X10_init ex4) mo_X10_init q565 rfl hl.1 ⟨⟨(Nat.le_of_ble_eq_true rfl), (Nat.le_of_ble_eq_true rfl)⟩, (Nat.le_of_ble_eq_true rfl), (Nat.le_of_ble_eq_true rfl)⟩ rfl (Nat.le_of_ble_eq_true rfl) dX10_checked_24 (fun H locs hs => ?_)
    cases h
    refine W.widen (k := 1) (n := 6) (Nat.le_of_ble_eq_true rfl) (Nat.le_of_ble_eq_true rfl) ?_
    exact sx_aretX C hs hr (by first | exact Or.inl ⟨_, rfl⟩ | exact Or.inr ⟨_, rfl⟩) dX10_checked_27
  · replace h := ip c2 h
    cases h
    exact sx_throw C hfl hs to_X10_27_29 ht hl.1 dX10_checked_8 dX10_checked_11 dX10_checked_12 dX10_checked_14 dX10_checked_17 ⟨by decide, (Nat.le_of_ble_eq_true rfl), (Nat.le_of_ble_eq_true rfl), (Nat.le_of_ble_eq_true rfl)⟩ ⟨(Nat.le_of_ble_eq_true rfl), (Nat.le_of_ble_eq_true rfl)⟩
def b_X9_value_189 (N : Nat) (σ : Sto) (sz : Nat) (s0 : Int32) (s1 : Int64) : Option ((Nat ⊕ Nat) × Sto × Nat) :=
 b3 (f_X10_checked σ sz s1 s0) fun u4 τ2 y3 =>
 bs u4 (fun j5 => some (.inl j5, τ2, y3)) fun p1 =>
 some (.inr p1, τ2, y3)
def b_X9_value_173 (N : Nat) (σ : Sto) (sz : Nat) (v3 : Int32) (v4 : Int32) (v6 : Int32) (s0 : Int64) : Option ((Nat ⊕ Nat) × Sto × Nat) :=
 if v6 = 0 then
 b_X9_value_189 N σ sz (v3 - v4) s0
 else
 b_X9_value_189 N σ sz (v3 + v4) s0
def b_X9_value_156 (N : Nat) (k19 : Sto × Nat × Nat × Int64 × Int32 × Int32 × Int32 × Int32 × Int32 × Int32 → Option ((Nat ⊕ Nat) × Sto × Nat)) (σ : Sto) (sz : Nat) (a0 : Nat) (v1 : Int64) (v3 : Int32) (v4 : Int32) (v5 : Int32) (v6 : Int32) (v7 : Int32) (v8 : Int32) : Option ((Nat ⊕ Nat) × Sto × Nat) :=
 lt_ (v8 + 1) fun x1 =>
 k19 (σ, sz, a0, v1, v3, v4, v5, v6, v7, x1)
def b_X9_value_154 (N : Nat) (k19 : Sto × Nat × Nat × Int64 × Int32 × Int32 × Int32 × Int32 × Int32 × Int32 → Option ((Nat ⊕ Nat) × Sto × Nat)) (σ : Sto) (sz : Nat) (a0 : Nat) (v1 : Int64) (v4 : Int32) (v5 : Int32) (v6 : Int32) (v7 : Int32) (v8 : Int32) (s0 : Int32) (s1 : Int32) : Option ((Nat ⊕ Nat) × Sto × Nat) :=
 lt_ (s1 + s0) fun x1 =>
 b_X9_value_156 N k19 σ sz a0 v1 x1 v4 v5 v6 v7 v8
def b_X9_value_124 (N : Nat) (k19 : Sto × Nat × Nat × Int64 × Int32 × Int32 × Int32 × Int32 × Int32 × Int32 → Option ((Nat ⊕ Nat) × Sto × Nat)) (σ : Sto) (sz : Nat) (a0 : Nat) (v1 : Int64) (v3 : Int32) (v4 : Int32) (v5 : Int32) (v6 : Int32) (v7 : Int32) (v8 : Int32) (v9 : Int32) : Option ((Nat ⊕ Nat) × Sto × Nat) :=
 (f_X9_isDigit v9).bind fun x1 =>
 if x1 = 0 then
 b_X9_value_156 N k19 σ sz a0 v1 v3 v4 v5 v6 v7 v8
 else
 (f_X9_longer v1 (v9 - 48)).bind fun u4 =>
 bs u4 (fun j5 => some (.inl j5, σ, sz)) fun x3 =>
 if v7 = 4 then
 b_X9_value_154 N k19 σ sz a0 x3 v4 v5 v6 v7 v8 1 v3
 else
 b_X9_value_154 N k19 σ sz a0 x3 v4 v5 v6 v7 v8 0 v3
def b_X9_value_88 (N : Nat) (k19 : Sto × Nat × Nat × Int64 × Int32 × Int32 × Int32 × Int32 × Int32 × Int32 → Option ((Nat ⊕ Nat) × Sto × Nat)) (σ : Sto) (sz : Nat) (a0 : Nat) (v1 : Int64) (v3 : Int32) (v4 : Int32) (v5 : Int32) (v7 : Int32) (v8 : Int32) (s0 : Int32) : Option ((Nat ⊕ Nat) × Sto × Nat) :=
 b_X9_value_156 N k19 σ sz a0 v1 v3 v4 v5 s0 v7 v8
def b_X9_value_64 (N : Nat) (k19 : Sto × Nat × Nat × Int64 × Int32 × Int32 × Int32 × Int32 × Int32 × Int32 → Option ((Nat ⊕ Nat) × Sto × Nat)) (σ : Sto) (sz : Nat) (a0 : Nat) (v1 : Int64) (v3 : Int32) (v4 : Int32) (v6 : Int32) (v7 : Int32) (v8 : Int32) (s0 : Int32) : Option ((Nat ⊕ Nat) × Sto × Nat) :=
 b_X9_value_156 N k19 σ sz a0 v1 v3 v4 s0 v6 v7 v8
def b_X9_value_19_body (N : Nat) (k19 : Sto × Nat × Nat × Int64 × Int32 × Int32 × Int32 × Int32 × Int32 × Int32 → Option ((Nat ⊕ Nat) × Sto × Nat)) (σ : Sto) (sz : Nat) (a0 : Nat) (v1 : Int64) (v3 : Int32) (v4 : Int32) (v5 : Int32) (v6 : Int32) (v7 : Int32) (v8 : Int32) : Option ((Nat ⊕ Nat) × Sto × Nat) :=
 (gI σ a0 8 1).bind fun x1 =>
 if x1 ≤ v8 then
 if v5 = 0 then
 b_X9_value_173 N σ sz v3 v4 v6 v1
 else
 b_X9_value_173 N σ sz v3 v4 v6 (-v1)
 else
 (gR σ a0 8 0).bind fun p4 =>
 (aI σ p4 0 v8).bind fun x5 =>
 (f_X9_next v7 x5).bind fun x6 =>
 if x6 = 1 then
 if x5 = 45 then
 b_X9_value_64 N k19 σ sz a0 v1 v3 v4 v6 x6 v8 1
 else
 b_X9_value_64 N k19 σ sz a0 v1 v3 v4 v6 x6 v8 0
 else
 if x6 = 6 then
 if x5 = 45 then
 b_X9_value_88 N k19 σ sz a0 v1 v3 v4 v5 x6 v8 1
 else
 b_X9_value_88 N k19 σ sz a0 v1 v3 v4 v5 x6 v8 0
 else
 (f_X9_isDigit x5).bind fun x9 =>
 if x9 = 0 then
 b_X9_value_124 N k19 σ sz a0 v1 v3 v4 v5 v6 x6 v8 x5
 else
 if x6 < 7 then
 b_X9_value_124 N k19 σ sz a0 v1 v3 v4 v5 v6 x6 v8 x5
 else
 lt_ ((v4 * 10) + (x5 - 48)) fun x12 =>
 b_X9_value_156 N k19 σ sz a0 v1 v3 x12 v5 v6 x6 v8
def b_X9_value_19 (N : Nat) (σ : Sto) (sz : Nat) (a0 : Nat) (v1 : Int64) (v3 : Int32) (v4 : Int32) (v5 : Int32) (v6 : Int32) (v7 : Int32) (v8 : Int32) : Option ((Nat ⊕ Nat) × Sto × Nat) :=
  lp (fun k e => b_X9_value_19_body N k e.1 e.2.1 e.2.2.1 e.2.2.2.1 e.2.2.2.2.1 e.2.2.2.2.2.1 e.2.2.2.2.2.2.1 e.2.2.2.2.2.2.2.1 e.2.2.2.2.2.2.2.2.1 e.2.2.2.2.2.2.2.2.2) N (σ, sz, a0, v1, v3, v4, v5, v6, v7, v8)
def f_X9_value (N : Nat) (σ : Sto) (sz : Nat) (a0 : Nat) : Option ((Nat ⊕ Nat) × Sto × Nat) :=
 b_X9_value_19 N σ sz a0 0 0 0 0 0 0 0
set_option maxHeartbeats 4000000 in
set_option maxRecDepth 100000 in
theorem t_X9_value_189 {l : Launch} {g : PP} {p : Program} {e : Env} {s : State} {m : MethodId} {args : Array Value} {below : List Frame} {meth : Method} {c : Code} (hfl : l.stackTraces = false) (C : Cx g p s m meth c cX9_value 10 "Tillhouse$Text") (hr : meth.sig.returnType = some (.object "Tillhouse$Value")) (ht : ∀ x ∈ c.exceptionTable.toList, False) {N : Nat}  {σ : Sto} {sz : Nat} {s0 : Int32} {s1 : Int64} {r9 : Nat ⊕ Nat} {σ9 : Sto} {sz9 : Nat}
    (h : b_X9_value_189 N σ sz s0 s1 = some (r9, σ9, sz9)) 
    {H : Heap} {locs : List Loc} {ls : Array Slot} (hs : HS g s σ sz H locs) (hl : lv_has ls 10 []) : W p l e (rmk 7 1 6 122) s m args below meth c H locs 0 0 (vx_MQ below (PstX g (Sum.map id vR r9) σ9 sz9) (XpX g (Sum.map id vR r9) σ9 sz9) args s 1 6 (Aw g)) (F0 m 189 ls [.int s0, .long s1]) := by
  unfold b_X9_value_189 at h
  replace h := ob3 h; obtain ⟨u4, τ2, y3, ep1, h⟩ := h
  rcases u4 with j5 | p1
  · replace h := bsl h
    cases h
    refine sx_xcallS (As := [.long s1, .int s0]) (rest := []) C hs (c_X10_checked hfl ep1) mo_X10_checked q557 rfl hl.1 ⟨⟨(Nat.le_of_ble_eq_true rfl), (Nat.le_of_ble_eq_true rfl)⟩, (Nat.le_of_ble_eq_true rfl), (Nat.le_of_ble_eq_true rfl)⟩ rfl (Nat.le_of_ble_eq_true rfl) dX9_value_189 (fun k9 hk9 ce q9 H locs a1 a2 a3 a4 a5 a6 => ?_) (fun vr hv => (inlr hv).elim)
    obtain rfl := Sum.inl.inj hk9
    exact sx_out C ht a1 a2 a3 a4 a5 a6 (Nat.le_of_ble_eq_true rfl) (Nat.le_of_ble_eq_true rfl)
  · replace h := bsr h
    refine sx_xcallS (As := [.long s1, .int s0]) (rest := []) C hs (c_X10_checked hfl ep1) mo_X10_checked q557 rfl hl.1 ⟨⟨(Nat.le_of_ble_eq_true rfl), (Nat.le_of_ble_eq_true rfl)⟩, (Nat.le_of_ble_eq_true rfl), (Nat.le_of_ble_eq_true rfl)⟩ rfl (Nat.le_of_ble_eq_true rfl) dX9_value_189 (fun k9 hk9 => (inrl hk9).elim) (fun vr hv H locs hs => ?_)
    obtain rfl := Sum.inr.inj hv
    refine W.eq (g2 := F0 m 192 ls [.ref p1]) rfl ?_
    refine W.widen (k := 1) (n := 6) (Nat.le_of_ble_eq_true rfl) (Nat.le_of_ble_eq_true rfl) ?_
    cases h
    exact sx_aretX C hs hr (by first | exact Or.inl ⟨_, rfl⟩ | exact Or.inr ⟨_, rfl⟩) dX9_value_192
set_option maxHeartbeats 4000000 in
set_option maxRecDepth 100000 in
theorem t_X9_value_173 {l : Launch} {g : PP} {p : Program} {e : Env} {s : State} {m : MethodId} {args : Array Value} {below : List Frame} {meth : Method} {c : Code} (hfl : l.stackTraces = false) (C : Cx g p s m meth c cX9_value 10 "Tillhouse$Text") (hr : meth.sig.returnType = some (.object "Tillhouse$Value")) (ht : ∀ x ∈ c.exceptionTable.toList, False) {N : Nat}  {σ : Sto} {sz : Nat} {v3 : Int32} {v4 : Int32} {v6 : Int32} {s0 : Int64} {r9 : Nat ⊕ Nat} {σ9 : Sto} {sz9 : Nat}
    (h : b_X9_value_173 N σ sz v3 v4 v6 s0 = some (r9, σ9, sz9)) 
    {H : Heap} {locs : List Loc} {ls : Array Slot} (hs : HS g s σ sz H locs) (hl : lv_has ls 10 [(3, .int v3), (4, .int v4), (6, .int v6)]) : W p l e (rmk 7 1 6 122) s m args below meth c H locs 0 0 (vx_MQ below (PstX g (Sum.map id vR r9) σ9 sz9) (XpX g (Sum.map id vR r9) σ9 sz9) args s 1 6 (Aw g)) (F0 m 173 ls [.long s0]) := by
  unfold b_X9_value_173 at h
  refine lv_iload C.1 C.2.1 dX9_value_173 (lv_at hl 2 rfl) ?_
  refine lv_if_eq (tgt := 185) C.1 C.2.1 dX9_value_175 (by decide) (fun c1 => ?_) (fun c1 => ?_)
  · replace h := ip c1 h
    refine lv_iload_n C.1 C.2.1 dX9_value_185 rfl (lv_at hl 0 rfl) ?_
    refine lv_iload C.1 C.2.1 dX9_value_186 (lv_at hl 1 rfl) ?_
    refine lv_isub C.1 C.2.1 dX9_value_188 ?_
    exact t_X9_value_189 hfl C hr ht h hs (lv_sub hl [] rfl)
  · replace h := iN c1 h
    refine lv_iload_n C.1 C.2.1 dX9_value_178 rfl (lv_at hl 0 rfl) ?_
    refine lv_iload C.1 C.2.1 dX9_value_179 (lv_at hl 1 rfl) ?_
    refine lv_iadd C.1 C.2.1 dX9_value_181 ?_
    refine lv_goto (tgt := 189) C.1 C.2.1 dX9_value_182 (by decide) ?_
    exact t_X9_value_189 hfl C hr ht h hs (lv_sub hl [] rfl)
set_option maxHeartbeats 4000000 in
set_option maxRecDepth 100000 in
theorem t_X9_value_156 {l : Launch} {g : PP} {p : Program} {e : Env} {s : State} {m : MethodId} {args : Array Value} {below : List Frame} {meth : Method} {c : Code} (hfl : l.stackTraces = false) (C : Cx g p s m meth c cX9_value 10 "Tillhouse$Text") (hr : meth.sig.returnType = some (.object "Tillhouse$Value")) (ht : ∀ x ∈ c.exceptionTable.toList, False) {N : Nat} {k19 : Sto × Nat × Nat × Int64 × Int32 × Int32 × Int32 × Int32 × Int32 × Int32 → Option ((Nat ⊕ Nat) × Sto × Nat)} {σ : Sto} {sz : Nat} {a0 : Nat} {v1 : Int64} {v3 : Int32} {v4 : Int32} {v5 : Int32} {v6 : Int32} {v7 : Int32} {v8 : Int32} {r9 : Nat ⊕ Nat} {σ9 : Sto} {sz9 : Nat}
    (h : b_X9_value_156 N k19 σ sz a0 v1 v3 v4 v5 v6 v7 v8 = some (r9, σ9, sz9)) (hk19 : ∀ (σ : Sto) (sz : Nat) (a0 : Nat) (v1 : Int64) (v3 : Int32) (v4 : Int32) (v5 : Int32) (v6 : Int32) (v7 : Int32) (v8 : Int32), k19 (σ, sz, a0, v1, v3, v4, v5, v6, v7, v8) = some (r9, σ9, sz9) → ∀ (H : Heap) (locs : List Loc) (ls : Array Slot), HS g s σ sz H locs → lv_has ls 10 [(0, .ref a0), (1, .long v1), (3, .int v3), (4, .int v4), (5, .int v5), (6, .int v6), (7, .int v7), (8, .int v8)] → W p l e (rmk 7 1 6 122) s m args below meth c H locs 0 0 (vx_MQ below (PstX g (Sum.map id vR r9) σ9 sz9) (XpX g (Sum.map id vR r9) σ9 sz9) args s 1 6 (Aw g)) (F0 m 19 ls []))
    {H : Heap} {locs : List Loc} {ls : Array Slot} (hs : HS g s σ sz H locs) (hl : lv_has ls 10 [(0, .ref a0), (1, .long v1), (3, .int v3), (4, .int v4), (5, .int v5), (6, .int v6), (7, .int v7), (8, .int v8)]) : W p l e (rmk 7 1 6 122) s m args below meth c H locs 0 0 (vx_MQ below (PstX g (Sum.map id vR r9) σ9 sz9) (XpX g (Sum.map id vR r9) σ9 sz9) args s 1 6 (Aw g)) (F0 m 156 ls []) := by
  unfold b_X9_value_156 at h
  replace h := ol h; obtain ⟨x1, ex1, h⟩ := h
  refine lv_iinc (v := x1) (lv' := [(8, .int x1), (0, .ref a0), (1, .long v1), (3, .int v3), (4, .int v4), (5, .int v5), (6, .int v6), (7, .int v7)]) C.1 C.2.1 dX9_value_156 hl (k := 7) rfl (by rw [ex1]; rfl) (by decide) rfl (fun ls hl => ?_)
  refine lv_goto (tgt := 19) C.1 C.2.1 dX9_value_159 (by decide) ?_
  exact hk19 σ sz a0 v1 v3 v4 v5 v6 v7 x1 h _ _ _ hs (lv_sub hl [1, 2, 3, 4, 5, 6, 7, 0] rfl)
set_option maxHeartbeats 4000000 in
set_option maxRecDepth 100000 in
theorem t_X9_value_154 {l : Launch} {g : PP} {p : Program} {e : Env} {s : State} {m : MethodId} {args : Array Value} {below : List Frame} {meth : Method} {c : Code} (hfl : l.stackTraces = false) (C : Cx g p s m meth c cX9_value 10 "Tillhouse$Text") (hr : meth.sig.returnType = some (.object "Tillhouse$Value")) (ht : ∀ x ∈ c.exceptionTable.toList, False) {N : Nat} {k19 : Sto × Nat × Nat × Int64 × Int32 × Int32 × Int32 × Int32 × Int32 × Int32 → Option ((Nat ⊕ Nat) × Sto × Nat)} {σ : Sto} {sz : Nat} {a0 : Nat} {v1 : Int64} {v4 : Int32} {v5 : Int32} {v6 : Int32} {v7 : Int32} {v8 : Int32} {s0 : Int32} {s1 : Int32} {r9 : Nat ⊕ Nat} {σ9 : Sto} {sz9 : Nat}
    (h : b_X9_value_154 N k19 σ sz a0 v1 v4 v5 v6 v7 v8 s0 s1 = some (r9, σ9, sz9)) (hk19 : ∀ (σ : Sto) (sz : Nat) (a0 : Nat) (v1 : Int64) (v3 : Int32) (v4 : Int32) (v5 : Int32) (v6 : Int32) (v7 : Int32) (v8 : Int32), k19 (σ, sz, a0, v1, v3, v4, v5, v6, v7, v8) = some (r9, σ9, sz9) → ∀ (H : Heap) (locs : List Loc) (ls : Array Slot), HS g s σ sz H locs → lv_has ls 10 [(0, .ref a0), (1, .long v1), (3, .int v3), (4, .int v4), (5, .int v5), (6, .int v6), (7, .int v7), (8, .int v8)] → W p l e (rmk 7 1 6 122) s m args below meth c H locs 0 0 (vx_MQ below (PstX g (Sum.map id vR r9) σ9 sz9) (XpX g (Sum.map id vR r9) σ9 sz9) args s 1 6 (Aw g)) (F0 m 19 ls []))
    {H : Heap} {locs : List Loc} {ls : Array Slot} (hs : HS g s σ sz H locs) (hl : lv_has ls 10 [(0, .ref a0), (1, .long v1), (4, .int v4), (5, .int v5), (6, .int v6), (7, .int v7), (8, .int v8)]) : W p l e (rmk 7 1 6 122) s m args below meth c H locs 0 0 (vx_MQ below (PstX g (Sum.map id vR r9) σ9 sz9) (XpX g (Sum.map id vR r9) σ9 sz9) args s 1 6 (Aw g)) (F0 m 154 ls [.int s0, .int s1]) := by
  unfold b_X9_value_154 at h
  refine lv_iadd C.1 C.2.1 dX9_value_154 ?_
  replace h := ol h; obtain ⟨x1, ex1, h⟩ := h
  refine sx_nmI ex1 ?_
  refine lv_istore_n (lv' := [(3, .int x1), (0, .ref a0), (1, .long v1), (4, .int v4), (5, .int v5), (6, .int v6), (7, .int v7), (8, .int v8)]) C.1 C.2.1 dX9_value_155 rfl hl (by decide) rfl (fun ls hl => ?_)
  exact t_X9_value_156 hfl C hr ht h hk19 hs (lv_sub hl [1, 2, 0, 3, 4, 5, 6, 7] rfl)
set_option maxHeartbeats 4000000 in
set_option maxRecDepth 100000 in
theorem t_X9_value_124 {l : Launch} {g : PP} {p : Program} {e : Env} {s : State} {m : MethodId} {args : Array Value} {below : List Frame} {meth : Method} {c : Code} (hfl : l.stackTraces = false) (C : Cx g p s m meth c cX9_value 10 "Tillhouse$Text") (hr : meth.sig.returnType = some (.object "Tillhouse$Value")) (ht : ∀ x ∈ c.exceptionTable.toList, False) {N : Nat} {k19 : Sto × Nat × Nat × Int64 × Int32 × Int32 × Int32 × Int32 × Int32 × Int32 → Option ((Nat ⊕ Nat) × Sto × Nat)} {σ : Sto} {sz : Nat} {a0 : Nat} {v1 : Int64} {v3 : Int32} {v4 : Int32} {v5 : Int32} {v6 : Int32} {v7 : Int32} {v8 : Int32} {v9 : Int32} {r9 : Nat ⊕ Nat} {σ9 : Sto} {sz9 : Nat}
    (h : b_X9_value_124 N k19 σ sz a0 v1 v3 v4 v5 v6 v7 v8 v9 = some (r9, σ9, sz9)) (hk19 : ∀ (σ : Sto) (sz : Nat) (a0 : Nat) (v1 : Int64) (v3 : Int32) (v4 : Int32) (v5 : Int32) (v6 : Int32) (v7 : Int32) (v8 : Int32), k19 (σ, sz, a0, v1, v3, v4, v5, v6, v7, v8) = some (r9, σ9, sz9) → ∀ (H : Heap) (locs : List Loc) (ls : Array Slot), HS g s σ sz H locs → lv_has ls 10 [(0, .ref a0), (1, .long v1), (3, .int v3), (4, .int v4), (5, .int v5), (6, .int v6), (7, .int v7), (8, .int v8)] → W p l e (rmk 7 1 6 122) s m args below meth c H locs 0 0 (vx_MQ below (PstX g (Sum.map id vR r9) σ9 sz9) (XpX g (Sum.map id vR r9) σ9 sz9) args s 1 6 (Aw g)) (F0 m 19 ls []))
    {H : Heap} {locs : List Loc} {ls : Array Slot} (hs : HS g s σ sz H locs) (hl : lv_has ls 10 [(0, .ref a0), (1, .long v1), (3, .int v3), (4, .int v4), (5, .int v5), (6, .int v6), (7, .int v7), (8, .int v8), (9, .int v9)]) : W p l e (rmk 7 1 6 122) s m args below meth c H locs 0 0 (vx_MQ below (PstX g (Sum.map id vR r9) σ9 sz9) (XpX g (Sum.map id vR r9) σ9 sz9) args s 1 6 (Aw g)) (F0 m 124 ls []) := by
  unfold b_X9_value_124 at h
  refine lv_iload C.1 C.2.1 dX9_value_124 (lv_at hl 8 rfl) ?_
  replace h := ob h; obtain ⟨x1, ex1, h⟩ := h
  refine sx_callS (As := [.int v9]) (rest := []) C hs (c_X9_isDigit ex1) mo_X9_isDigit q299 rfl hl.1 ⟨⟨(Nat.le_of_ble_eq_true rfl), (Nat.le_of_ble_eq_true rfl)⟩, (Nat.le_of_ble_eq_true rfl), (Nat.le_of_ble_eq_true rfl)⟩ rfl (Nat.le_of_ble_eq_true rfl) dX9_value_126 (fun H locs hs => ?_)
  refine W.eq (g2 := F0 m 129 ls [.int x1]) rfl ?_
  refine lv_if_eq (tgt := 156) C.1 C.2.1 dX9_value_129 (by decide) (fun c2 => ?_) (fun c2 => ?_)
  · replace h := ip c2 h
    exact t_X9_value_156 hfl C hr ht h hk19 hs (lv_sub hl [0, 1, 2, 3, 4, 5, 6, 7] rfl)
  · replace h := iN c2 h
    refine lv_lload_n C.1 C.2.1 dX9_value_132 rfl (lv_at hl 1 rfl) ?_
    refine lv_iload C.1 C.2.1 dX9_value_133 (lv_at hl 8 rfl) ?_
    refine lv_bipush (v := 48) C.1 C.2.1 dX9_value_135 (by decide) ?_
    refine lv_isub C.1 C.2.1 dX9_value_137 ?_
    replace h := ob h; obtain ⟨u4, ex3, h⟩ := h
    rcases u4 with j5 | x3
    · replace h := bsl h
      cases h
      refine sx_xcallS (As := [.long v1, .int (v9 - 48)]) (rest := []) C hs (c_X9_longer hfl ex3) mo_X9_longer q549 rfl hl.1 ⟨⟨(Nat.le_of_ble_eq_true rfl), (Nat.le_of_ble_eq_true rfl)⟩, (Nat.le_of_ble_eq_true rfl), (Nat.le_of_ble_eq_true rfl)⟩ rfl (Nat.le_of_ble_eq_true rfl) dX9_value_138 (fun k9 hk9 ce q9 H locs a1 a2 a3 a4 a5 a6 => ?_) (fun vr hv => (inlr hv).elim)
      obtain rfl := Sum.inl.inj hk9
      exact sx_out C ht a1 a2 a3 a4 a5 a6 (Nat.le_of_ble_eq_true rfl) (Nat.le_of_ble_eq_true rfl)
    · replace h := bsr h
      refine sx_xcallS (As := [.long v1, .int (v9 - 48)]) (rest := []) C hs (c_X9_longer hfl ex3) mo_X9_longer q549 rfl hl.1 ⟨⟨(Nat.le_of_ble_eq_true rfl), (Nat.le_of_ble_eq_true rfl)⟩, (Nat.le_of_ble_eq_true rfl), (Nat.le_of_ble_eq_true rfl)⟩ rfl (Nat.le_of_ble_eq_true rfl) dX9_value_138 (fun k9 hk9 => (inrl hk9).elim) (fun vr hv H locs hs => ?_)
      obtain rfl := Sum.inr.inj hv
      refine W.eq (g2 := F0 m 141 ls [.long x3]) rfl ?_
      refine W.widen (k := 0) (n := 0) (Nat.le_of_ble_eq_true rfl) (Nat.le_of_ble_eq_true rfl) ?_
      refine lv_lstore_n (lv' := [(1, .long x3), (0, .ref a0), (3, .int v3), (4, .int v4), (5, .int v5), (6, .int v6), (7, .int v7), (8, .int v8), (9, .int v9)]) C.1 C.2.1 dX9_value_141 rfl hl (by decide) rfl (fun ls hl => ?_)
      refine lv_iload_n C.1 C.2.1 dX9_value_142 rfl (lv_at hl 2 rfl) ?_
      refine lv_iload C.1 C.2.1 dX9_value_143 (lv_at hl 6 rfl) ?_
      refine lv_iconst (v := 4) C.1 C.2.1 dX9_value_145 (by decide) ?_
      refine lv_icmp_ne (tgt := 153) C.1 C.2.1 dX9_value_146 (by decide) (fun c6 => ?_) (fun c6 => ?_)
      · replace h := iN c6 h
        refine lv_iconst (v := 0) C.1 C.2.1 dX9_value_153 (by decide) ?_
        exact t_X9_value_154 hfl C hr ht h hk19 hs (lv_sub hl [1, 0, 3, 4, 5, 6, 7] rfl)
      · replace h := ip c6 h
        refine lv_iconst (v := 1) C.1 C.2.1 dX9_value_149 (by decide) ?_
        refine lv_goto (tgt := 154) C.1 C.2.1 dX9_value_150 (by decide) ?_
        exact t_X9_value_154 hfl C hr ht h hk19 hs (lv_sub hl [1, 0, 3, 4, 5, 6, 7] rfl)
set_option maxHeartbeats 4000000 in
set_option maxRecDepth 100000 in
theorem t_X9_value_88 {l : Launch} {g : PP} {p : Program} {e : Env} {s : State} {m : MethodId} {args : Array Value} {below : List Frame} {meth : Method} {c : Code} (hfl : l.stackTraces = false) (C : Cx g p s m meth c cX9_value 10 "Tillhouse$Text") (hr : meth.sig.returnType = some (.object "Tillhouse$Value")) (ht : ∀ x ∈ c.exceptionTable.toList, False) {N : Nat} {k19 : Sto × Nat × Nat × Int64 × Int32 × Int32 × Int32 × Int32 × Int32 × Int32 → Option ((Nat ⊕ Nat) × Sto × Nat)} {σ : Sto} {sz : Nat} {a0 : Nat} {v1 : Int64} {v3 : Int32} {v4 : Int32} {v5 : Int32} {v7 : Int32} {v8 : Int32} {s0 : Int32} {r9 : Nat ⊕ Nat} {σ9 : Sto} {sz9 : Nat}
    (h : b_X9_value_88 N k19 σ sz a0 v1 v3 v4 v5 v7 v8 s0 = some (r9, σ9, sz9)) (hk19 : ∀ (σ : Sto) (sz : Nat) (a0 : Nat) (v1 : Int64) (v3 : Int32) (v4 : Int32) (v5 : Int32) (v6 : Int32) (v7 : Int32) (v8 : Int32), k19 (σ, sz, a0, v1, v3, v4, v5, v6, v7, v8) = some (r9, σ9, sz9) → ∀ (H : Heap) (locs : List Loc) (ls : Array Slot), HS g s σ sz H locs → lv_has ls 10 [(0, .ref a0), (1, .long v1), (3, .int v3), (4, .int v4), (5, .int v5), (6, .int v6), (7, .int v7), (8, .int v8)] → W p l e (rmk 7 1 6 122) s m args below meth c H locs 0 0 (vx_MQ below (PstX g (Sum.map id vR r9) σ9 sz9) (XpX g (Sum.map id vR r9) σ9 sz9) args s 1 6 (Aw g)) (F0 m 19 ls []))
    {H : Heap} {locs : List Loc} {ls : Array Slot} (hs : HS g s σ sz H locs) (hl : lv_has ls 10 [(0, .ref a0), (1, .long v1), (3, .int v3), (4, .int v4), (5, .int v5), (7, .int v7), (8, .int v8)]) : W p l e (rmk 7 1 6 122) s m args below meth c H locs 0 0 (vx_MQ below (PstX g (Sum.map id vR r9) σ9 sz9) (XpX g (Sum.map id vR r9) σ9 sz9) args s 1 6 (Aw g)) (F0 m 88 ls [.int s0]) := by
  unfold b_X9_value_88 at h
  refine lv_istore (lv' := [(6, .int s0), (0, .ref a0), (1, .long v1), (3, .int v3), (4, .int v4), (5, .int v5), (7, .int v7), (8, .int v8)]) C.1 C.2.1 dX9_value_88 hl (by decide) rfl (fun ls hl => ?_)
  refine lv_goto (tgt := 156) C.1 C.2.1 dX9_value_90 (by decide) ?_
  exact t_X9_value_156 hfl C hr ht h hk19 hs (lv_sub hl [1, 2, 3, 4, 5, 0, 6, 7] rfl)
set_option maxHeartbeats 4000000 in
set_option maxRecDepth 100000 in
theorem t_X9_value_64 {l : Launch} {g : PP} {p : Program} {e : Env} {s : State} {m : MethodId} {args : Array Value} {below : List Frame} {meth : Method} {c : Code} (hfl : l.stackTraces = false) (C : Cx g p s m meth c cX9_value 10 "Tillhouse$Text") (hr : meth.sig.returnType = some (.object "Tillhouse$Value")) (ht : ∀ x ∈ c.exceptionTable.toList, False) {N : Nat} {k19 : Sto × Nat × Nat × Int64 × Int32 × Int32 × Int32 × Int32 × Int32 × Int32 → Option ((Nat ⊕ Nat) × Sto × Nat)} {σ : Sto} {sz : Nat} {a0 : Nat} {v1 : Int64} {v3 : Int32} {v4 : Int32} {v6 : Int32} {v7 : Int32} {v8 : Int32} {s0 : Int32} {r9 : Nat ⊕ Nat} {σ9 : Sto} {sz9 : Nat}
    (h : b_X9_value_64 N k19 σ sz a0 v1 v3 v4 v6 v7 v8 s0 = some (r9, σ9, sz9)) (hk19 : ∀ (σ : Sto) (sz : Nat) (a0 : Nat) (v1 : Int64) (v3 : Int32) (v4 : Int32) (v5 : Int32) (v6 : Int32) (v7 : Int32) (v8 : Int32), k19 (σ, sz, a0, v1, v3, v4, v5, v6, v7, v8) = some (r9, σ9, sz9) → ∀ (H : Heap) (locs : List Loc) (ls : Array Slot), HS g s σ sz H locs → lv_has ls 10 [(0, .ref a0), (1, .long v1), (3, .int v3), (4, .int v4), (5, .int v5), (6, .int v6), (7, .int v7), (8, .int v8)] → W p l e (rmk 7 1 6 122) s m args below meth c H locs 0 0 (vx_MQ below (PstX g (Sum.map id vR r9) σ9 sz9) (XpX g (Sum.map id vR r9) σ9 sz9) args s 1 6 (Aw g)) (F0 m 19 ls []))
    {H : Heap} {locs : List Loc} {ls : Array Slot} (hs : HS g s σ sz H locs) (hl : lv_has ls 10 [(0, .ref a0), (1, .long v1), (3, .int v3), (4, .int v4), (6, .int v6), (7, .int v7), (8, .int v8)]) : W p l e (rmk 7 1 6 122) s m args below meth c H locs 0 0 (vx_MQ below (PstX g (Sum.map id vR r9) σ9 sz9) (XpX g (Sum.map id vR r9) σ9 sz9) args s 1 6 (Aw g)) (F0 m 64 ls [.int s0]) := by
  unfold b_X9_value_64 at h
  refine lv_istore (lv' := [(5, .int s0), (0, .ref a0), (1, .long v1), (3, .int v3), (4, .int v4), (6, .int v6), (7, .int v7), (8, .int v8)]) C.1 C.2.1 dX9_value_64 hl (by decide) rfl (fun ls hl => ?_)
  refine lv_goto (tgt := 156) C.1 C.2.1 dX9_value_66 (by decide) ?_
  exact t_X9_value_156 hfl C hr ht h hk19 hs (lv_sub hl [1, 2, 3, 4, 0, 5, 6, 7] rfl)
set_option maxHeartbeats 4000000 in
set_option maxRecDepth 100000 in
theorem tb_X9_value_19 {l : Launch} {g : PP} {p : Program} {e : Env} {s : State} {m : MethodId} {args : Array Value} {below : List Frame} {meth : Method} {c : Code} (hfl : l.stackTraces = false) (C : Cx g p s m meth c cX9_value 10 "Tillhouse$Text") (hr : meth.sig.returnType = some (.object "Tillhouse$Value")) (ht : ∀ x ∈ c.exceptionTable.toList, False) {N : Nat}  {k19 : Sto × Nat × Nat × Int64 × Int32 × Int32 × Int32 × Int32 × Int32 × Int32 → Option ((Nat ⊕ Nat) × Sto × Nat)} {σ : Sto} {sz : Nat} {a0 : Nat} {v1 : Int64} {v3 : Int32} {v4 : Int32} {v5 : Int32} {v6 : Int32} {v7 : Int32} {v8 : Int32} {r9 : Nat ⊕ Nat} {σ9 : Sto} {sz9 : Nat}
    (h : b_X9_value_19_body N k19 σ sz a0 v1 v3 v4 v5 v6 v7 v8 = some (r9, σ9, sz9))  (hk19 : ∀ (σ : Sto) (sz : Nat) (a0 : Nat) (v1 : Int64) (v3 : Int32) (v4 : Int32) (v5 : Int32) (v6 : Int32) (v7 : Int32) (v8 : Int32), k19 (σ, sz, a0, v1, v3, v4, v5, v6, v7, v8) = some (r9, σ9, sz9) → ∀ (H : Heap) (locs : List Loc) (ls : Array Slot), HS g s σ sz H locs → lv_has ls 10 [(0, .ref a0), (1, .long v1), (3, .int v3), (4, .int v4), (5, .int v5), (6, .int v6), (7, .int v7), (8, .int v8)] → W p l e (rmk 7 1 6 122) s m args below meth c H locs 0 0 (vx_MQ below (PstX g (Sum.map id vR r9) σ9 sz9) (XpX g (Sum.map id vR r9) σ9 sz9) args s 1 6 (Aw g)) (F0 m 19 ls []))
    {H : Heap} {locs : List Loc} {ls : Array Slot} (hs : HS g s σ sz H locs) (hl : lv_has ls 10 [(0, .ref a0), (1, .long v1), (3, .int v3), (4, .int v4), (5, .int v5), (6, .int v6), (7, .int v7), (8, .int v8)]) : W p l e (rmk 7 1 6 122) s m args below meth c H locs 0 0 (vx_MQ below (PstX g (Sum.map id vR r9) σ9 sz9) (XpX g (Sum.map id vR r9) σ9 sz9) args s 1 6 (Aw g)) (F0 m 19 ls []) := by
  unfold b_X9_value_19_body at h
  refine lv_iload C.1 C.2.1 dX9_value_19 (lv_at hl 7 rfl) ?_
  refine lv_aload_n C.1 C.2.1 dX9_value_21 rfl (lv_at hl 0 rfl) ?_
  replace h := ob h; obtain ⟨x1, ex1, h⟩ := h
  refine sx_getV C hs fo_X9_15 (gI_v ex1) dX9_value_22 ?_
  refine lv_icmp_ge (tgt := 162) C.1 C.2.1 dX9_value_25 (by decide) (fun c2 => ?_) (fun c2 => ?_)
  · replace h := ip c2 h
    refine lv_iload C.1 C.2.1 dX9_value_162 (lv_at hl 4 rfl) ?_
    refine lv_if_eq (tgt := 172) C.1 C.2.1 dX9_value_164 (by decide) (fun c3 => ?_) (fun c3 => ?_)
    · replace h := ip c3 h
      refine lv_lload_n C.1 C.2.1 dX9_value_172 rfl (lv_at hl 1 rfl) ?_
      exact t_X9_value_173 hfl C hr ht h hs (lv_sub hl [2, 3, 5] rfl)
    · replace h := iN c3 h
      refine lv_lload_n C.1 C.2.1 dX9_value_167 rfl (lv_at hl 1 rfl) ?_
      refine lv_lneg C.1 C.2.1 dX9_value_168 ?_
      refine lv_goto (tgt := 173) C.1 C.2.1 dX9_value_169 (by decide) ?_
      exact t_X9_value_173 hfl C hr ht h hs (lv_sub hl [2, 3, 5] rfl)
  · replace h := iN c2 h
    refine lv_aload_n C.1 C.2.1 dX9_value_28 rfl (lv_at hl 0 rfl) ?_
    replace h := ob h; obtain ⟨p4, ep4, h⟩ := h
    refine sx_getV C hs fo_X9_11 (gR_v ep4) dX9_value_29 ?_
    refine lv_iload C.1 C.2.1 dX9_value_32 (lv_at hl 7 rfl) ?_
    replace h := ob h; obtain ⟨x5, ex5, h⟩ := h
    refine sx_cald C hs ex5 dX9_value_34 ?_
    refine lv_istore (lv' := [(9, .int x5), (0, .ref a0), (1, .long v1), (3, .int v3), (4, .int v4), (5, .int v5), (6, .int v6), (7, .int v7), (8, .int v8)]) C.1 C.2.1 dX9_value_35 hl (by decide) rfl (fun ls hl => ?_)
    refine lv_iload C.1 C.2.1 dX9_value_37 (lv_at hl 7 rfl) ?_
    refine lv_iload C.1 C.2.1 dX9_value_39 (lv_at hl 0 rfl) ?_
    replace h := ob h; obtain ⟨x6, ex6, h⟩ := h
    refine sx_callS (As := [.int v7, .int x5]) (rest := []) C hs (c_X9_next ex6) mo_X9_next q287 rfl hl.1 ⟨⟨(Nat.le_of_ble_eq_true rfl), (Nat.le_of_ble_eq_true rfl)⟩, (Nat.le_of_ble_eq_true rfl), (Nat.le_of_ble_eq_true rfl)⟩ rfl (Nat.le_of_ble_eq_true rfl) dX9_value_41 (fun H locs hs => ?_)
    refine W.eq (g2 := F0 m 44 ls [.int x6]) rfl ?_
    refine lv_istore (lv' := [(7, .int x6), (9, .int x5), (0, .ref a0), (1, .long v1), (3, .int v3), (4, .int v4), (5, .int v5), (6, .int v6), (8, .int v8)]) C.1 C.2.1 dX9_value_44 hl (by decide) rfl (fun ls hl => ?_)
    refine lv_iload C.1 C.2.1 dX9_value_46 (lv_at hl 0 rfl) ?_
    refine lv_iconst (v := 1) C.1 C.2.1 dX9_value_48 (by decide) ?_
    refine lv_icmp_ne (tgt := 69) C.1 C.2.1 dX9_value_49 (by decide) (fun c7 => ?_) (fun c7 => ?_)
    · replace h := iN c7 h
      refine lv_iload C.1 C.2.1 dX9_value_69 (lv_at hl 0 rfl) ?_
      refine lv_bipush (v := 6) C.1 C.2.1 dX9_value_71 (by decide) ?_
      refine lv_icmp_ne (tgt := 93) C.1 C.2.1 dX9_value_73 (by decide) (fun c8 => ?_) (fun c8 => ?_)
      · replace h := iN c8 h
        refine lv_iload C.1 C.2.1 dX9_value_93 (lv_at hl 1 rfl) ?_
        replace h := ob h; obtain ⟨x9, ex9, h⟩ := h
        refine sx_callS (As := [.int x5]) (rest := []) C hs (c_X9_isDigit ex9) mo_X9_isDigit q299 rfl hl.1 ⟨⟨(Nat.le_of_ble_eq_true rfl), (Nat.le_of_ble_eq_true rfl)⟩, (Nat.le_of_ble_eq_true rfl), (Nat.le_of_ble_eq_true rfl)⟩ rfl (Nat.le_of_ble_eq_true rfl) dX9_value_95 (fun H locs hs => ?_)
        refine W.eq (g2 := F0 m 98 ls [.int x9]) rfl ?_
        refine lv_if_eq (tgt := 124) C.1 C.2.1 dX9_value_98 (by decide) (fun c10 => ?_) (fun c10 => ?_)
        · replace h := ip c10 h
          exact t_X9_value_124 hfl C hr ht h hk19 hs (lv_sub hl [2, 3, 4, 5, 6, 7, 0, 8, 1] rfl)
        · replace h := iN c10 h
          refine lv_iload C.1 C.2.1 dX9_value_101 (lv_at hl 0 rfl) ?_
          refine lv_bipush (v := 7) C.1 C.2.1 dX9_value_103 (by decide) ?_
          refine lv_icmp_lt (tgt := 124) C.1 C.2.1 dX9_value_105 (by decide) (fun c11 => ?_) (fun c11 => ?_)
          · replace h := ip c11 h
            exact t_X9_value_124 hfl C hr ht h hk19 hs (lv_sub hl [2, 3, 4, 5, 6, 7, 0, 8, 1] rfl)
          · replace h := iN c11 h
            refine lv_iload C.1 C.2.1 dX9_value_108 (lv_at hl 5 rfl) ?_
            refine lv_bipush (v := 10) C.1 C.2.1 dX9_value_110 (by decide) ?_
            refine lv_imul C.1 C.2.1 dX9_value_112 ?_
            refine lv_iload C.1 C.2.1 dX9_value_113 (lv_at hl 1 rfl) ?_
            refine lv_bipush (v := 48) C.1 C.2.1 dX9_value_115 (by decide) ?_
            refine lv_isub C.1 C.2.1 dX9_value_117 ?_
            refine lv_iadd C.1 C.2.1 dX9_value_118 ?_
            replace h := ol h; obtain ⟨x12, ex12, h⟩ := h
            refine sx_nmI ex12 ?_
            refine lv_istore (lv' := [(4, .int x12), (7, .int x6), (9, .int x5), (0, .ref a0), (1, .long v1), (3, .int v3), (5, .int v5), (6, .int v6), (8, .int v8)]) C.1 C.2.1 dX9_value_119 hl (by decide) rfl (fun ls hl => ?_)
            refine lv_goto (tgt := 156) C.1 C.2.1 dX9_value_121 (by decide) ?_
            exact t_X9_value_156 hfl C hr ht h hk19 hs (lv_sub hl [3, 4, 5, 0, 6, 7, 1, 8] rfl)
      · replace h := ip c8 h
        refine lv_iload C.1 C.2.1 dX9_value_76 (lv_at hl 1 rfl) ?_
        refine lv_bipush (v := 45) C.1 C.2.1 dX9_value_78 (by decide) ?_
        refine lv_icmp_ne (tgt := 87) C.1 C.2.1 dX9_value_80 (by decide) (fun c13 => ?_) (fun c13 => ?_)
        · replace h := iN c13 h
          refine lv_iconst (v := 0) C.1 C.2.1 dX9_value_87 (by decide) ?_
          exact t_X9_value_88 hfl C hr ht h hk19 hs (lv_sub hl [2, 3, 4, 5, 6, 0, 8] rfl)
        · replace h := ip c13 h
          refine lv_iconst (v := 1) C.1 C.2.1 dX9_value_83 (by decide) ?_
          refine lv_goto (tgt := 88) C.1 C.2.1 dX9_value_84 (by decide) ?_
          exact t_X9_value_88 hfl C hr ht h hk19 hs (lv_sub hl [2, 3, 4, 5, 6, 0, 8] rfl)
    · replace h := ip c7 h
      refine lv_iload C.1 C.2.1 dX9_value_52 (lv_at hl 1 rfl) ?_
      refine lv_bipush (v := 45) C.1 C.2.1 dX9_value_54 (by decide) ?_
      refine lv_icmp_ne (tgt := 63) C.1 C.2.1 dX9_value_56 (by decide) (fun c14 => ?_) (fun c14 => ?_)
      · replace h := iN c14 h
        refine lv_iconst (v := 0) C.1 C.2.1 dX9_value_63 (by decide) ?_
        exact t_X9_value_64 hfl C hr ht h hk19 hs (lv_sub hl [2, 3, 4, 5, 7, 0, 8] rfl)
      · replace h := ip c14 h
        refine lv_iconst (v := 1) C.1 C.2.1 dX9_value_59 (by decide) ?_
        refine lv_goto (tgt := 64) C.1 C.2.1 dX9_value_60 (by decide) ?_
        exact t_X9_value_64 hfl C hr ht h hk19 hs (lv_sub hl [2, 3, 4, 5, 7, 0, 8] rfl)
set_option maxHeartbeats 4000000 in
set_option maxRecDepth 100000 in
theorem tl_X9_value_19 {l : Launch} {g : PP} {p : Program} {e : Env} {s : State} {m : MethodId} {args : Array Value} {below : List Frame} {meth : Method} {c : Code} (hfl : l.stackTraces = false) (C : Cx g p s m meth c cX9_value 10 "Tillhouse$Text") (hr : meth.sig.returnType = some (.object "Tillhouse$Value")) (ht : ∀ x ∈ c.exceptionTable.toList, False) {N : Nat}    {r9 : Nat ⊕ Nat} {σ9 : Sto} {sz9 : Nat}  : ∀ (n : Nat) (σ : Sto) (sz : Nat) (a0 : Nat) (v1 : Int64) (v3 : Int32) (v4 : Int32) (v5 : Int32) (v6 : Int32) (v7 : Int32) (v8 : Int32), lp (fun k e => b_X9_value_19_body N k e.1 e.2.1 e.2.2.1 e.2.2.2.1 e.2.2.2.2.1 e.2.2.2.2.2.1 e.2.2.2.2.2.2.1 e.2.2.2.2.2.2.2.1 e.2.2.2.2.2.2.2.2.1 e.2.2.2.2.2.2.2.2.2) n (σ, sz, a0, v1, v3, v4, v5, v6, v7, v8) = some (r9, σ9, sz9) → ∀ (H : Heap) (locs : List Loc) (ls : Array Slot), HS g s σ sz H locs → lv_has ls 10 [(0, .ref a0), (1, .long v1), (3, .int v3), (4, .int v4), (5, .int v5), (6, .int v6), (7, .int v7), (8, .int v8)] → W p l e (rmk 7 1 6 122) s m args below meth c H locs 0 0 (vx_MQ below (PstX g (Sum.map id vR r9) σ9 sz9) (XpX g (Sum.map id vR r9) σ9 sz9) args s 1 6 (Aw g)) (F0 m 19 ls []) := by
  intro n
  induction n with
  | zero => intro σ sz a0 v1 v3 v4 v5 v6 v7 v8 h; exact absurd h (fun q => nomatch q)
  | succ n ih =>
    intro σ sz a0 v1 v3 v4 v5 v6 v7 v8 h H locs ls hs hl
    exact tb_X9_value_19 (N := N) hfl C hr ht h (fun σ sz a0 v1 v3 v4 v5 v6 v7 v8 h H locs ls hs hl => ih σ sz a0 v1 v3 v4 v5 v6 v7 v8 h H locs ls hs hl) hs hl
set_option maxHeartbeats 4000000 in
set_option maxRecDepth 100000 in
theorem t_X9_value_19 {l : Launch} {g : PP} {p : Program} {e : Env} {s : State} {m : MethodId} {args : Array Value} {below : List Frame} {meth : Method} {c : Code} (hfl : l.stackTraces = false) (C : Cx g p s m meth c cX9_value 10 "Tillhouse$Text") (hr : meth.sig.returnType = some (.object "Tillhouse$Value")) (ht : ∀ x ∈ c.exceptionTable.toList, False) {N : Nat}  {σ : Sto} {sz : Nat} {a0 : Nat} {v1 : Int64} {v3 : Int32} {v4 : Int32} {v5 : Int32} {v6 : Int32} {v7 : Int32} {v8 : Int32} {r9 : Nat ⊕ Nat} {σ9 : Sto} {sz9 : Nat}
    (h : b_X9_value_19 N σ sz a0 v1 v3 v4 v5 v6 v7 v8 = some (r9, σ9, sz9)) 
    {H : Heap} {locs : List Loc} {ls : Array Slot} (hs : HS g s σ sz H locs) (hl : lv_has ls 10 [(0, .ref a0), (1, .long v1), (3, .int v3), (4, .int v4), (5, .int v5), (6, .int v6), (7, .int v7), (8, .int v8)]) : W p l e (rmk 7 1 6 122) s m args below meth c H locs 0 0 (vx_MQ below (PstX g (Sum.map id vR r9) σ9 sz9) (XpX g (Sum.map id vR r9) σ9 sz9) args s 1 6 (Aw g)) (F0 m 19 ls []) := tl_X9_value_19 hfl C hr ht N σ sz a0 v1 v3 v4 v5 v6 v7 v8 h H locs ls hs hl
set_option maxHeartbeats 4000000 in
set_option maxRecDepth 100000 in
theorem c_X9_value {l : Launch} (hfl : l.stackTraces = false) {g : PP} {N : Nat} {σ : Sto} {sz : Nat} {a0 : Nat} {r9 : Nat ⊕ Nat} {σ9 : Sto} {sz9 : Nat} (h : f_X9_value N σ sz a0 = some (r9, σ9, sz9)) : vx_Met l yX9_value [Cond.code yX9_value cX9_value 10 (some (.object "Tillhouse$Value"))] (rmk 7 1 6 122) (Pre g σ sz [.ref a0]) (PstX g (Sum.map id vR r9) σ9 sz9) (XpX g (Sum.map id vR r9) σ9 sz9) 1 6 (Aw g) := by
  refine vx_ofW (cc := cX9_value) (maxL := 10) (ret := (some (.object "Tillhouse$Value"))) (by decide) rfl ?_
  intro p e s m args below meth c s₁ B hml ht hv
  obtain ⟨rfl, C, hs⟩ := ctx_of B hml hv
  have C : Cx g p s m meth c cX9_value 10 "Tillhouse$Text" := C
  have hr := B.returns
  have hl := lv_entry ([.ref a0]) (n := 10) (Nat.le_of_ble_eq_true rfl)
  rw [lg_entry_eq]
  generalize (lg_sl ([.ref a0]) ++ List.replicate (10 - (lg_sl ([.ref a0])).length) Slot.unset).toArray = ls at hl ⊢
  have hl : lv_has ls 10 [(0, .ref a0)] := hl
  unfold f_X9_value at h
  refine lv_lconst (v := 0) C.1 C.2.1 dX9_value_0 (by decide) ?_
  refine lv_lstore_n (lv' := [(1, .long 0), (0, .ref a0)]) C.1 C.2.1 dX9_value_1 rfl hl (by decide) rfl (fun ls hl => ?_)
  refine lv_iconst (v := 0) C.1 C.2.1 dX9_value_2 (by decide) ?_
  refine lv_istore_n (lv' := [(3, .int 0), (1, .long 0), (0, .ref a0)]) C.1 C.2.1 dX9_value_3 rfl hl (by decide) rfl (fun ls hl => ?_)
  refine lv_iconst (v := 0) C.1 C.2.1 dX9_value_4 (by decide) ?_
  refine lv_istore (lv' := [(4, .int 0), (3, .int 0), (1, .long 0), (0, .ref a0)]) C.1 C.2.1 dX9_value_5 hl (by decide) rfl (fun ls hl => ?_)
  refine lv_iconst (v := 0) C.1 C.2.1 dX9_value_7 (by decide) ?_
  refine lv_istore (lv' := [(5, .int 0), (4, .int 0), (3, .int 0), (1, .long 0), (0, .ref a0)]) C.1 C.2.1 dX9_value_8 hl (by decide) rfl (fun ls hl => ?_)
  refine lv_iconst (v := 0) C.1 C.2.1 dX9_value_10 (by decide) ?_
  refine lv_istore (lv' := [(6, .int 0), (5, .int 0), (4, .int 0), (3, .int 0), (1, .long 0), (0, .ref a0)]) C.1 C.2.1 dX9_value_11 hl (by decide) rfl (fun ls hl => ?_)
  refine lv_iconst (v := 0) C.1 C.2.1 dX9_value_13 (by decide) ?_
  refine lv_istore (lv' := [(7, .int 0), (6, .int 0), (5, .int 0), (4, .int 0), (3, .int 0), (1, .long 0), (0, .ref a0)]) C.1 C.2.1 dX9_value_14 hl (by decide) rfl (fun ls hl => ?_)
  refine lv_iconst (v := 0) C.1 C.2.1 dX9_value_16 (by decide) ?_
  refine lv_istore (lv' := [(8, .int 0), (7, .int 0), (6, .int 0), (5, .int 0), (4, .int 0), (3, .int 0), (1, .long 0), (0, .ref a0)]) C.1 C.2.1 dX9_value_17 hl (by decide) rfl (fun ls hl => ?_)
  exact t_X9_value_19 hfl C hr ht h hs (lv_sub hl [7, 6, 5, 4, 3, 2, 1, 0] rfl)
def b_X10_signed_10 (σ : Sto) (sz : Nat) (v3 : Int32) (s0 : Int64) : Option ((Nat ⊕ Nat) × Sto × Nat) :=
 b3 (f_X10_checked σ sz s0 v3) fun u4 τ2 y3 =>
 bs u4 (fun j5 => some (.inl j5, τ2, y3)) fun p1 =>
 some (.inr p1, τ2, y3)
def f_X10_signed (σ : Sto) (sz : Nat) (v0 : Int32) (v1 : Int64) (v3 : Int32) : Option ((Nat ⊕ Nat) × Sto × Nat) :=
 if v0 = 0 then
 b_X10_signed_10 σ sz v3 v1
 else
 b_X10_signed_10 σ sz v3 (-v1)
set_option maxHeartbeats 4000000 in
set_option maxRecDepth 100000 in
theorem t_X10_signed_10 {l : Launch} {g : PP} {p : Program} {e : Env} {s : State} {m : MethodId} {args : Array Value} {below : List Frame} {meth : Method} {c : Code} (hfl : l.stackTraces = false) (C : Cx g p s m meth c cX10_signed 4 "Tillhouse$Value") (hr : meth.sig.returnType = some (.object "Tillhouse$Value")) (ht : ∀ x ∈ c.exceptionTable.toList, False)   {σ : Sto} {sz : Nat} {v3 : Int32} {s0 : Int64} {r9 : Nat ⊕ Nat} {σ9 : Sto} {sz9 : Nat}
    (h : b_X10_signed_10 σ sz v3 s0 = some (r9, σ9, sz9)) 
    {H : Heap} {locs : List Loc} {ls : Array Slot} (hs : HS g s σ sz H locs) (hl : lv_has ls 4 [(3, .int v3)]) : W p l e (rmk 7 1 6 122) s m args below meth c H locs 0 0 (vx_MQ below (PstX g (Sum.map id vR r9) σ9 sz9) (XpX g (Sum.map id vR r9) σ9 sz9) args s 1 6 (Aw g)) (F0 m 10 ls [.long s0]) := by
  unfold b_X10_signed_10 at h
  refine lv_iload_n C.1 C.2.1 dX10_signed_10 rfl (lv_at hl 0 rfl) ?_
  replace h := ob3 h; obtain ⟨u4, τ2, y3, ep1, h⟩ := h
  rcases u4 with j5 | p1
  · replace h := bsl h
    cases h
    refine sx_xcallS (As := [.long s0, .int v3]) (rest := []) C hs (c_X10_checked hfl ep1) mo_X10_checked q642 rfl hl.1 ⟨⟨(Nat.le_of_ble_eq_true rfl), (Nat.le_of_ble_eq_true rfl)⟩, (Nat.le_of_ble_eq_true rfl), (Nat.le_of_ble_eq_true rfl)⟩ rfl (Nat.le_of_ble_eq_true rfl) dX10_signed_11 (fun k9 hk9 ce q9 H locs a1 a2 a3 a4 a5 a6 => ?_) (fun vr hv => (inlr hv).elim)
    obtain rfl := Sum.inl.inj hk9
    exact sx_out C ht a1 a2 a3 a4 a5 a6 (Nat.le_of_ble_eq_true rfl) (Nat.le_of_ble_eq_true rfl)
  · replace h := bsr h
    refine sx_xcallS (As := [.long s0, .int v3]) (rest := []) C hs (c_X10_checked hfl ep1) mo_X10_checked q642 rfl hl.1 ⟨⟨(Nat.le_of_ble_eq_true rfl), (Nat.le_of_ble_eq_true rfl)⟩, (Nat.le_of_ble_eq_true rfl), (Nat.le_of_ble_eq_true rfl)⟩ rfl (Nat.le_of_ble_eq_true rfl) dX10_signed_11 (fun k9 hk9 => (inrl hk9).elim) (fun vr hv H locs hs => ?_)
    obtain rfl := Sum.inr.inj hv
    refine W.eq (g2 := F0 m 14 ls [.ref p1]) rfl ?_
    refine W.widen (k := 1) (n := 6) (Nat.le_of_ble_eq_true rfl) (Nat.le_of_ble_eq_true rfl) ?_
    cases h
    exact sx_aretX C hs hr (by first | exact Or.inl ⟨_, rfl⟩ | exact Or.inr ⟨_, rfl⟩) dX10_signed_14
set_option maxHeartbeats 4000000 in
set_option maxRecDepth 100000 in
theorem c_X10_signed {l : Launch} (hfl : l.stackTraces = false) {g : PP} {σ : Sto} {sz : Nat} {v0 : Int32} {v1 : Int64} {v3 : Int32} {r9 : Nat ⊕ Nat} {σ9 : Sto} {sz9 : Nat} (h : f_X10_signed σ sz v0 v1 v3 = some (r9, σ9, sz9)) : vx_Met l yX10_signed [Cond.code yX10_signed cX10_signed 4 (some (.object "Tillhouse$Value"))] (rmk 7 1 6 122) (Pre g σ sz [.int v0, .long v1, .int v3]) (PstX g (Sum.map id vR r9) σ9 sz9) (XpX g (Sum.map id vR r9) σ9 sz9) 1 6 (Aw g) := by
  refine vx_ofW (cc := cX10_signed) (maxL := 4) (ret := (some (.object "Tillhouse$Value"))) (by decide) rfl ?_
  intro p e s m args below meth c s₁ B hml ht hv
  obtain ⟨rfl, C, hs⟩ := ctx_of B hml hv
  have C : Cx g p s m meth c cX10_signed 4 "Tillhouse$Value" := C
  have hr := B.returns
  have hl := lv_entry ([.int v0, .long v1, .int v3]) (n := 4) (Nat.le_of_ble_eq_true rfl)
  rw [lg_entry_eq]
  generalize (lg_sl ([.int v0, .long v1, .int v3]) ++ List.replicate (4 - (lg_sl ([.int v0, .long v1, .int v3])).length) Slot.unset).toArray = ls at hl ⊢
  have hl : lv_has ls 4 [(0, .int v0), (1, .long v1), (3, .int v3)] := hl
  unfold f_X10_signed at h
  refine lv_iload_n C.1 C.2.1 dX10_signed_0 rfl (lv_at hl 0 rfl) ?_
  refine lv_if_eq (tgt := 9) C.1 C.2.1 dX10_signed_1 (by decide) (fun c1 => ?_) (fun c1 => ?_)
  · replace h := ip c1 h
    refine lv_lload_n C.1 C.2.1 dX10_signed_9 rfl (lv_at hl 1 rfl) ?_
    exact t_X10_signed_10 hfl C hr ht h hs (lv_sub hl [2] rfl)
  · replace h := iN c1 h
    refine lv_lload_n C.1 C.2.1 dX10_signed_4 rfl (lv_at hl 1 rfl) ?_
    refine lv_lneg C.1 C.2.1 dX10_signed_5 ?_
    refine lv_goto (tgt := 10) C.1 C.2.1 dX10_signed_6 (by decide) ?_
    exact t_X10_signed_10 hfl C hr ht h hs (lv_sub hl [2] rfl)
def f_X10_size (σ : Sto) (a0 : Nat) : Option Int64 :=
 (gL σ a0 9 0).bind fun x1 =>
 some ((if 0 < x1 then x1 else -x1))
set_option maxHeartbeats 4000000 in
set_option maxRecDepth 100000 in
theorem c_X10_size {l : Launch} {g : PP} {σ : Sto} {sz : Nat} {a0 : Nat} {r9 : Int64} (h : f_X10_size σ a0 = some r9) : Met l yX10_size [Cond.code yX10_size cX10_size 1 (some .long)] (rmk 1 0 0 30) (Pre g σ sz [.ref a0]) (Pst g (vL r9) σ sz) 0 0 (Aw g) := by
  refine Met.ofW (cc := cX10_size) (maxL := 1) (ret := (some .long)) (by decide) rfl ?_
  intro p e s m args below meth c s₁ B hml hv
  obtain ⟨rfl, C, hs⟩ := ctx_of B hml hv
  have C : Cx g p s m meth c cX10_size 1 "Tillhouse$Value" := C
  have hr := B.returns
  have hl := lv_entry ([.ref a0]) (n := 1) (Nat.le_of_ble_eq_true rfl)
  rw [lg_entry_eq]
  generalize (lg_sl ([.ref a0]) ++ List.replicate (1 - (lg_sl ([.ref a0])).length) Slot.unset).toArray = ls at hl ⊢
  have hl : lv_has ls 1 [(0, .ref a0)] := hl
  unfold f_X10_size at h
  refine lv_aload_n C.1 C.2.1 dX10_size_0 rfl (lv_at hl 0 rfl) ?_
  replace h := ob h; obtain ⟨x1, ex1, h⟩ := h
  refine sx_getV C hs fo_X10_9 (gL_v ex1) dX10_size_1 ?_
  refine va_mabs_long C.1 C.2.1 (C.2.2.1.trans hl.1.symm) C.2.2.2.1 (C.2.2.2.2.1.1 _ q483 _) (C.2.2.2.2.1.1 _ mth_va_mabs_long_s _) (C.2.2.2.2.1.1 _ qmath _) (C.2.2.2.2.1.1 _ mth_va_mabs_long_c _) (by exact Nat.le_of_ble_eq_true rfl) (by exact Nat.le_of_ble_eq_true rfl) (by exact Nat.le_of_ble_eq_true rfl) (by exact Nat.le_of_ble_eq_true rfl) dX10_size_4 ?_
  cases h
  exact sx_lret C hs hr dX10_size_7
def f_X10_sign (σ : Sto) (a0 : Nat) : Option Int32 :=
 (gL σ a0 9 0).bind fun x1 =>
 if x1 = 0 then
 some (0)
 else
 (gL σ a0 9 0).bind fun x3 =>
 if 0 ≤ x3 then
 some (1)
 else
 some ((-1))
set_option maxHeartbeats 4000000 in
set_option maxRecDepth 100000 in
theorem c_X10_sign {l : Launch} {g : PP} {σ : Sto} {sz : Nat} {a0 : Nat} {r9 : Int32} (h : f_X10_sign σ a0 = some r9) : Met l yX10_sign [Cond.code yX10_sign cX10_sign 1 (some .int)] (rmk 0 0 0 0) (Pre g σ sz [.ref a0]) (Pst g (vI r9) σ sz) 0 0 (Aw g) := by
  refine Met.ofW (cc := cX10_sign) (maxL := 1) (ret := (some .int)) (by decide) rfl ?_
  intro p e s m args below meth c s₁ B hml hv
  obtain ⟨rfl, C, hs⟩ := ctx_of B hml hv
  have C : Cx g p s m meth c cX10_sign 1 "Tillhouse$Value" := C
  have hr := B.returns
  have hl := lv_entry ([.ref a0]) (n := 1) (Nat.le_of_ble_eq_true rfl)
  rw [lg_entry_eq]
  generalize (lg_sl ([.ref a0]) ++ List.replicate (1 - (lg_sl ([.ref a0])).length) Slot.unset).toArray = ls at hl ⊢
  have hl : lv_has ls 1 [(0, .ref a0)] := hl
  unfold f_X10_sign at h
  refine lv_aload_n C.1 C.2.1 dX10_sign_0 rfl (lv_at hl 0 rfl) ?_
  replace h := ob h; obtain ⟨x1, ex1, h⟩ := h
  refine sx_getV C hs fo_X10_9 (gL_v ex1) dX10_sign_1 ?_
  refine lv_lconst (v := 0) C.1 C.2.1 dX10_sign_4 (by decide) ?_
  refine W.lcmp C.1 C.2.1 dX10_sign_5 ?_
  refine lv_if_ne (tgt := 11) C.1 C.2.1 dX10_sign_6 (by decide) (fun c2 => ?_) (fun c2 => ?_)
  · replace h := iN (fun q => c2 ((lg_cmp_eq _ _).mpr q)) h
    refine lv_aload_n C.1 C.2.1 dX10_sign_11 rfl (lv_at hl 0 rfl) ?_
    replace h := ob h; obtain ⟨x3, ex3, h⟩ := h
    refine sx_getV C hs fo_X10_9 (gL_v ex3) dX10_sign_12 ?_
    refine lv_lconst (v := 0) C.1 C.2.1 dX10_sign_15 (by decide) ?_
    refine W.lcmp C.1 C.2.1 dX10_sign_16 ?_
    refine lv_if_ge (tgt := 24) C.1 C.2.1 dX10_sign_17 (by decide) (fun c4 => ?_) (fun c4 => ?_)
    · replace h := ip ((lg_cmp_ge _ _).mp c4) h
      refine lv_iconst (v := 1) C.1 C.2.1 dX10_sign_24 (by decide) ?_
      cases h
      exact sx_iret C hs hr rfl dX10_sign_25
    · replace h := iN (fun q => c4 ((lg_cmp_ge _ _).mpr q)) h
      refine lv_iconst (v := (-1)) C.1 C.2.1 dX10_sign_20 (by decide) ?_
      refine lv_goto (tgt := 25) C.1 C.2.1 dX10_sign_21 (by decide) ?_
      cases h
      exact sx_iret C hs hr rfl dX10_sign_25
  · replace h := ip ((lg_cmp_eq _ _).mp c2) h
    refine lv_iconst (v := 0) C.1 C.2.1 dX10_sign_9 (by decide) ?_
    cases h
    exact sx_iret C hs hr rfl dX10_sign_10
def f_X10_digits (N : Nat) (σ : Sto) (a0 : Nat) : Option Int32 :=
 (isO σ a0 9).bind fun _ =>
 (f_X10_size σ a0).bind fun x2 =>
 (f_X6_digitsOf N x2).bind fun x3 =>
 some (x3)
set_option maxHeartbeats 4000000 in
set_option maxRecDepth 100000 in
theorem c_X10_digits {l : Launch} {g : PP} {N : Nat} {σ : Sto} {sz : Nat} {a0 : Nat} {r9 : Int32} (h : f_X10_digits N σ a0 = some r9) : Met l yX10_digits [Cond.code yX10_digits cX10_digits 1 (some .int)] (rmk 2 0 0 50) (Pre g σ sz [.ref a0]) (Pst g (vI r9) σ sz) 0 0 (Aw g) := by
  refine Met.ofW (cc := cX10_digits) (maxL := 1) (ret := (some .int)) (by decide) rfl ?_
  intro p e s m args below meth c s₁ B hml hv
  obtain ⟨rfl, C, hs⟩ := ctx_of B hml hv
  have C : Cx g p s m meth c cX10_digits 1 "Tillhouse$Value" := C
  have hr := B.returns
  have hl := lv_entry ([.ref a0]) (n := 1) (Nat.le_of_ble_eq_true rfl)
  rw [lg_entry_eq]
  generalize (lg_sl ([.ref a0]) ++ List.replicate (1 - (lg_sl ([.ref a0])).length) Slot.unset).toArray = ls at hl ⊢
  have hl : lv_has ls 1 [(0, .ref a0)] := hl
  unfold f_X10_digits at h
  refine lv_aload_n C.1 C.2.1 dX10_digits_0 rfl (lv_at hl 0 rfl) ?_
  replace h := ob h; obtain ⟨⟨⟩, i1, h⟩ := h
  replace h := ob h; obtain ⟨x2, ex2, h⟩ := h
  refine sx_callV (As := []) (rest := []) C hs (c_X10_size ex2) mo_X10_size q479 i1 rfl rfl hl.1 ⟨⟨(Nat.le_of_ble_eq_true rfl), (Nat.le_of_ble_eq_true rfl)⟩, (Nat.le_of_ble_eq_true rfl), (Nat.le_of_ble_eq_true rfl)⟩ rfl (Nat.le_of_ble_eq_true rfl) dX10_digits_1 (fun H locs hs => ?_)
  refine W.eq (g2 := F0 m 4 ls [.long x2]) rfl ?_
  replace h := ob h; obtain ⟨x3, ex3, h⟩ := h
  refine sx_callS (As := [.long x2]) (rest := []) C hs (c_X6_digitsOf ex3) mo_X6_digitsOf q486 rfl hl.1 ⟨⟨(Nat.le_of_ble_eq_true rfl), (Nat.le_of_ble_eq_true rfl)⟩, (Nat.le_of_ble_eq_true rfl), (Nat.le_of_ble_eq_true rfl)⟩ rfl (Nat.le_of_ble_eq_true rfl) dX10_digits_4 (fun H locs hs => ?_)
  refine W.eq (g2 := F0 m 7 ls [.int x3]) rfl ?_
  cases h
  exact sx_iret C hs hr rfl dX10_digits_7
def f_X10_aligned (σ : Sto) (a0 : Nat) (v1 : Int32) : Option ((Nat ⊕ Int64)) :=
 (gL σ a0 9 0).bind fun x1 =>
 (gI σ a0 9 1).bind fun x2 =>
 (f_X6_raised x1 (v1 - x2) 2000000000000000000).bind fun u4 =>
 bs u4 (fun j5 => some (.inl j5)) fun x3 =>
 some (.inr x3)
set_option maxHeartbeats 4000000 in
set_option maxRecDepth 100000 in
theorem c_X10_aligned {l : Launch} (hfl : l.stackTraces = false) {g : PP} {σ : Sto} {sz : Nat} {a0 : Nat} {v1 : Int32} {r9 : Nat ⊕ Int64} (h : f_X10_aligned σ a0 v1 = some r9) : vx_Met l yX10_aligned [Cond.code yX10_aligned cX10_aligned 2 (some .long)] (rmk 7 (cX r9) (cY r9) 126) (Pre g σ sz [.ref a0, .int v1]) (PstX g (Sum.map id vL r9) σ sz) (XpX g (Sum.map id vL r9) σ sz) (cX r9) (cY r9) (Aw g) := by
  refine vx_ofW (cc := cX10_aligned) (maxL := 2) (ret := (some .long)) (by decide) rfl ?_
  intro p e s m args below meth c s₁ B hml ht hv
  obtain ⟨rfl, C, hs⟩ := ctx_of B hml hv
  have C : Cx g p s m meth c cX10_aligned 2 "Tillhouse$Value" := C
  have hr := B.returns
  have hl := lv_entry ([.ref a0, .int v1]) (n := 2) (Nat.le_of_ble_eq_true rfl)
  rw [lg_entry_eq]
  generalize (lg_sl ([.ref a0, .int v1]) ++ List.replicate (2 - (lg_sl ([.ref a0, .int v1])).length) Slot.unset).toArray = ls at hl ⊢
  have hl : lv_has ls 2 [(0, .ref a0), (1, .int v1)] := hl
  unfold f_X10_aligned at h
  refine lv_aload_n C.1 C.2.1 dX10_aligned_0 rfl (lv_at hl 0 rfl) ?_
  replace h := ob h; obtain ⟨x1, ex1, h⟩ := h
  refine sx_getV C hs fo_X10_9 (gL_v ex1) dX10_aligned_1 ?_
  refine lv_iload_n C.1 C.2.1 dX10_aligned_4 rfl (lv_at hl 1 rfl) ?_
  refine lv_aload_n C.1 C.2.1 dX10_aligned_5 rfl (lv_at hl 0 rfl) ?_
  replace h := ob h; obtain ⟨x2, ex2, h⟩ := h
  refine sx_getV C hs fo_X10_15 (gI_v ex2) dX10_aligned_6 ?_
  refine lv_isub C.1 C.2.1 dX10_aligned_9 ?_
  refine lv_ldc2 (v := 2000000000000000000) C.1 C.2.1 C.2.2.2.1 (C.2.2.2.2.1.1 _ q634 _) dX10_aligned_10 ?_
  replace h := ob h; obtain ⟨u4, ex3, h⟩ := h
  rcases u4 with j5 | x3
  · replace h := bsl h
    cases h
    refine sx_xcallS (As := [.long x1, .int (v1 - x2), .long 2000000000000000000]) (rest := []) C hs (c_X6_raised hfl ex3) mo_X6_raised q635 rfl hl.1 ⟨⟨(Nat.le_of_ble_eq_true rfl), (Nat.le_of_ble_eq_true rfl)⟩, (Nat.le_of_ble_eq_true rfl), (Nat.le_of_ble_eq_true rfl)⟩ rfl (Nat.le_of_ble_eq_true rfl) dX10_aligned_13 (fun k9 hk9 ce q9 H locs a1 a2 a3 a4 a5 a6 => ?_) (fun vr hv => (inlr hv).elim)
    obtain rfl := Sum.inl.inj hk9
    exact sx_out C ht a1 a2 a3 a4 a5 a6 (Nat.le_of_ble_eq_true rfl) (Nat.le_of_ble_eq_true rfl)
  · replace h := bsr h
    refine sx_xcallS (As := [.long x1, .int (v1 - x2), .long 2000000000000000000]) (rest := []) C hs (c_X6_raised hfl ex3) mo_X6_raised q635 rfl hl.1 ⟨⟨(Nat.le_of_ble_eq_true rfl), (Nat.le_of_ble_eq_true rfl)⟩, (Nat.le_of_ble_eq_true rfl), (Nat.le_of_ble_eq_true rfl)⟩ rfl (Nat.le_of_ble_eq_true rfl) dX10_aligned_13 (fun k9 hk9 => (inrl hk9).elim) (fun vr hv H locs hs => ?_)
    obtain rfl := Sum.inr.inj hv
    refine W.eq (g2 := F0 m 16 ls [.long x3]) rfl ?_
    refine W.widen (k := 0) (n := 0) (Nat.le_of_ble_eq_true rfl) (Nat.le_of_ble_eq_true rfl) ?_
    cases h
    exact sx_lretX C hs hr dX10_aligned_16
def f_X10_plus (σ : Sto) (sz : Nat) (a0 : Nat) (a1 : Nat) : Option ((Nat ⊕ Nat) × Sto × Nat) :=
 (gI σ a0 9 1).bind fun x1 =>
 (gI σ a1 9 1).bind fun x2 =>
 lt_ ((if x1 < x2 then x2 else x1)) fun x3 =>
 (isO σ a0 9).bind fun _ =>
 (f_X10_aligned σ a0 x3).bind fun u6 =>
 bs u6 (fun j7 => some (.inl j7, σ, sz)) fun x5 =>
 (isO σ a1 9).bind fun _ =>
 (f_X10_aligned σ a1 x3).bind fun u10 =>
 bs u10 (fun j11 => some (.inl j11, σ, sz)) fun x9 =>
 b3 (f_X10_checked σ sz (x5 + x9) x3) fun u15 τ13 y14 =>
 bs u15 (fun j16 => some (.inl j16, τ13, y14)) fun p12 =>
 some (.inr p12, τ13, y14)
set_option maxHeartbeats 4000000 in
set_option maxRecDepth 100000 in
theorem c_X10_plus {l : Launch} (hfl : l.stackTraces = false) {g : PP} {σ : Sto} {sz : Nat} {a0 : Nat} {a1 : Nat} {r9 : Nat ⊕ Nat} {σ9 : Sto} {sz9 : Nat} (h : f_X10_plus σ sz a0 a1 = some (r9, σ9, sz9)) : vx_Met l yX10_plus [Cond.code yX10_plus cX10_plus 3 (some (.object "Tillhouse$Value"))] (rmk 8 1 6 147) (Pre g σ sz [.ref a0, .ref a1]) (PstX g (Sum.map id vR r9) σ9 sz9) (XpX g (Sum.map id vR r9) σ9 sz9) 1 6 (Aw g) := by
  refine vx_ofW (cc := cX10_plus) (maxL := 3) (ret := (some (.object "Tillhouse$Value"))) (by decide) rfl ?_
  intro p e s m args below meth c s₁ B hml ht hv
  obtain ⟨rfl, C, hs⟩ := ctx_of B hml hv
  have C : Cx g p s m meth c cX10_plus 3 "Tillhouse$Value" := C
  have hr := B.returns
  have hl := lv_entry ([.ref a0, .ref a1]) (n := 3) (Nat.le_of_ble_eq_true rfl)
  rw [lg_entry_eq]
  generalize (lg_sl ([.ref a0, .ref a1]) ++ List.replicate (3 - (lg_sl ([.ref a0, .ref a1])).length) Slot.unset).toArray = ls at hl ⊢
  have hl : lv_has ls 3 [(0, .ref a0), (1, .ref a1)] := hl
  unfold f_X10_plus at h
  refine lv_aload_n C.1 C.2.1 dX10_plus_0 rfl (lv_at hl 0 rfl) ?_
  replace h := ob h; obtain ⟨x1, ex1, h⟩ := h
  refine sx_getV C hs fo_X10_15 (gI_v ex1) dX10_plus_1 ?_
  refine lv_aload_n C.1 C.2.1 dX10_plus_4 rfl (lv_at hl 1 rfl) ?_
  replace h := ob h; obtain ⟨x2, ex2, h⟩ := h
  refine sx_getV C hs fo_X10_15 (gI_v ex2) dX10_plus_5 ?_
  refine va_mmax C.1 C.2.1 (C.2.2.1.trans hl.1.symm) C.2.2.2.1 (C.2.2.2.2.1.1 _ q627 _) (C.2.2.2.2.1.1 _ mth_va_mmax_s _) (C.2.2.2.2.1.1 _ qmath _) (C.2.2.2.2.1.1 _ mth_va_mmax_c _) (by exact Nat.le_of_ble_eq_true rfl) (by exact Nat.le_of_ble_eq_true rfl) (by exact Nat.le_of_ble_eq_true rfl) (by exact Nat.le_of_ble_eq_true rfl) dX10_plus_8 ?_
  replace h := ol h; obtain ⟨x3, ex3, h⟩ := h
  refine sx_nmI ex3 ?_
  refine lv_istore_n (lv' := [(2, .int x3), (0, .ref a0), (1, .ref a1)]) C.1 C.2.1 dX10_plus_11 rfl hl (by decide) rfl (fun ls hl => ?_)
  refine lv_aload_n C.1 C.2.1 dX10_plus_12 rfl (lv_at hl 1 rfl) ?_
  refine lv_iload_n C.1 C.2.1 dX10_plus_13 rfl (lv_at hl 0 rfl) ?_
  replace h := ob h; obtain ⟨⟨⟩, i4, h⟩ := h
  replace h := ob h; obtain ⟨u6, ex5, h⟩ := h
  rcases u6 with j7 | x5
  · replace h := bsl h
    cases h
    refine sx_xcallV (As := [.int x3]) (rest := []) C hs (c_X10_aligned hfl ex5) mo_X10_aligned q630 i4 rfl rfl hl.1 ⟨⟨(Nat.le_of_ble_eq_true rfl), (Nat.le_of_ble_eq_true rfl)⟩, (Nat.le_of_ble_eq_true rfl), (Nat.le_of_ble_eq_true rfl)⟩ rfl (Nat.le_of_ble_eq_true rfl) dX10_plus_14 (fun k9 hk9 ce q9 H locs a1 a2 a3 a4 a5 a6 => ?_) (fun vr hv => (inlr hv).elim)
    obtain rfl := Sum.inl.inj hk9
    exact sx_out C ht a1 a2 a3 a4 a5 a6 (Nat.le_of_ble_eq_true rfl) (Nat.le_of_ble_eq_true rfl)
  · replace h := bsr h
    refine sx_xcallV (As := [.int x3]) (rest := []) C hs (c_X10_aligned hfl ex5) mo_X10_aligned q630 i4 rfl rfl hl.1 ⟨⟨(Nat.le_of_ble_eq_true rfl), (Nat.le_of_ble_eq_true rfl)⟩, (Nat.le_of_ble_eq_true rfl), (Nat.le_of_ble_eq_true rfl)⟩ rfl (Nat.le_of_ble_eq_true rfl) dX10_plus_14 (fun k9 hk9 => (inrl hk9).elim) (fun vr hv H locs hs => ?_)
    obtain rfl := Sum.inr.inj hv
    refine W.eq (g2 := F0 m 17 ls [.long x5]) rfl ?_
    refine W.widen (k := 0) (n := 0) (Nat.le_of_ble_eq_true rfl) (Nat.le_of_ble_eq_true rfl) ?_
    refine lv_aload_n C.1 C.2.1 dX10_plus_17 rfl (lv_at hl 2 rfl) ?_
    refine lv_iload_n C.1 C.2.1 dX10_plus_18 rfl (lv_at hl 0 rfl) ?_
    replace h := ob h; obtain ⟨⟨⟩, i8, h⟩ := h
    replace h := ob h; obtain ⟨u10, ex9, h⟩ := h
    rcases u10 with j11 | x9
    · replace h := bsl h
      cases h
      refine sx_xcallV (As := [.int x3]) (rest := [.long x5]) C hs (c_X10_aligned hfl ex9) mo_X10_aligned q630 i8 rfl rfl hl.1 ⟨⟨(Nat.le_of_ble_eq_true rfl), (Nat.le_of_ble_eq_true rfl)⟩, (Nat.le_of_ble_eq_true rfl), (Nat.le_of_ble_eq_true rfl)⟩ rfl (Nat.le_of_ble_eq_true rfl) dX10_plus_19 (fun k9 hk9 ce q9 H locs a1 a2 a3 a4 a5 a6 => ?_) (fun vr hv => (inlr hv).elim)
      obtain rfl := Sum.inl.inj hk9
      exact sx_out C ht a1 a2 a3 a4 a5 a6 (Nat.le_of_ble_eq_true rfl) (Nat.le_of_ble_eq_true rfl)
    · replace h := bsr h
      refine sx_xcallV (As := [.int x3]) (rest := [.long x5]) C hs (c_X10_aligned hfl ex9) mo_X10_aligned q630 i8 rfl rfl hl.1 ⟨⟨(Nat.le_of_ble_eq_true rfl), (Nat.le_of_ble_eq_true rfl)⟩, (Nat.le_of_ble_eq_true rfl), (Nat.le_of_ble_eq_true rfl)⟩ rfl (Nat.le_of_ble_eq_true rfl) dX10_plus_19 (fun k9 hk9 => (inrl hk9).elim) (fun vr hv H locs hs => ?_)
      obtain rfl := Sum.inr.inj hv
      refine W.eq (g2 := F0 m 22 ls [.long x9, .long x5]) rfl ?_
      refine W.widen (k := 0) (n := 0) (Nat.le_of_ble_eq_true rfl) (Nat.le_of_ble_eq_true rfl) ?_
      refine lv_ladd C.1 C.2.1 dX10_plus_22 ?_
      refine lv_iload_n C.1 C.2.1 dX10_plus_23 rfl (lv_at hl 0 rfl) ?_
      replace h := ob3 h; obtain ⟨u15, τ13, y14, ep12, h⟩ := h
      rcases u15 with j16 | p12
      · replace h := bsl h
        cases h
        refine sx_xcallS (As := [.long (x5 + x9), .int x3]) (rest := []) C hs (c_X10_checked hfl ep12) mo_X10_checked q642 rfl hl.1 ⟨⟨(Nat.le_of_ble_eq_true rfl), (Nat.le_of_ble_eq_true rfl)⟩, (Nat.le_of_ble_eq_true rfl), (Nat.le_of_ble_eq_true rfl)⟩ rfl (Nat.le_of_ble_eq_true rfl) dX10_plus_24 (fun k9 hk9 ce q9 H locs a1 a2 a3 a4 a5 a6 => ?_) (fun vr hv => (inlr hv).elim)
        obtain rfl := Sum.inl.inj hk9
        exact sx_out C ht a1 a2 a3 a4 a5 a6 (Nat.le_of_ble_eq_true rfl) (Nat.le_of_ble_eq_true rfl)
      · replace h := bsr h
        refine sx_xcallS (As := [.long (x5 + x9), .int x3]) (rest := []) C hs (c_X10_checked hfl ep12) mo_X10_checked q642 rfl hl.1 ⟨⟨(Nat.le_of_ble_eq_true rfl), (Nat.le_of_ble_eq_true rfl)⟩, (Nat.le_of_ble_eq_true rfl), (Nat.le_of_ble_eq_true rfl)⟩ rfl (Nat.le_of_ble_eq_true rfl) dX10_plus_24 (fun k9 hk9 => (inrl hk9).elim) (fun vr hv H locs hs => ?_)
        obtain rfl := Sum.inr.inj hv
        refine W.eq (g2 := F0 m 27 ls [.ref p12]) rfl ?_
        refine W.widen (k := 1) (n := 6) (Nat.le_of_ble_eq_true rfl) (Nat.le_of_ble_eq_true rfl) ?_
        cases h
        exact sx_aretX C hs hr (by first | exact Or.inl ⟨_, rfl⟩ | exact Or.inr ⟨_, rfl⟩) dX10_plus_27
def f_X10_minus (σ : Sto) (sz : Nat) (a0 : Nat) (a1 : Nat) : Option ((Nat ⊕ Nat) × Sto × Nat) :=
 (gI σ a0 9 1).bind fun x1 =>
 (gI σ a1 9 1).bind fun x2 =>
 lt_ ((if x1 < x2 then x2 else x1)) fun x3 =>
 (isO σ a0 9).bind fun _ =>
 (f_X10_aligned σ a0 x3).bind fun u6 =>
 bs u6 (fun j7 => some (.inl j7, σ, sz)) fun x5 =>
 (isO σ a1 9).bind fun _ =>
 (f_X10_aligned σ a1 x3).bind fun u10 =>
 bs u10 (fun j11 => some (.inl j11, σ, sz)) fun x9 =>
 b3 (f_X10_checked σ sz (x5 - x9) x3) fun u15 τ13 y14 =>
 bs u15 (fun j16 => some (.inl j16, τ13, y14)) fun p12 =>
 some (.inr p12, τ13, y14)
set_option maxHeartbeats 4000000 in
set_option maxRecDepth 100000 in
theorem c_X10_minus {l : Launch} (hfl : l.stackTraces = false) {g : PP} {σ : Sto} {sz : Nat} {a0 : Nat} {a1 : Nat} {r9 : Nat ⊕ Nat} {σ9 : Sto} {sz9 : Nat} (h : f_X10_minus σ sz a0 a1 = some (r9, σ9, sz9)) : vx_Met l yX10_minus [Cond.code yX10_minus cX10_minus 3 (some (.object "Tillhouse$Value"))] (rmk 8 1 6 147) (Pre g σ sz [.ref a0, .ref a1]) (PstX g (Sum.map id vR r9) σ9 sz9) (XpX g (Sum.map id vR r9) σ9 sz9) 1 6 (Aw g) := by
  refine vx_ofW (cc := cX10_minus) (maxL := 3) (ret := (some (.object "Tillhouse$Value"))) (by decide) rfl ?_
  intro p e s m args below meth c s₁ B hml ht hv
  obtain ⟨rfl, C, hs⟩ := ctx_of B hml hv
  have C : Cx g p s m meth c cX10_minus 3 "Tillhouse$Value" := C
  have hr := B.returns
  have hl := lv_entry ([.ref a0, .ref a1]) (n := 3) (Nat.le_of_ble_eq_true rfl)
  rw [lg_entry_eq]
  generalize (lg_sl ([.ref a0, .ref a1]) ++ List.replicate (3 - (lg_sl ([.ref a0, .ref a1])).length) Slot.unset).toArray = ls at hl ⊢
  have hl : lv_has ls 3 [(0, .ref a0), (1, .ref a1)] := hl
  unfold f_X10_minus at h
  refine lv_aload_n C.1 C.2.1 dX10_minus_0 rfl (lv_at hl 0 rfl) ?_
  replace h := ob h; obtain ⟨x1, ex1, h⟩ := h
  refine sx_getV C hs fo_X10_15 (gI_v ex1) dX10_minus_1 ?_
  refine lv_aload_n C.1 C.2.1 dX10_minus_4 rfl (lv_at hl 1 rfl) ?_
  replace h := ob h; obtain ⟨x2, ex2, h⟩ := h
  refine sx_getV C hs fo_X10_15 (gI_v ex2) dX10_minus_5 ?_
  refine va_mmax C.1 C.2.1 (C.2.2.1.trans hl.1.symm) C.2.2.2.1 (C.2.2.2.2.1.1 _ q627 _) (C.2.2.2.2.1.1 _ mth_va_mmax_s _) (C.2.2.2.2.1.1 _ qmath _) (C.2.2.2.2.1.1 _ mth_va_mmax_c _) (by exact Nat.le_of_ble_eq_true rfl) (by exact Nat.le_of_ble_eq_true rfl) (by exact Nat.le_of_ble_eq_true rfl) (by exact Nat.le_of_ble_eq_true rfl) dX10_minus_8 ?_
  replace h := ol h; obtain ⟨x3, ex3, h⟩ := h
  refine sx_nmI ex3 ?_
  refine lv_istore_n (lv' := [(2, .int x3), (0, .ref a0), (1, .ref a1)]) C.1 C.2.1 dX10_minus_11 rfl hl (by decide) rfl (fun ls hl => ?_)
  refine lv_aload_n C.1 C.2.1 dX10_minus_12 rfl (lv_at hl 1 rfl) ?_
  refine lv_iload_n C.1 C.2.1 dX10_minus_13 rfl (lv_at hl 0 rfl) ?_
  replace h := ob h; obtain ⟨⟨⟩, i4, h⟩ := h
  replace h := ob h; obtain ⟨u6, ex5, h⟩ := h
  rcases u6 with j7 | x5
  · replace h := bsl h
    cases h
    refine sx_xcallV (As := [.int x3]) (rest := []) C hs (c_X10_aligned hfl ex5) mo_X10_aligned q630 i4 rfl rfl hl.1 ⟨⟨(Nat.le_of_ble_eq_true rfl), (Nat.le_of_ble_eq_true rfl)⟩, (Nat.le_of_ble_eq_true rfl), (Nat.le_of_ble_eq_true rfl)⟩ rfl (Nat.le_of_ble_eq_true rfl) dX10_minus_14 (fun k9 hk9 ce q9 H locs a1 a2 a3 a4 a5 a6 => ?_) (fun vr hv => (inlr hv).elim)
    obtain rfl := Sum.inl.inj hk9
    exact sx_out C ht a1 a2 a3 a4 a5 a6 (Nat.le_of_ble_eq_true rfl) (Nat.le_of_ble_eq_true rfl)
  · replace h := bsr h
    refine sx_xcallV (As := [.int x3]) (rest := []) C hs (c_X10_aligned hfl ex5) mo_X10_aligned q630 i4 rfl rfl hl.1 ⟨⟨(Nat.le_of_ble_eq_true rfl), (Nat.le_of_ble_eq_true rfl)⟩, (Nat.le_of_ble_eq_true rfl), (Nat.le_of_ble_eq_true rfl)⟩ rfl (Nat.le_of_ble_eq_true rfl) dX10_minus_14 (fun k9 hk9 => (inrl hk9).elim) (fun vr hv H locs hs => ?_)
    obtain rfl := Sum.inr.inj hv
    refine W.eq (g2 := F0 m 17 ls [.long x5]) rfl ?_
    refine W.widen (k := 0) (n := 0) (Nat.le_of_ble_eq_true rfl) (Nat.le_of_ble_eq_true rfl) ?_
    refine lv_aload_n C.1 C.2.1 dX10_minus_17 rfl (lv_at hl 2 rfl) ?_
    refine lv_iload_n C.1 C.2.1 dX10_minus_18 rfl (lv_at hl 0 rfl) ?_
    replace h := ob h; obtain ⟨⟨⟩, i8, h⟩ := h
    replace h := ob h; obtain ⟨u10, ex9, h⟩ := h
    rcases u10 with j11 | x9
    · replace h := bsl h
      cases h
      refine sx_xcallV (As := [.int x3]) (rest := [.long x5]) C hs (c_X10_aligned hfl ex9) mo_X10_aligned q630 i8 rfl rfl hl.1 ⟨⟨(Nat.le_of_ble_eq_true rfl), (Nat.le_of_ble_eq_true rfl)⟩, (Nat.le_of_ble_eq_true rfl), (Nat.le_of_ble_eq_true rfl)⟩ rfl (Nat.le_of_ble_eq_true rfl) dX10_minus_19 (fun k9 hk9 ce q9 H locs a1 a2 a3 a4 a5 a6 => ?_) (fun vr hv => (inlr hv).elim)
      obtain rfl := Sum.inl.inj hk9
      exact sx_out C ht a1 a2 a3 a4 a5 a6 (Nat.le_of_ble_eq_true rfl) (Nat.le_of_ble_eq_true rfl)
    · replace h := bsr h
      refine sx_xcallV (As := [.int x3]) (rest := [.long x5]) C hs (c_X10_aligned hfl ex9) mo_X10_aligned q630 i8 rfl rfl hl.1 ⟨⟨(Nat.le_of_ble_eq_true rfl), (Nat.le_of_ble_eq_true rfl)⟩, (Nat.le_of_ble_eq_true rfl), (Nat.le_of_ble_eq_true rfl)⟩ rfl (Nat.le_of_ble_eq_true rfl) dX10_minus_19 (fun k9 hk9 => (inrl hk9).elim) (fun vr hv H locs hs => ?_)
      obtain rfl := Sum.inr.inj hv
      refine W.eq (g2 := F0 m 22 ls [.long x9, .long x5]) rfl ?_
      refine W.widen (k := 0) (n := 0) (Nat.le_of_ble_eq_true rfl) (Nat.le_of_ble_eq_true rfl) ?_
      refine lv_lsub C.1 C.2.1 dX10_minus_22 ?_
      refine lv_iload_n C.1 C.2.1 dX10_minus_23 rfl (lv_at hl 0 rfl) ?_
      replace h := ob3 h; obtain ⟨u15, τ13, y14, ep12, h⟩ := h
      rcases u15 with j16 | p12
      · replace h := bsl h
        cases h
        refine sx_xcallS (As := [.long (x5 - x9), .int x3]) (rest := []) C hs (c_X10_checked hfl ep12) mo_X10_checked q642 rfl hl.1 ⟨⟨(Nat.le_of_ble_eq_true rfl), (Nat.le_of_ble_eq_true rfl)⟩, (Nat.le_of_ble_eq_true rfl), (Nat.le_of_ble_eq_true rfl)⟩ rfl (Nat.le_of_ble_eq_true rfl) dX10_minus_24 (fun k9 hk9 ce q9 H locs a1 a2 a3 a4 a5 a6 => ?_) (fun vr hv => (inlr hv).elim)
        obtain rfl := Sum.inl.inj hk9
        exact sx_out C ht a1 a2 a3 a4 a5 a6 (Nat.le_of_ble_eq_true rfl) (Nat.le_of_ble_eq_true rfl)
      · replace h := bsr h
        refine sx_xcallS (As := [.long (x5 - x9), .int x3]) (rest := []) C hs (c_X10_checked hfl ep12) mo_X10_checked q642 rfl hl.1 ⟨⟨(Nat.le_of_ble_eq_true rfl), (Nat.le_of_ble_eq_true rfl)⟩, (Nat.le_of_ble_eq_true rfl), (Nat.le_of_ble_eq_true rfl)⟩ rfl (Nat.le_of_ble_eq_true rfl) dX10_minus_24 (fun k9 hk9 => (inrl hk9).elim) (fun vr hv H locs hs => ?_)
        obtain rfl := Sum.inr.inj hv
        refine W.eq (g2 := F0 m 27 ls [.ref p12]) rfl ?_
        refine W.widen (k := 1) (n := 6) (Nat.le_of_ble_eq_true rfl) (Nat.le_of_ble_eq_true rfl) ?_
        cases h
        exact sx_aretX C hs hr (by first | exact Or.inl ⟨_, rfl⟩ | exact Or.inr ⟨_, rfl⟩) dX10_minus_27
def b_X10_times_34 (σ : Sto) (sz : Nat) (a0 : Nat) (a1 : Nat) : Option ((Nat ⊕ Nat) × Sto × Nat) :=
 (gL σ a0 9 0).bind fun x1 =>
 (gL σ a1 9 0).bind fun x2 =>
 (gI σ a0 9 1).bind fun x3 =>
 (gI σ a1 9 1).bind fun x4 =>
 b3 (f_X10_checked σ sz (x1 * x2) (x3 + x4)) fun u8 τ6 y7 =>
 bs u8 (fun j9 => some (.inl j9, τ6, y7)) fun p5 =>
 some (.inr p5, τ6, y7)
def f_X10_times (σ : Sto) (sz : Nat) (a0 : Nat) (a1 : Nat) : Option ((Nat ⊕ Nat) × Sto × Nat) :=
 (isO σ a1 9).bind fun _ =>
 (f_X10_size σ a1).bind fun x2 =>
 if x2 = 0 then
 b_X10_times_34 σ sz a0 a1
 else
 (isO σ a0 9).bind fun _ =>
 (f_X10_size σ a0).bind fun x5 =>
 if x2 = 0 then none else
 if x5 ≤ (999999999999999999 / x2) then
 b_X10_times_34 σ sz a0 a1
 else
 some (.inl 3, σ, sz)
set_option maxHeartbeats 4000000 in
set_option maxRecDepth 100000 in
theorem t_X10_times_34 {l : Launch} {g : PP} {p : Program} {e : Env} {s : State} {m : MethodId} {args : Array Value} {below : List Frame} {meth : Method} {c : Code} (hfl : l.stackTraces = false) (C : Cx g p s m meth c cX10_times 4 "Tillhouse$Value") (hr : meth.sig.returnType = some (.object "Tillhouse$Value")) (ht : ∀ x ∈ c.exceptionTable.toList, False)   {σ : Sto} {sz : Nat} {a0 : Nat} {a1 : Nat} {r9 : Nat ⊕ Nat} {σ9 : Sto} {sz9 : Nat}
    (h : b_X10_times_34 σ sz a0 a1 = some (r9, σ9, sz9)) 
    {H : Heap} {locs : List Loc} {ls : Array Slot} (hs : HS g s σ sz H locs) (hl : lv_has ls 4 [(0, .ref a0), (1, .ref a1)]) : W p l e (rmk 7 1 6 122) s m args below meth c H locs 0 0 (vx_MQ below (PstX g (Sum.map id vR r9) σ9 sz9) (XpX g (Sum.map id vR r9) σ9 sz9) args s 1 6 (Aw g)) (F0 m 34 ls []) := by
  unfold b_X10_times_34 at h
  refine lv_aload_n C.1 C.2.1 dX10_times_34 rfl (lv_at hl 0 rfl) ?_
  replace h := ob h; obtain ⟨x1, ex1, h⟩ := h
  refine sx_getV C hs fo_X10_9 (gL_v ex1) dX10_times_35 ?_
  refine lv_aload_n C.1 C.2.1 dX10_times_38 rfl (lv_at hl 1 rfl) ?_
  replace h := ob h; obtain ⟨x2, ex2, h⟩ := h
  refine sx_getV C hs fo_X10_9 (gL_v ex2) dX10_times_39 ?_
  refine lv_lmul C.1 C.2.1 dX10_times_42 ?_
  refine lv_aload_n C.1 C.2.1 dX10_times_43 rfl (lv_at hl 0 rfl) ?_
  replace h := ob h; obtain ⟨x3, ex3, h⟩ := h
  refine sx_getV C hs fo_X10_15 (gI_v ex3) dX10_times_44 ?_
  refine lv_aload_n C.1 C.2.1 dX10_times_47 rfl (lv_at hl 1 rfl) ?_
  replace h := ob h; obtain ⟨x4, ex4, h⟩ := h
  refine sx_getV C hs fo_X10_15 (gI_v ex4) dX10_times_48 ?_
  refine lv_iadd C.1 C.2.1 dX10_times_51 ?_
  replace h := ob3 h; obtain ⟨u8, τ6, y7, ep5, h⟩ := h
  rcases u8 with j9 | p5
  · replace h := bsl h
    cases h
    refine sx_xcallS (As := [.long (x1 * x2), .int (x3 + x4)]) (rest := []) C hs (c_X10_checked hfl ep5) mo_X10_checked q642 rfl hl.1 ⟨⟨(Nat.le_of_ble_eq_true rfl), (Nat.le_of_ble_eq_true rfl)⟩, (Nat.le_of_ble_eq_true rfl), (Nat.le_of_ble_eq_true rfl)⟩ rfl (Nat.le_of_ble_eq_true rfl) dX10_times_52 (fun k9 hk9 ce q9 H locs a1 a2 a3 a4 a5 a6 => ?_) (fun vr hv => (inlr hv).elim)
    obtain rfl := Sum.inl.inj hk9
    exact sx_out C ht a1 a2 a3 a4 a5 a6 (Nat.le_of_ble_eq_true rfl) (Nat.le_of_ble_eq_true rfl)
  · replace h := bsr h
    refine sx_xcallS (As := [.long (x1 * x2), .int (x3 + x4)]) (rest := []) C hs (c_X10_checked hfl ep5) mo_X10_checked q642 rfl hl.1 ⟨⟨(Nat.le_of_ble_eq_true rfl), (Nat.le_of_ble_eq_true rfl)⟩, (Nat.le_of_ble_eq_true rfl), (Nat.le_of_ble_eq_true rfl)⟩ rfl (Nat.le_of_ble_eq_true rfl) dX10_times_52 (fun k9 hk9 => (inrl hk9).elim) (fun vr hv H locs hs => ?_)
    obtain rfl := Sum.inr.inj hv
    refine W.eq (g2 := F0 m 55 ls [.ref p5]) rfl ?_
    refine W.widen (k := 1) (n := 6) (Nat.le_of_ble_eq_true rfl) (Nat.le_of_ble_eq_true rfl) ?_
    cases h
    exact sx_aretX C hs hr (by first | exact Or.inl ⟨_, rfl⟩ | exact Or.inr ⟨_, rfl⟩) dX10_times_55
set_option maxHeartbeats 4000000 in
set_option maxRecDepth 100000 in
theorem c_X10_times {l : Launch} (hfl : l.stackTraces = false) {g : PP} {σ : Sto} {sz : Nat} {a0 : Nat} {a1 : Nat} {r9 : Nat ⊕ Nat} {σ9 : Sto} {sz9 : Nat} (h : f_X10_times σ sz a0 a1 = some (r9, σ9, sz9)) : vx_Met l yX10_times [Cond.code yX10_times cX10_times 4 (some (.object "Tillhouse$Value"))] (rmk 7 1 6 122) (Pre g σ sz [.ref a0, .ref a1]) (PstX g (Sum.map id vR r9) σ9 sz9) (XpX g (Sum.map id vR r9) σ9 sz9) 1 6 (Aw g) := by
  refine vx_ofW (cc := cX10_times) (maxL := 4) (ret := (some (.object "Tillhouse$Value"))) (by decide) rfl ?_
  intro p e s m args below meth c s₁ B hml ht hv
  obtain ⟨rfl, C, hs⟩ := ctx_of B hml hv
  have C : Cx g p s m meth c cX10_times 4 "Tillhouse$Value" := C
  have hr := B.returns
  have hl := lv_entry ([.ref a0, .ref a1]) (n := 4) (Nat.le_of_ble_eq_true rfl)
  rw [lg_entry_eq]
  generalize (lg_sl ([.ref a0, .ref a1]) ++ List.replicate (4 - (lg_sl ([.ref a0, .ref a1])).length) Slot.unset).toArray = ls at hl ⊢
  have hl : lv_has ls 4 [(0, .ref a0), (1, .ref a1)] := hl
  unfold f_X10_times at h
  refine lv_aload_n C.1 C.2.1 dX10_times_0 rfl (lv_at hl 1 rfl) ?_
  replace h := ob h; obtain ⟨⟨⟩, i1, h⟩ := h
  replace h := ob h; obtain ⟨x2, ex2, h⟩ := h
  refine sx_callV (As := []) (rest := []) C hs (c_X10_size ex2) mo_X10_size q479 i1 rfl rfl hl.1 ⟨⟨(Nat.le_of_ble_eq_true rfl), (Nat.le_of_ble_eq_true rfl)⟩, (Nat.le_of_ble_eq_true rfl), (Nat.le_of_ble_eq_true rfl)⟩ rfl (Nat.le_of_ble_eq_true rfl) dX10_times_1 (fun H locs hs => ?_)
  refine W.eq (g2 := F0 m 4 ls [.long x2]) rfl ?_
  refine lv_lstore_n (lv' := [(2, .long x2), (0, .ref a0), (1, .ref a1)]) C.1 C.2.1 dX10_times_4 rfl hl (by decide) rfl (fun ls hl => ?_)
  refine lv_lload_n C.1 C.2.1 dX10_times_5 rfl (lv_at hl 0 rfl) ?_
  refine lv_lconst (v := 0) C.1 C.2.1 dX10_times_6 (by decide) ?_
  refine W.lcmp C.1 C.2.1 dX10_times_7 ?_
  refine lv_if_eq (tgt := 34) C.1 C.2.1 dX10_times_8 (by decide) (fun c3 => ?_) (fun c3 => ?_)
  · replace h := ip ((lg_cmp_eq _ _).mp c3) h
    exact t_X10_times_34 hfl C hr ht h hs (lv_sub hl [1, 2] rfl)
  · replace h := iN (fun q => c3 ((lg_cmp_eq _ _).mpr q)) h
    refine lv_aload_n C.1 C.2.1 dX10_times_11 rfl (lv_at hl 1 rfl) ?_
    replace h := ob h; obtain ⟨⟨⟩, i4, h⟩ := h
    replace h := ob h; obtain ⟨x5, ex5, h⟩ := h
    refine sx_callV (As := []) (rest := []) C hs (c_X10_size ex5) mo_X10_size q479 i4 rfl rfl hl.1 ⟨⟨(Nat.le_of_ble_eq_true rfl), (Nat.le_of_ble_eq_true rfl)⟩, (Nat.le_of_ble_eq_true rfl), (Nat.le_of_ble_eq_true rfl)⟩ rfl (Nat.le_of_ble_eq_true rfl) dX10_times_12 (fun H locs hs => ?_)
    refine W.eq (g2 := F0 m 15 ls [.long x5]) rfl ?_
    refine lv_ldc2 (v := 999999999999999999) C.1 C.2.1 C.2.2.2.1 (C.2.2.2.2.1.1 _ q444 _) dX10_times_15 ?_
    refine lv_lload_n C.1 C.2.1 dX10_times_18 rfl (lv_at hl 0 rfl) ?_
    replace h := on h; obtain ⟨n6, h⟩ := h
    refine lv_ldiv C.1 C.2.1 dX10_times_19 n6 ?_
    refine W.lcmp C.1 C.2.1 dX10_times_20 ?_
    refine lv_if_le (tgt := 34) C.1 C.2.1 dX10_times_21 (by decide) (fun c7 => ?_) (fun c7 => ?_)
    · replace h := ip ((lg_cmp_le _ _).mp c7) h
      exact t_X10_times_34 hfl C hr ht h hs (lv_sub hl [1, 2] rfl)
    · replace h := iN (fun q => c7 ((lg_cmp_le _ _).mpr q)) h
      cases h
      exact sx_throw C hfl hs to_X10_27_71 ht hl.1 dX10_times_24 dX10_times_27 dX10_times_28 dX10_times_30 dX10_times_33 ⟨by decide, (Nat.le_of_ble_eq_true rfl), (Nat.le_of_ble_eq_true rfl), (Nat.le_of_ble_eq_true rfl)⟩ ⟨(Nat.le_of_ble_eq_true rfl), (Nat.le_of_ble_eq_true rfl)⟩
def f_X10_sizeOrder (N : Nat) (σ : Sto) (a0 : Nat) (a1 : Nat) : Option ((Nat ⊕ Int32)) :=
 (isO σ a0 9).bind fun _ =>
 (f_X10_digits N σ a0).bind fun x2 =>
 (gI σ a0 9 1).bind fun x3 =>
 lt_ (x2 - x3) fun x4 =>
 (isO σ a1 9).bind fun _ =>
 (f_X10_digits N σ a1).bind fun x6 =>
 (gI σ a1 9 1).bind fun x7 =>
 lt_ (x6 - x7) fun x8 =>
 if x4 = x8 then
 (gI σ a0 9 1).bind fun x10 =>
 (gI σ a1 9 1).bind fun x11 =>
 lt_ ((if x10 < x11 then x11 else x10)) fun x12 =>
 (f_X10_aligned σ a0 x12).bind fun u14 =>
 bs u14 (fun j15 => some (.inl j15)) fun x13 =>
 lt_ ((if 0 < x13 then x13 else -x13)) fun x16 =>
 (f_X10_aligned σ a1 x12).bind fun u18 =>
 bs u18 (fun j19 => some (.inl j19)) fun x17 =>
 lt_ ((if 0 < x17 then x17 else -x17)) fun x20 =>
 if x16 = x20 then
 some (.inr 0)
 else
 if x20 ≤ x16 then
 some (.inr 1)
 else
 some (.inr (-1))
 else
 if x8 ≤ x4 then
 some (.inr 1)
 else
 some (.inr (-1))
set_option maxHeartbeats 4000000 in
set_option maxRecDepth 100000 in
theorem c_X10_sizeOrder {l : Launch} (hfl : l.stackTraces = false) {g : PP} {N : Nat} {σ : Sto} {sz : Nat} {a0 : Nat} {a1 : Nat} {r9 : Nat ⊕ Int32} (h : f_X10_sizeOrder N σ a0 a1 = some r9) : vx_Met l yX10_sizeOrder [Cond.code yX10_sizeOrder cX10_sizeOrder 9 (some .int)] (rmk 8 (cX r9) (cY r9) 147) (Pre g σ sz [.ref a0, .ref a1]) (PstX g (Sum.map id vI r9) σ sz) (XpX g (Sum.map id vI r9) σ sz) (cX r9) (cY r9) (Aw g) := by
  refine vx_ofW (cc := cX10_sizeOrder) (maxL := 9) (ret := (some .int)) (by decide) rfl ?_
  intro p e s m args below meth c s₁ B hml ht hv
  obtain ⟨rfl, C, hs⟩ := ctx_of B hml hv
  have C : Cx g p s m meth c cX10_sizeOrder 9 "Tillhouse$Value" := C
  have hr := B.returns
  have hl := lv_entry ([.ref a0, .ref a1]) (n := 9) (Nat.le_of_ble_eq_true rfl)
  rw [lg_entry_eq]
  generalize (lg_sl ([.ref a0, .ref a1]) ++ List.replicate (9 - (lg_sl ([.ref a0, .ref a1])).length) Slot.unset).toArray = ls at hl ⊢
  have hl : lv_has ls 9 [(0, .ref a0), (1, .ref a1)] := hl
  unfold f_X10_sizeOrder at h
  refine lv_aload_n C.1 C.2.1 dX10_sizeOrder_0 rfl (lv_at hl 0 rfl) ?_
  replace h := ob h; obtain ⟨⟨⟩, i1, h⟩ := h
  replace h := ob h; obtain ⟨x2, ex2, h⟩ := h
  refine sx_callV (As := []) (rest := []) C hs (c_X10_digits ex2) mo_X10_digits q661 i1 rfl rfl hl.1 ⟨⟨(Nat.le_of_ble_eq_true rfl), (Nat.le_of_ble_eq_true rfl)⟩, (Nat.le_of_ble_eq_true rfl), (Nat.le_of_ble_eq_true rfl)⟩ rfl (Nat.le_of_ble_eq_true rfl) dX10_sizeOrder_1 (fun H locs hs => ?_)
  refine W.eq (g2 := F0 m 4 ls [.int x2]) rfl ?_
  refine lv_aload_n C.1 C.2.1 dX10_sizeOrder_4 rfl (lv_at hl 0 rfl) ?_
  replace h := ob h; obtain ⟨x3, ex3, h⟩ := h
  refine sx_getV C hs fo_X10_15 (gI_v ex3) dX10_sizeOrder_5 ?_
  refine lv_isub C.1 C.2.1 dX10_sizeOrder_8 ?_
  replace h := ol h; obtain ⟨x4, ex4, h⟩ := h
  refine sx_nmI ex4 ?_
  refine lv_istore_n (lv' := [(2, .int x4), (0, .ref a0), (1, .ref a1)]) C.1 C.2.1 dX10_sizeOrder_9 rfl hl (by decide) rfl (fun ls hl => ?_)
  refine lv_aload_n C.1 C.2.1 dX10_sizeOrder_10 rfl (lv_at hl 2 rfl) ?_
  replace h := ob h; obtain ⟨⟨⟩, i5, h⟩ := h
  replace h := ob h; obtain ⟨x6, ex6, h⟩ := h
  refine sx_callV (As := []) (rest := []) C hs (c_X10_digits ex6) mo_X10_digits q661 i5 rfl rfl hl.1 ⟨⟨(Nat.le_of_ble_eq_true rfl), (Nat.le_of_ble_eq_true rfl)⟩, (Nat.le_of_ble_eq_true rfl), (Nat.le_of_ble_eq_true rfl)⟩ rfl (Nat.le_of_ble_eq_true rfl) dX10_sizeOrder_11 (fun H locs hs => ?_)
  refine W.eq (g2 := F0 m 14 ls [.int x6]) rfl ?_
  refine lv_aload_n C.1 C.2.1 dX10_sizeOrder_14 rfl (lv_at hl 2 rfl) ?_
  replace h := ob h; obtain ⟨x7, ex7, h⟩ := h
  refine sx_getV C hs fo_X10_15 (gI_v ex7) dX10_sizeOrder_15 ?_
  refine lv_isub C.1 C.2.1 dX10_sizeOrder_18 ?_
  replace h := ol h; obtain ⟨x8, ex8, h⟩ := h
  refine sx_nmI ex8 ?_
  refine lv_istore_n (lv' := [(3, .int x8), (2, .int x4), (0, .ref a0), (1, .ref a1)]) C.1 C.2.1 dX10_sizeOrder_19 rfl hl (by decide) rfl (fun ls hl => ?_)
  refine lv_iload_n C.1 C.2.1 dX10_sizeOrder_20 rfl (lv_at hl 1 rfl) ?_
  refine lv_iload_n C.1 C.2.1 dX10_sizeOrder_21 rfl (lv_at hl 0 rfl) ?_
  refine lv_icmp_eq (tgt := 36) C.1 C.2.1 dX10_sizeOrder_22 (by decide) (fun c9 => ?_) (fun c9 => ?_)
  · replace h := ip c9 h
    refine lv_aload_n C.1 C.2.1 dX10_sizeOrder_36 rfl (lv_at hl 2 rfl) ?_
    replace h := ob h; obtain ⟨x10, ex10, h⟩ := h
    refine sx_getV C hs fo_X10_15 (gI_v ex10) dX10_sizeOrder_37 ?_
    refine lv_aload_n C.1 C.2.1 dX10_sizeOrder_40 rfl (lv_at hl 3 rfl) ?_
    replace h := ob h; obtain ⟨x11, ex11, h⟩ := h
    refine sx_getV C hs fo_X10_15 (gI_v ex11) dX10_sizeOrder_41 ?_
    refine va_mmax C.1 C.2.1 (C.2.2.1.trans hl.1.symm) C.2.2.2.1 (C.2.2.2.2.1.1 _ q627 _) (C.2.2.2.2.1.1 _ mth_va_mmax_s _) (C.2.2.2.2.1.1 _ qmath _) (C.2.2.2.2.1.1 _ mth_va_mmax_c _) (by exact Nat.le_of_ble_eq_true rfl) (by exact Nat.le_of_ble_eq_true rfl) (by exact Nat.le_of_ble_eq_true rfl) (by exact Nat.le_of_ble_eq_true rfl) dX10_sizeOrder_44 ?_
    replace h := ol h; obtain ⟨x12, ex12, h⟩ := h
    refine sx_nmI ex12 ?_
    refine lv_istore (lv' := [(4, .int x12), (3, .int x8), (2, .int x4), (0, .ref a0), (1, .ref a1)]) C.1 C.2.1 dX10_sizeOrder_47 hl (by decide) rfl (fun ls hl => ?_)
    refine lv_aload_n C.1 C.2.1 dX10_sizeOrder_49 rfl (lv_at hl 3 rfl) ?_
    refine lv_iload C.1 C.2.1 dX10_sizeOrder_50 (lv_at hl 0 rfl) ?_
    replace h := ob h; obtain ⟨u14, ex13, h⟩ := h
    rcases u14 with j15 | x13
    · replace h := bsl h
      cases h
      refine sx_xcallV (As := [.int x12]) (rest := []) C hs (c_X10_aligned hfl ex13) mo_X10_aligned q630 i1 rfl rfl hl.1 ⟨⟨(Nat.le_of_ble_eq_true rfl), (Nat.le_of_ble_eq_true rfl)⟩, (Nat.le_of_ble_eq_true rfl), (Nat.le_of_ble_eq_true rfl)⟩ rfl (Nat.le_of_ble_eq_true rfl) dX10_sizeOrder_52 (fun k9 hk9 ce q9 H locs a1 a2 a3 a4 a5 a6 => ?_) (fun vr hv => (inlr hv).elim)
      obtain rfl := Sum.inl.inj hk9
      exact sx_out C ht a1 a2 a3 a4 a5 a6 (Nat.le_of_ble_eq_true rfl) (Nat.le_of_ble_eq_true rfl)
    · replace h := bsr h
      refine sx_xcallV (As := [.int x12]) (rest := []) C hs (c_X10_aligned hfl ex13) mo_X10_aligned q630 i1 rfl rfl hl.1 ⟨⟨(Nat.le_of_ble_eq_true rfl), (Nat.le_of_ble_eq_true rfl)⟩, (Nat.le_of_ble_eq_true rfl), (Nat.le_of_ble_eq_true rfl)⟩ rfl (Nat.le_of_ble_eq_true rfl) dX10_sizeOrder_52 (fun k9 hk9 => (inrl hk9).elim) (fun vr hv H locs hs => ?_)
      obtain rfl := Sum.inr.inj hv
      refine W.eq (g2 := F0 m 55 ls [.long x13]) rfl ?_
      refine W.widen (k := 0) (n := 0) (Nat.le_of_ble_eq_true rfl) (Nat.le_of_ble_eq_true rfl) ?_
      refine va_mabs_long C.1 C.2.1 (C.2.2.1.trans hl.1.symm) C.2.2.2.1 (C.2.2.2.2.1.1 _ q483 _) (C.2.2.2.2.1.1 _ mth_va_mabs_long_s _) (C.2.2.2.2.1.1 _ qmath _) (C.2.2.2.2.1.1 _ mth_va_mabs_long_c _) (by exact Nat.le_of_ble_eq_true rfl) (by exact Nat.le_of_ble_eq_true rfl) (by exact Nat.le_of_ble_eq_true rfl) (by exact Nat.le_of_ble_eq_true rfl) dX10_sizeOrder_55 ?_
      replace h := ol h; obtain ⟨x16, ex16, h⟩ := h
      refine sx_nmL ex16 ?_
      refine lv_lstore (lv' := [(5, .long x16), (4, .int x12), (3, .int x8), (2, .int x4), (0, .ref a0), (1, .ref a1)]) C.1 C.2.1 dX10_sizeOrder_58 hl (by decide) rfl (fun ls hl => ?_)
      refine lv_aload_n C.1 C.2.1 dX10_sizeOrder_60 rfl (lv_at hl 5 rfl) ?_
      refine lv_iload C.1 C.2.1 dX10_sizeOrder_61 (lv_at hl 1 rfl) ?_
      replace h := ob h; obtain ⟨u18, ex17, h⟩ := h
      rcases u18 with j19 | x17
      · replace h := bsl h
        cases h
        refine sx_xcallV (As := [.int x12]) (rest := []) C hs (c_X10_aligned hfl ex17) mo_X10_aligned q630 i5 rfl rfl hl.1 ⟨⟨(Nat.le_of_ble_eq_true rfl), (Nat.le_of_ble_eq_true rfl)⟩, (Nat.le_of_ble_eq_true rfl), (Nat.le_of_ble_eq_true rfl)⟩ rfl (Nat.le_of_ble_eq_true rfl) dX10_sizeOrder_63 (fun k9 hk9 ce q9 H locs a1 a2 a3 a4 a5 a6 => ?_) (fun vr hv => (inlr hv).elim)
        obtain rfl := Sum.inl.inj hk9
        exact sx_out C ht a1 a2 a3 a4 a5 a6 (Nat.le_of_ble_eq_true rfl) (Nat.le_of_ble_eq_true rfl)
      · replace h := bsr h
        refine sx_xcallV (As := [.int x12]) (rest := []) C hs (c_X10_aligned hfl ex17) mo_X10_aligned q630 i5 rfl rfl hl.1 ⟨⟨(Nat.le_of_ble_eq_true rfl), (Nat.le_of_ble_eq_true rfl)⟩, (Nat.le_of_ble_eq_true rfl), (Nat.le_of_ble_eq_true rfl)⟩ rfl (Nat.le_of_ble_eq_true rfl) dX10_sizeOrder_63 (fun k9 hk9 => (inrl hk9).elim) (fun vr hv H locs hs => ?_)
        obtain rfl := Sum.inr.inj hv
        refine W.eq (g2 := F0 m 66 ls [.long x17]) rfl ?_
        refine W.widen (k := 0) (n := 0) (Nat.le_of_ble_eq_true rfl) (Nat.le_of_ble_eq_true rfl) ?_
        refine va_mabs_long C.1 C.2.1 (C.2.2.1.trans hl.1.symm) C.2.2.2.1 (C.2.2.2.2.1.1 _ q483 _) (C.2.2.2.2.1.1 _ mth_va_mabs_long_s _) (C.2.2.2.2.1.1 _ qmath _) (C.2.2.2.2.1.1 _ mth_va_mabs_long_c _) (by exact Nat.le_of_ble_eq_true rfl) (by exact Nat.le_of_ble_eq_true rfl) (by exact Nat.le_of_ble_eq_true rfl) (by exact Nat.le_of_ble_eq_true rfl) dX10_sizeOrder_66 ?_
        replace h := ol h; obtain ⟨x20, ex20, h⟩ := h
        refine sx_nmL ex20 ?_
        refine lv_lstore (lv' := [(7, .long x20), (5, .long x16), (4, .int x12), (3, .int x8), (2, .int x4), (0, .ref a0), (1, .ref a1)]) C.1 C.2.1 dX10_sizeOrder_69 hl (by decide) rfl (fun ls hl => ?_)
        refine lv_lload C.1 C.2.1 dX10_sizeOrder_71 (lv_at hl 1 rfl) ?_
        refine lv_lload C.1 C.2.1 dX10_sizeOrder_73 (lv_at hl 0 rfl) ?_
        refine W.lcmp C.1 C.2.1 dX10_sizeOrder_75 ?_
        refine lv_if_ne (tgt := 81) C.1 C.2.1 dX10_sizeOrder_76 (by decide) (fun c21 => ?_) (fun c21 => ?_)
        · replace h := iN (fun q => c21 ((lg_cmp_eq _ _).mpr q)) h
          refine lv_lload C.1 C.2.1 dX10_sizeOrder_81 (lv_at hl 1 rfl) ?_
          refine lv_lload C.1 C.2.1 dX10_sizeOrder_83 (lv_at hl 0 rfl) ?_
          refine W.lcmp C.1 C.2.1 dX10_sizeOrder_85 ?_
          refine lv_if_ge (tgt := 93) C.1 C.2.1 dX10_sizeOrder_86 (by decide) (fun c22 => ?_) (fun c22 => ?_)
          · replace h := ip ((lg_cmp_ge _ _).mp c22) h
            refine lv_iconst (v := 1) C.1 C.2.1 dX10_sizeOrder_93 (by decide) ?_
            cases h
            exact sx_iretX C hs hr rfl dX10_sizeOrder_94
          · replace h := iN (fun q => c22 ((lg_cmp_ge _ _).mpr q)) h
            refine lv_iconst (v := (-1)) C.1 C.2.1 dX10_sizeOrder_89 (by decide) ?_
            refine lv_goto (tgt := 94) C.1 C.2.1 dX10_sizeOrder_90 (by decide) ?_
            cases h
            exact sx_iretX C hs hr rfl dX10_sizeOrder_94
        · replace h := ip ((lg_cmp_eq _ _).mp c21) h
          refine lv_iconst (v := 0) C.1 C.2.1 dX10_sizeOrder_79 (by decide) ?_
          cases h
          exact sx_iretX C hs hr rfl dX10_sizeOrder_80
  · replace h := iN c9 h
    refine lv_iload_n C.1 C.2.1 dX10_sizeOrder_25 rfl (lv_at hl 1 rfl) ?_
    refine lv_iload_n C.1 C.2.1 dX10_sizeOrder_26 rfl (lv_at hl 0 rfl) ?_
    refine lv_icmp_ge (tgt := 34) C.1 C.2.1 dX10_sizeOrder_27 (by decide) (fun c23 => ?_) (fun c23 => ?_)
    · replace h := ip c23 h
      refine lv_iconst (v := 1) C.1 C.2.1 dX10_sizeOrder_34 (by decide) ?_
      cases h
      exact sx_iretX C hs hr rfl dX10_sizeOrder_35
    · replace h := iN c23 h
      refine lv_iconst (v := (-1)) C.1 C.2.1 dX10_sizeOrder_30 (by decide) ?_
      refine lv_goto (tgt := 35) C.1 C.2.1 dX10_sizeOrder_31 (by decide) ?_
      cases h
      exact sx_iretX C hs hr rfl dX10_sizeOrder_35
def f_X10_order (N : Nat) (σ : Sto) (a0 : Nat) (a1 : Nat) : Option ((Nat ⊕ Int32)) :=
 (isO σ a0 9).bind fun _ =>
 (f_X10_sign σ a0).bind fun x2 =>
 (isO σ a1 9).bind fun _ =>
 (f_X10_sign σ a1).bind fun x4 =>
 if x2 = x4 then
 (f_X10_sign σ a0).bind fun x6 =>
 (f_X10_sizeOrder N σ a0 a1).bind fun u8 =>
 bs u8 (fun j9 => some (.inl j9)) fun x7 =>
 some (.inr (x6 * x7))
 else
 (f_X10_sign σ a0).bind fun x10 =>
 (f_X10_sign σ a1).bind fun x11 =>
 if x11 ≤ x10 then
 some (.inr 1)
 else
 some (.inr (-1))
set_option maxHeartbeats 4000000 in
set_option maxRecDepth 100000 in
theorem c_X10_order {l : Launch} (hfl : l.stackTraces = false) {g : PP} {N : Nat} {σ : Sto} {sz : Nat} {a0 : Nat} {a1 : Nat} {r9 : Nat ⊕ Int32} (h : f_X10_order N σ a0 a1 = some r9) : vx_Met l yX10_order [Cond.code yX10_order cX10_order 2 (some .int)] (rmk 9 (cX r9) (cY r9) 175) (Pre g σ sz [.ref a0, .ref a1]) (PstX g (Sum.map id vI r9) σ sz) (XpX g (Sum.map id vI r9) σ sz) (cX r9) (cY r9) (Aw g) := by
  refine vx_ofW (cc := cX10_order) (maxL := 2) (ret := (some .int)) (by decide) rfl ?_
  intro p e s m args below meth c s₁ B hml ht hv
  obtain ⟨rfl, C, hs⟩ := ctx_of B hml hv
  have C : Cx g p s m meth c cX10_order 2 "Tillhouse$Value" := C
  have hr := B.returns
  have hl := lv_entry ([.ref a0, .ref a1]) (n := 2) (Nat.le_of_ble_eq_true rfl)
  rw [lg_entry_eq]
  generalize (lg_sl ([.ref a0, .ref a1]) ++ List.replicate (2 - (lg_sl ([.ref a0, .ref a1])).length) Slot.unset).toArray = ls at hl ⊢
  have hl : lv_has ls 2 [(0, .ref a0), (1, .ref a1)] := hl
  unfold f_X10_order at h
  refine lv_aload_n C.1 C.2.1 dX10_order_0 rfl (lv_at hl 0 rfl) ?_
  replace h := ob h; obtain ⟨⟨⟩, i1, h⟩ := h
  replace h := ob h; obtain ⟨x2, ex2, h⟩ := h
  refine sx_callV (As := []) (rest := []) C hs (c_X10_sign ex2) mo_X10_sign q656 i1 rfl rfl hl.1 ⟨⟨(Nat.le_of_ble_eq_true rfl), (Nat.le_of_ble_eq_true rfl)⟩, (Nat.le_of_ble_eq_true rfl), (Nat.le_of_ble_eq_true rfl)⟩ rfl (Nat.le_of_ble_eq_true rfl) dX10_order_1 (fun H locs hs => ?_)
  refine W.eq (g2 := F0 m 4 ls [.int x2]) rfl ?_
  refine lv_aload_n C.1 C.2.1 dX10_order_4 rfl (lv_at hl 1 rfl) ?_
  replace h := ob h; obtain ⟨⟨⟩, i3, h⟩ := h
  replace h := ob h; obtain ⟨x4, ex4, h⟩ := h
  refine sx_callV (As := []) (rest := [.int x2]) C hs (c_X10_sign ex4) mo_X10_sign q656 i3 rfl rfl hl.1 ⟨⟨(Nat.le_of_ble_eq_true rfl), (Nat.le_of_ble_eq_true rfl)⟩, (Nat.le_of_ble_eq_true rfl), (Nat.le_of_ble_eq_true rfl)⟩ rfl (Nat.le_of_ble_eq_true rfl) dX10_order_5 (fun H locs hs => ?_)
  refine W.eq (g2 := F0 m 8 ls [.int x4, .int x2]) rfl ?_
  refine lv_icmp_eq (tgt := 28) C.1 C.2.1 dX10_order_8 (by decide) (fun c5 => ?_) (fun c5 => ?_)
  · replace h := ip c5 h
    refine lv_aload_n C.1 C.2.1 dX10_order_28 rfl (lv_at hl 0 rfl) ?_
    replace h := ob h; obtain ⟨x6, ex6, h⟩ := h
    refine sx_callV (As := []) (rest := []) C hs (c_X10_sign ex6) mo_X10_sign q656 i1 rfl rfl hl.1 ⟨⟨(Nat.le_of_ble_eq_true rfl), (Nat.le_of_ble_eq_true rfl)⟩, (Nat.le_of_ble_eq_true rfl), (Nat.le_of_ble_eq_true rfl)⟩ rfl (Nat.le_of_ble_eq_true rfl) dX10_order_29 (fun H locs hs => ?_)
    refine W.eq (g2 := F0 m 32 ls [.int x6]) rfl ?_
    refine lv_aload_n C.1 C.2.1 dX10_order_32 rfl (lv_at hl 0 rfl) ?_
    refine lv_aload_n C.1 C.2.1 dX10_order_33 rfl (lv_at hl 1 rfl) ?_
    replace h := ob h; obtain ⟨u8, ex7, h⟩ := h
    rcases u8 with j9 | x7
    · replace h := bsl h
      cases h
      refine sx_xcallV (As := [.ref a1]) (rest := [.int x6]) C hs (c_X10_sizeOrder hfl ex7) mo_X10_sizeOrder q657 i1 rfl rfl hl.1 ⟨⟨(Nat.le_of_ble_eq_true rfl), (Nat.le_of_ble_eq_true rfl)⟩, (Nat.le_of_ble_eq_true rfl), (Nat.le_of_ble_eq_true rfl)⟩ rfl (Nat.le_of_ble_eq_true rfl) dX10_order_34 (fun k9 hk9 ce q9 H locs a1 a2 a3 a4 a5 a6 => ?_) (fun vr hv => (inlr hv).elim)
      obtain rfl := Sum.inl.inj hk9
      exact sx_out C ht a1 a2 a3 a4 a5 a6 (Nat.le_of_ble_eq_true rfl) (Nat.le_of_ble_eq_true rfl)
    · replace h := bsr h
      refine sx_xcallV (As := [.ref a1]) (rest := [.int x6]) C hs (c_X10_sizeOrder hfl ex7) mo_X10_sizeOrder q657 i1 rfl rfl hl.1 ⟨⟨(Nat.le_of_ble_eq_true rfl), (Nat.le_of_ble_eq_true rfl)⟩, (Nat.le_of_ble_eq_true rfl), (Nat.le_of_ble_eq_true rfl)⟩ rfl (Nat.le_of_ble_eq_true rfl) dX10_order_34 (fun k9 hk9 => (inrl hk9).elim) (fun vr hv H locs hs => ?_)
      obtain rfl := Sum.inr.inj hv
      refine W.eq (g2 := F0 m 37 ls [.int x7, .int x6]) rfl ?_
      refine W.widen (k := 0) (n := 0) (Nat.le_of_ble_eq_true rfl) (Nat.le_of_ble_eq_true rfl) ?_
      refine lv_imul C.1 C.2.1 dX10_order_37 ?_
      cases h
      exact sx_iretX C hs hr rfl dX10_order_38
  · replace h := iN c5 h
    refine lv_aload_n C.1 C.2.1 dX10_order_11 rfl (lv_at hl 0 rfl) ?_
    replace h := ob h; obtain ⟨x10, ex10, h⟩ := h
    refine sx_callV (As := []) (rest := []) C hs (c_X10_sign ex10) mo_X10_sign q656 i1 rfl rfl hl.1 ⟨⟨(Nat.le_of_ble_eq_true rfl), (Nat.le_of_ble_eq_true rfl)⟩, (Nat.le_of_ble_eq_true rfl), (Nat.le_of_ble_eq_true rfl)⟩ rfl (Nat.le_of_ble_eq_true rfl) dX10_order_12 (fun H locs hs => ?_)
    refine W.eq (g2 := F0 m 15 ls [.int x10]) rfl ?_
    refine lv_aload_n C.1 C.2.1 dX10_order_15 rfl (lv_at hl 1 rfl) ?_
    replace h := ob h; obtain ⟨x11, ex11, h⟩ := h
    refine sx_callV (As := []) (rest := [.int x10]) C hs (c_X10_sign ex11) mo_X10_sign q656 i3 rfl rfl hl.1 ⟨⟨(Nat.le_of_ble_eq_true rfl), (Nat.le_of_ble_eq_true rfl)⟩, (Nat.le_of_ble_eq_true rfl), (Nat.le_of_ble_eq_true rfl)⟩ rfl (Nat.le_of_ble_eq_true rfl) dX10_order_16 (fun H locs hs => ?_)
    refine W.eq (g2 := F0 m 19 ls [.int x11, .int x10]) rfl ?_
    refine lv_icmp_ge (tgt := 26) C.1 C.2.1 dX10_order_19 (by decide) (fun c12 => ?_) (fun c12 => ?_)
    · replace h := ip c12 h
      refine lv_iconst (v := 1) C.1 C.2.1 dX10_order_26 (by decide) ?_
      cases h
      exact sx_iretX C hs hr rfl dX10_order_27
    · replace h := iN c12 h
      refine lv_iconst (v := (-1)) C.1 C.2.1 dX10_order_22 (by decide) ?_
      refine lv_goto (tgt := 27) C.1 C.2.1 dX10_order_23 (by decide) ?_
      cases h
      exact sx_iretX C hs hr rfl dX10_order_27
def b_X10_stripped_54 (N : Nat) (σ : Sto) (sz : Nat) (a0 : Nat) (v1 : Int64) (v3 : Int32) : Option ((Nat ⊕ Nat) × Sto × Nat) :=
 (gI σ a0 9 1).bind fun x1 =>
 b3 (f_X10_checked σ sz v1 (x1 - v3)) fun u5 τ3 y4 =>
 bs u5 (fun j6 => some (.inl j6, τ3, y4)) fun p2 =>
 some (.inr p2, τ3, y4)
def b_X10_stripped_26_body (N : Nat) (k26 : Sto × Nat × Nat × Int64 × Int32 → Option ((Nat ⊕ Nat) × Sto × Nat)) (σ : Sto) (sz : Nat) (a0 : Nat) (v1 : Int64) (v3 : Int32) : Option ((Nat ⊕ Nat) × Sto × Nat) :=
 if 18 ≤ v3 then
 b_X10_stripped_54 N σ sz a0 v1 v3
 else
 if (v1 - v1 / 10 * 10) = 0 then
 lt_ (v1 / 10) fun x3 =>
 lt_ (v3 + 1) fun x4 =>
 k26 (σ, sz, a0, x3, x4)
 else
 b_X10_stripped_54 N σ sz a0 v1 v3
def b_X10_stripped_26 (N : Nat) (σ : Sto) (sz : Nat) (a0 : Nat) (v1 : Int64) (v3 : Int32) : Option ((Nat ⊕ Nat) × Sto × Nat) :=
  lp (fun k e => b_X10_stripped_26_body N k e.1 e.2.1 e.2.2.1 e.2.2.2.1 e.2.2.2.2) N (σ, sz, a0, v1, v3)
def f_X10_stripped (N : Nat) (σ : Sto) (sz : Nat) (a0 : Nat) : Option ((Nat ⊕ Nat) × Sto × Nat) :=
 (gL σ a0 9 0).bind fun x1 =>
 if x1 = 0 then
 lt_ (nO σ sz 9 dvX10) fun τ4 =>
 b2 (f_X10_init τ4 sz 0 0) fun x5 τ6 =>
 some (.inr sz, τ6, sz + 1)
 else
 (gL σ a0 9 0).bind fun x3 =>
 b_X10_stripped_26 N σ sz a0 x3 0
set_option maxHeartbeats 4000000 in
set_option maxRecDepth 100000 in
theorem t_X10_stripped_54 {l : Launch} {g : PP} {p : Program} {e : Env} {s : State} {m : MethodId} {args : Array Value} {below : List Frame} {meth : Method} {c : Code} (hfl : l.stackTraces = false) (C : Cx g p s m meth c cX10_stripped 4 "Tillhouse$Value") (hr : meth.sig.returnType = some (.object "Tillhouse$Value")) (ht : ∀ x ∈ c.exceptionTable.toList, False) {N : Nat}  {σ : Sto} {sz : Nat} {a0 : Nat} {v1 : Int64} {v3 : Int32} {r9 : Nat ⊕ Nat} {σ9 : Sto} {sz9 : Nat}
    (h : b_X10_stripped_54 N σ sz a0 v1 v3 = some (r9, σ9, sz9)) 
    {H : Heap} {locs : List Loc} {ls : Array Slot} (hs : HS g s σ sz H locs) (hl : lv_has ls 4 [(0, .ref a0), (1, .long v1), (3, .int v3)]) : W p l e (rmk 7 1 6 122) s m args below meth c H locs 0 0 (vx_MQ below (PstX g (Sum.map id vR r9) σ9 sz9) (XpX g (Sum.map id vR r9) σ9 sz9) args s 1 6 (Aw g)) (F0 m 54 ls []) := by
  unfold b_X10_stripped_54 at h
  refine lv_lload_n C.1 C.2.1 dX10_stripped_54 rfl (lv_at hl 1 rfl) ?_
  refine lv_aload_n C.1 C.2.1 dX10_stripped_55 rfl (lv_at hl 0 rfl) ?_
  replace h := ob h; obtain ⟨x1, ex1, h⟩ := h
  refine sx_getV C hs fo_X10_15 (gI_v ex1) dX10_stripped_56 ?_
  refine lv_iload_n C.1 C.2.1 dX10_stripped_59 rfl (lv_at hl 2 rfl) ?_
  refine lv_isub C.1 C.2.1 dX10_stripped_60 ?_
  replace h := ob3 h; obtain ⟨u5, τ3, y4, ep2, h⟩ := h
  rcases u5 with j6 | p2
  · replace h := bsl h
    cases h
    refine sx_xcallS (As := [.long v1, .int (x1 - v3)]) (rest := []) C hs (c_X10_checked hfl ep2) mo_X10_checked q642 rfl hl.1 ⟨⟨(Nat.le_of_ble_eq_true rfl), (Nat.le_of_ble_eq_true rfl)⟩, (Nat.le_of_ble_eq_true rfl), (Nat.le_of_ble_eq_true rfl)⟩ rfl (Nat.le_of_ble_eq_true rfl) dX10_stripped_61 (fun k9 hk9 ce q9 H locs a1 a2 a3 a4 a5 a6 => ?_) (fun vr hv => (inlr hv).elim)
    obtain rfl := Sum.inl.inj hk9
    exact sx_out C ht a1 a2 a3 a4 a5 a6 (Nat.le_of_ble_eq_true rfl) (Nat.le_of_ble_eq_true rfl)
  · replace h := bsr h
    refine sx_xcallS (As := [.long v1, .int (x1 - v3)]) (rest := []) C hs (c_X10_checked hfl ep2) mo_X10_checked q642 rfl hl.1 ⟨⟨(Nat.le_of_ble_eq_true rfl), (Nat.le_of_ble_eq_true rfl)⟩, (Nat.le_of_ble_eq_true rfl), (Nat.le_of_ble_eq_true rfl)⟩ rfl (Nat.le_of_ble_eq_true rfl) dX10_stripped_61 (fun k9 hk9 => (inrl hk9).elim) (fun vr hv H locs hs => ?_)
    obtain rfl := Sum.inr.inj hv
    refine W.eq (g2 := F0 m 64 ls [.ref p2]) rfl ?_
    refine W.widen (k := 1) (n := 6) (Nat.le_of_ble_eq_true rfl) (Nat.le_of_ble_eq_true rfl) ?_
    cases h
    exact sx_aretX C hs hr (by first | exact Or.inl ⟨_, rfl⟩ | exact Or.inr ⟨_, rfl⟩) dX10_stripped_64
set_option maxHeartbeats 4000000 in
set_option maxRecDepth 100000 in
theorem tb_X10_stripped_26 {l : Launch} {g : PP} {p : Program} {e : Env} {s : State} {m : MethodId} {args : Array Value} {below : List Frame} {meth : Method} {c : Code} (hfl : l.stackTraces = false) (C : Cx g p s m meth c cX10_stripped 4 "Tillhouse$Value") (hr : meth.sig.returnType = some (.object "Tillhouse$Value")) (ht : ∀ x ∈ c.exceptionTable.toList, False) {N : Nat}  {k26 : Sto × Nat × Nat × Int64 × Int32 → Option ((Nat ⊕ Nat) × Sto × Nat)} {σ : Sto} {sz : Nat} {a0 : Nat} {v1 : Int64} {v3 : Int32} {r9 : Nat ⊕ Nat} {σ9 : Sto} {sz9 : Nat}
    (h : b_X10_stripped_26_body N k26 σ sz a0 v1 v3 = some (r9, σ9, sz9))  (hk26 : ∀ (σ : Sto) (sz : Nat) (a0 : Nat) (v1 : Int64) (v3 : Int32), k26 (σ, sz, a0, v1, v3) = some (r9, σ9, sz9) → ∀ (H : Heap) (locs : List Loc) (ls : Array Slot), HS g s σ sz H locs → lv_has ls 4 [(0, .ref a0), (1, .long v1), (3, .int v3)] → W p l e (rmk 7 1 6 122) s m args below meth c H locs 0 0 (vx_MQ below (PstX g (Sum.map id vR r9) σ9 sz9) (XpX g (Sum.map id vR r9) σ9 sz9) args s 1 6 (Aw g)) (F0 m 26 ls []))
    {H : Heap} {locs : List Loc} {ls : Array Slot} (hs : HS g s σ sz H locs) (hl : lv_has ls 4 [(0, .ref a0), (1, .long v1), (3, .int v3)]) : W p l e (rmk 7 1 6 122) s m args below meth c H locs 0 0 (vx_MQ below (PstX g (Sum.map id vR r9) σ9 sz9) (XpX g (Sum.map id vR r9) σ9 sz9) args s 1 6 (Aw g)) (F0 m 26 ls []) := by
  unfold b_X10_stripped_26_body at h
  refine lv_iload_n C.1 C.2.1 dX10_stripped_26 rfl (lv_at hl 2 rfl) ?_
  refine lv_bipush (v := 18) C.1 C.2.1 dX10_stripped_27 (by decide) ?_
  refine lv_icmp_ge (tgt := 54) C.1 C.2.1 dX10_stripped_29 (by decide) (fun c1 => ?_) (fun c1 => ?_)
  · replace h := ip c1 h
    exact t_X10_stripped_54 hfl C hr ht h hs (lv_sub hl [0, 1, 2] rfl)
  · replace h := iN c1 h
    refine lv_lload_n C.1 C.2.1 dX10_stripped_32 rfl (lv_at hl 1 rfl) ?_
    refine lv_ldc2 (v := 10) C.1 C.2.1 C.2.2.2.1 (C.2.2.2.2.1.1 _ q677 _) dX10_stripped_33 ?_
    refine lv_lrem C.1 C.2.1 dX10_stripped_36 (by decide) ?_
    refine lv_lconst (v := 0) C.1 C.2.1 dX10_stripped_37 (by decide) ?_
    refine W.lcmp C.1 C.2.1 dX10_stripped_38 ?_
    refine lv_if_ne (tgt := 54) C.1 C.2.1 dX10_stripped_39 (by decide) (fun c2 => ?_) (fun c2 => ?_)
    · replace h := iN (fun q => c2 ((lg_cmp_eq _ _).mpr q)) h
      exact t_X10_stripped_54 hfl C hr ht h hs (lv_sub hl [0, 1, 2] rfl)
    · replace h := ip ((lg_cmp_eq _ _).mp c2) h
      refine lv_lload_n C.1 C.2.1 dX10_stripped_42 rfl (lv_at hl 1 rfl) ?_
      refine lv_ldc2 (v := 10) C.1 C.2.1 C.2.2.2.1 (C.2.2.2.2.1.1 _ q677 _) dX10_stripped_43 ?_
      refine lv_ldiv C.1 C.2.1 dX10_stripped_46 (by decide) ?_
      replace h := ol h; obtain ⟨x3, ex3, h⟩ := h
      refine sx_nmL ex3 ?_
      refine lv_lstore_n (lv' := [(1, .long x3), (0, .ref a0), (3, .int v3)]) C.1 C.2.1 dX10_stripped_47 rfl hl (by decide) rfl (fun ls hl => ?_)
      replace h := ol h; obtain ⟨x4, ex4, h⟩ := h
      refine lv_iinc (v := x4) (lv' := [(3, .int x4), (1, .long x3), (0, .ref a0)]) C.1 C.2.1 dX10_stripped_48 hl (k := 2) rfl (by rw [ex4]; rfl) (by decide) rfl (fun ls hl => ?_)
      refine lv_goto (tgt := 26) C.1 C.2.1 dX10_stripped_51 (by decide) ?_
      exact hk26 σ sz a0 x3 x4 h _ _ _ hs (lv_sub hl [2, 1, 0] rfl)
set_option maxHeartbeats 4000000 in
set_option maxRecDepth 100000 in
theorem tl_X10_stripped_26 {l : Launch} {g : PP} {p : Program} {e : Env} {s : State} {m : MethodId} {args : Array Value} {below : List Frame} {meth : Method} {c : Code} (hfl : l.stackTraces = false) (C : Cx g p s m meth c cX10_stripped 4 "Tillhouse$Value") (hr : meth.sig.returnType = some (.object "Tillhouse$Value")) (ht : ∀ x ∈ c.exceptionTable.toList, False) {N : Nat}    {r9 : Nat ⊕ Nat} {σ9 : Sto} {sz9 : Nat}  : ∀ (n : Nat) (σ : Sto) (sz : Nat) (a0 : Nat) (v1 : Int64) (v3 : Int32), lp (fun k e => b_X10_stripped_26_body N k e.1 e.2.1 e.2.2.1 e.2.2.2.1 e.2.2.2.2) n (σ, sz, a0, v1, v3) = some (r9, σ9, sz9) → ∀ (H : Heap) (locs : List Loc) (ls : Array Slot), HS g s σ sz H locs → lv_has ls 4 [(0, .ref a0), (1, .long v1), (3, .int v3)] → W p l e (rmk 7 1 6 122) s m args below meth c H locs 0 0 (vx_MQ below (PstX g (Sum.map id vR r9) σ9 sz9) (XpX g (Sum.map id vR r9) σ9 sz9) args s 1 6 (Aw g)) (F0 m 26 ls []) := by
  intro n
  induction n with
  | zero => intro σ sz a0 v1 v3 h; exact absurd h (fun q => nomatch q)
  | succ n ih =>
    intro σ sz a0 v1 v3 h H locs ls hs hl
    exact tb_X10_stripped_26 (N := N) hfl C hr ht h (fun σ sz a0 v1 v3 h H locs ls hs hl => ih σ sz a0 v1 v3 h H locs ls hs hl) hs hl
set_option maxHeartbeats 4000000 in
set_option maxRecDepth 100000 in
theorem t_X10_stripped_26 {l : Launch} {g : PP} {p : Program} {e : Env} {s : State} {m : MethodId} {args : Array Value} {below : List Frame} {meth : Method} {c : Code} (hfl : l.stackTraces = false) (C : Cx g p s m meth c cX10_stripped 4 "Tillhouse$Value") (hr : meth.sig.returnType = some (.object "Tillhouse$Value")) (ht : ∀ x ∈ c.exceptionTable.toList, False) {N : Nat}  {σ : Sto} {sz : Nat} {a0 : Nat} {v1 : Int64} {v3 : Int32} {r9 : Nat ⊕ Nat} {σ9 : Sto} {sz9 : Nat}
    (h : b_X10_stripped_26 N σ sz a0 v1 v3 = some (r9, σ9, sz9)) 
    {H : Heap} {locs : List Loc} {ls : Array Slot} (hs : HS g s σ sz H locs) (hl : lv_has ls 4 [(0, .ref a0), (1, .long v1), (3, .int v3)]) : W p l e (rmk 7 1 6 122) s m args below meth c H locs 0 0 (vx_MQ below (PstX g (Sum.map id vR r9) σ9 sz9) (XpX g (Sum.map id vR r9) σ9 sz9) args s 1 6 (Aw g)) (F0 m 26 ls []) := tl_X10_stripped_26 hfl C hr ht N σ sz a0 v1 v3 h H locs ls hs hl
set_option maxHeartbeats 4000000 in
set_option maxRecDepth 100000 in
theorem c_X10_stripped {l : Launch} (hfl : l.stackTraces = false) {g : PP} {N : Nat} {σ : Sto} {sz : Nat} {a0 : Nat} {r9 : Nat ⊕ Nat} {σ9 : Sto} {sz9 : Nat} (h : f_X10_stripped N σ sz a0 = some (r9, σ9, sz9)) : vx_Met l yX10_stripped [Cond.code yX10_stripped cX10_stripped 4 (some (.object "Tillhouse$Value"))] (rmk 7 1 6 122) (Pre g σ sz [.ref a0]) (PstX g (Sum.map id vR r9) σ9 sz9) (XpX g (Sum.map id vR r9) σ9 sz9) 1 6 (Aw g) := by
  refine vx_ofW (cc := cX10_stripped) (maxL := 4) (ret := (some (.object "Tillhouse$Value"))) (by decide) rfl ?_
  intro p e s m args below meth c s₁ B hml ht hv
  obtain ⟨rfl, C, hs⟩ := ctx_of B hml hv
  have C : Cx g p s m meth c cX10_stripped 4 "Tillhouse$Value" := C
  have hr := B.returns
  have hl := lv_entry ([.ref a0]) (n := 4) (Nat.le_of_ble_eq_true rfl)
  rw [lg_entry_eq]
  generalize (lg_sl ([.ref a0]) ++ List.replicate (4 - (lg_sl ([.ref a0])).length) Slot.unset).toArray = ls at hl ⊢
  have hl : lv_has ls 4 [(0, .ref a0)] := hl
  unfold f_X10_stripped at h
  refine lv_aload_n C.1 C.2.1 dX10_stripped_0 rfl (lv_at hl 0 rfl) ?_
  replace h := ob h; obtain ⟨x1, ex1, h⟩ := h
  refine sx_getV C hs fo_X10_9 (gL_v ex1) dX10_stripped_1 ?_
  refine lv_lconst (v := 0) C.1 C.2.1 dX10_stripped_4 (by decide) ?_
  refine W.lcmp C.1 C.2.1 dX10_stripped_5 ?_
  refine lv_if_ne (tgt := 19) C.1 C.2.1 dX10_stripped_6 (by decide) (fun c2 => ?_) (fun c2 => ?_)
  · replace h := iN (fun q => c2 ((lg_cmp_eq _ _).mpr q)) h
    refine lv_aload_n C.1 C.2.1 dX10_stripped_19 rfl (lv_at hl 0 rfl) ?_
    replace h := ob h; obtain ⟨x3, ex3, h⟩ := h
    refine sx_getV C hs fo_X10_9 (gL_v ex3) dX10_stripped_20 ?_
    refine lv_lstore_n (lv' := [(1, .long x3), (0, .ref a0)]) C.1 C.2.1 dX10_stripped_23 rfl hl (by decide) rfl (fun ls hl => ?_)
    refine lv_iconst (v := 0) C.1 C.2.1 dX10_stripped_24 (by decide) ?_
    refine lv_istore_n (lv' := [(3, .int 0), (1, .long x3), (0, .ref a0)]) C.1 C.2.1 dX10_stripped_25 rfl hl (by decide) rfl (fun ls hl => ?_)
    exact t_X10_stripped_26 hfl C hr ht h hs (lv_sub hl [2, 1, 0] rfl)
  · replace h := ip ((lg_cmp_eq _ _).mp c2) h
    replace h := ol h; obtain ⟨τ4, eτ4, h⟩ := h
    refine sx_new C hs no_X10_10 (Nat.le_of_ble_eq_true rfl) (Nat.le_of_ble_eq_true rfl) dX10_stripped_9 (fun H hs => ?_)
    replace hs := HS.nm eτ4 hs
    refine lv_dup C.1 C.2.1 dX10_stripped_12 rfl ?_
    refine lv_lconst (v := 0) C.1 C.2.1 dX10_stripped_13 (by decide) ?_
    refine lv_iconst (v := 0) C.1 C.2.1 dX10_stripped_14 (by decide) ?_
    replace h := ob2 h; obtain ⟨x5, τ6, ex5, h⟩ := h
    refine sx_callI (As := [.long 0, .int 0]) (rest := [.ref sz]) C hs (c_X10_init ex5) mo_X10_init q565 rfl hl.1 ⟨⟨(Nat.le_of_ble_eq_true rfl), (Nat.le_of_ble_eq_true rfl)⟩, (Nat.le_of_ble_eq_true rfl), (Nat.le_of_ble_eq_true rfl)⟩ rfl (Nat.le_of_ble_eq_true rfl) dX10_stripped_15 (fun H locs hs => ?_)
    cases h
    refine W.widen (k := 1) (n := 6) (Nat.le_of_ble_eq_true rfl) (Nat.le_of_ble_eq_true rfl) ?_
    exact sx_aretX C hs hr (by first | exact Or.inl ⟨_, rfl⟩ | exact Or.inr ⟨_, rfl⟩) dX10_stripped_18
def f_X10_moved (σ : Sto) (sz : Nat) (a0 : Nat) (v1 : Int32) : Option ((Nat ⊕ Nat) × Sto × Nat) :=
 (gI σ a0 9 1).bind fun x1 =>
 lt_ (x1 + v1) fun x2 =>
 if x2 < 0 then
 (gL σ a0 9 0).bind fun x4 =>
 (f_X6_raised x4 (-x2) 999999999999999999).bind fun u6 =>
 bs u6 (fun j7 => some (.inl j7, σ, sz)) fun x5 =>
 b3 (f_X10_checked σ sz x5 0) fun u11 τ9 y10 =>
 bs u11 (fun j12 => some (.inl j12, τ9, y10)) fun p8 =>
 some (.inr p8, τ9, y10)
 else
 (gL σ a0 9 0).bind fun x13 =>
 b3 (f_X10_checked σ sz x13 x2) fun u17 τ15 y16 =>
 bs u17 (fun j18 => some (.inl j18, τ15, y16)) fun p14 =>
 some (.inr p14, τ15, y16)
set_option maxHeartbeats 4000000 in
set_option maxRecDepth 100000 in
theorem c_X10_moved {l : Launch} (hfl : l.stackTraces = false) {g : PP} {σ : Sto} {sz : Nat} {a0 : Nat} {v1 : Int32} {r9 : Nat ⊕ Nat} {σ9 : Sto} {sz9 : Nat} (h : f_X10_moved σ sz a0 v1 = some (r9, σ9, sz9)) : vx_Met l yX10_moved [Cond.code yX10_moved cX10_moved 3 (some (.object "Tillhouse$Value"))] (rmk 7 1 6 126) (Pre g σ sz [.ref a0, .int v1]) (PstX g (Sum.map id vR r9) σ9 sz9) (XpX g (Sum.map id vR r9) σ9 sz9) 1 6 (Aw g) := by
  refine vx_ofW (cc := cX10_moved) (maxL := 3) (ret := (some (.object "Tillhouse$Value"))) (by decide) rfl ?_
  intro p e s m args below meth c s₁ B hml ht hv
  obtain ⟨rfl, C, hs⟩ := ctx_of B hml hv
  have C : Cx g p s m meth c cX10_moved 3 "Tillhouse$Value" := C
  have hr := B.returns
  have hl := lv_entry ([.ref a0, .int v1]) (n := 3) (Nat.le_of_ble_eq_true rfl)
  rw [lg_entry_eq]
  generalize (lg_sl ([.ref a0, .int v1]) ++ List.replicate (3 - (lg_sl ([.ref a0, .int v1])).length) Slot.unset).toArray = ls at hl ⊢
  have hl : lv_has ls 3 [(0, .ref a0), (1, .int v1)] := hl
  unfold f_X10_moved at h
  refine lv_aload_n C.1 C.2.1 dX10_moved_0 rfl (lv_at hl 0 rfl) ?_
  replace h := ob h; obtain ⟨x1, ex1, h⟩ := h
  refine sx_getV C hs fo_X10_15 (gI_v ex1) dX10_moved_1 ?_
  refine lv_iload_n C.1 C.2.1 dX10_moved_4 rfl (lv_at hl 1 rfl) ?_
  refine lv_iadd C.1 C.2.1 dX10_moved_5 ?_
  replace h := ol h; obtain ⟨x2, ex2, h⟩ := h
  refine sx_nmI ex2 ?_
  refine lv_istore_n (lv' := [(2, .int x2), (0, .ref a0), (1, .int v1)]) C.1 C.2.1 dX10_moved_6 rfl hl (by decide) rfl (fun ls hl => ?_)
  refine lv_iload_n C.1 C.2.1 dX10_moved_7 rfl (lv_at hl 0 rfl) ?_
  refine lv_if_lt (tgt := 20) C.1 C.2.1 dX10_moved_8 (by decide) (fun c3 => ?_) (fun c3 => ?_)
  · replace h := ip c3 h
    refine lv_aload_n C.1 C.2.1 dX10_moved_20 rfl (lv_at hl 1 rfl) ?_
    replace h := ob h; obtain ⟨x4, ex4, h⟩ := h
    refine sx_getV C hs fo_X10_9 (gL_v ex4) dX10_moved_21 ?_
    refine lv_iload_n C.1 C.2.1 dX10_moved_24 rfl (lv_at hl 0 rfl) ?_
    refine lv_ineg C.1 C.2.1 dX10_moved_25 ?_
    refine lv_ldc2 (v := 999999999999999999) C.1 C.2.1 C.2.2.2.1 (C.2.2.2.2.1.1 _ q444 _) dX10_moved_26 ?_
    replace h := ob h; obtain ⟨u6, ex5, h⟩ := h
    rcases u6 with j7 | x5
    · replace h := bsl h
      cases h
      refine sx_xcallS (As := [.long x4, .int (-x2), .long 999999999999999999]) (rest := []) C hs (c_X6_raised hfl ex5) mo_X6_raised q635 rfl hl.1 ⟨⟨(Nat.le_of_ble_eq_true rfl), (Nat.le_of_ble_eq_true rfl)⟩, (Nat.le_of_ble_eq_true rfl), (Nat.le_of_ble_eq_true rfl)⟩ rfl (Nat.le_of_ble_eq_true rfl) dX10_moved_29 (fun k9 hk9 ce q9 H locs a1 a2 a3 a4 a5 a6 => ?_) (fun vr hv => (inlr hv).elim)
      obtain rfl := Sum.inl.inj hk9
      exact sx_out C ht a1 a2 a3 a4 a5 a6 (Nat.le_of_ble_eq_true rfl) (Nat.le_of_ble_eq_true rfl)
    · replace h := bsr h
      refine sx_xcallS (As := [.long x4, .int (-x2), .long 999999999999999999]) (rest := []) C hs (c_X6_raised hfl ex5) mo_X6_raised q635 rfl hl.1 ⟨⟨(Nat.le_of_ble_eq_true rfl), (Nat.le_of_ble_eq_true rfl)⟩, (Nat.le_of_ble_eq_true rfl), (Nat.le_of_ble_eq_true rfl)⟩ rfl (Nat.le_of_ble_eq_true rfl) dX10_moved_29 (fun k9 hk9 => (inrl hk9).elim) (fun vr hv H locs hs => ?_)
      obtain rfl := Sum.inr.inj hv
      refine W.eq (g2 := F0 m 32 ls [.long x5]) rfl ?_
      refine W.widen (k := 0) (n := 0) (Nat.le_of_ble_eq_true rfl) (Nat.le_of_ble_eq_true rfl) ?_
      refine lv_iconst (v := 0) C.1 C.2.1 dX10_moved_32 (by decide) ?_
      replace h := ob3 h; obtain ⟨u11, τ9, y10, ep8, h⟩ := h
      rcases u11 with j12 | p8
      · replace h := bsl h
        cases h
        refine sx_xcallS (As := [.long x5, .int 0]) (rest := []) C hs (c_X10_checked hfl ep8) mo_X10_checked q642 rfl hl.1 ⟨⟨(Nat.le_of_ble_eq_true rfl), (Nat.le_of_ble_eq_true rfl)⟩, (Nat.le_of_ble_eq_true rfl), (Nat.le_of_ble_eq_true rfl)⟩ rfl (Nat.le_of_ble_eq_true rfl) dX10_moved_33 (fun k9 hk9 ce q9 H locs a1 a2 a3 a4 a5 a6 => ?_) (fun vr hv => (inlr hv).elim)
        obtain rfl := Sum.inl.inj hk9
        exact sx_out C ht a1 a2 a3 a4 a5 a6 (Nat.le_of_ble_eq_true rfl) (Nat.le_of_ble_eq_true rfl)
      · replace h := bsr h
        refine sx_xcallS (As := [.long x5, .int 0]) (rest := []) C hs (c_X10_checked hfl ep8) mo_X10_checked q642 rfl hl.1 ⟨⟨(Nat.le_of_ble_eq_true rfl), (Nat.le_of_ble_eq_true rfl)⟩, (Nat.le_of_ble_eq_true rfl), (Nat.le_of_ble_eq_true rfl)⟩ rfl (Nat.le_of_ble_eq_true rfl) dX10_moved_33 (fun k9 hk9 => (inrl hk9).elim) (fun vr hv H locs hs => ?_)
        obtain rfl := Sum.inr.inj hv
        refine W.eq (g2 := F0 m 36 ls [.ref p8]) rfl ?_
        refine W.widen (k := 1) (n := 6) (Nat.le_of_ble_eq_true rfl) (Nat.le_of_ble_eq_true rfl) ?_
        cases h
        exact sx_aretX C hs hr (by first | exact Or.inl ⟨_, rfl⟩ | exact Or.inr ⟨_, rfl⟩) dX10_moved_36
  · replace h := iN c3 h
    refine lv_aload_n C.1 C.2.1 dX10_moved_11 rfl (lv_at hl 1 rfl) ?_
    replace h := ob h; obtain ⟨x13, ex13, h⟩ := h
    refine sx_getV C hs fo_X10_9 (gL_v ex13) dX10_moved_12 ?_
    refine lv_iload_n C.1 C.2.1 dX10_moved_15 rfl (lv_at hl 0 rfl) ?_
    replace h := ob3 h; obtain ⟨u17, τ15, y16, ep14, h⟩ := h
    rcases u17 with j18 | p14
    · replace h := bsl h
      cases h
      refine sx_xcallS (As := [.long x13, .int x2]) (rest := []) C hs (c_X10_checked hfl ep14) mo_X10_checked q642 rfl hl.1 ⟨⟨(Nat.le_of_ble_eq_true rfl), (Nat.le_of_ble_eq_true rfl)⟩, (Nat.le_of_ble_eq_true rfl), (Nat.le_of_ble_eq_true rfl)⟩ rfl (Nat.le_of_ble_eq_true rfl) dX10_moved_16 (fun k9 hk9 ce q9 H locs a1 a2 a3 a4 a5 a6 => ?_) (fun vr hv => (inlr hv).elim)
      obtain rfl := Sum.inl.inj hk9
      exact sx_out C ht a1 a2 a3 a4 a5 a6 (Nat.le_of_ble_eq_true rfl) (Nat.le_of_ble_eq_true rfl)
    · replace h := bsr h
      refine sx_xcallS (As := [.long x13, .int x2]) (rest := []) C hs (c_X10_checked hfl ep14) mo_X10_checked q642 rfl hl.1 ⟨⟨(Nat.le_of_ble_eq_true rfl), (Nat.le_of_ble_eq_true rfl)⟩, (Nat.le_of_ble_eq_true rfl), (Nat.le_of_ble_eq_true rfl)⟩ rfl (Nat.le_of_ble_eq_true rfl) dX10_moved_16 (fun k9 hk9 => (inrl hk9).elim) (fun vr hv H locs hs => ?_)
      obtain rfl := Sum.inr.inj hv
      refine W.eq (g2 := F0 m 19 ls [.ref p14]) rfl ?_
      refine W.widen (k := 1) (n := 6) (Nat.le_of_ble_eq_true rfl) (Nat.le_of_ble_eq_true rfl) ?_
      cases h
      exact sx_aretX C hs hr (by first | exact Or.inl ⟨_, rfl⟩ | exact Or.inr ⟨_, rfl⟩) dX10_moved_19
def b_X10_sizeCut_41 (σ : Sto) (v2 : Int32) (s0 : Int32) (s1 : Int32) (s2 : Int64) : Option ((Nat ⊕ Int64)) :=
 (f_X6_settled s2 s1 s0 v2).bind fun u2 =>
 bs u2 (fun j3 => some (.inl j3)) fun x1 =>
 some (.inr x1)
def b_X10_sizeCut_24 (σ : Sto) (a0 : Nat) (v2 : Int32) (s0 : Int32) : Option ((Nat ⊕ Int64)) :=
 (gL σ a0 9 0).bind fun x1 =>
 if 0 ≤ x1 then
 b_X10_sizeCut_41 σ v2 0 s0 0
 else
 b_X10_sizeCut_41 σ v2 1 s0 0
def b_X10_sizeCut_10 (σ : Sto) (a0 : Nat) (v2 : Int32) : Option ((Nat ⊕ Int64)) :=
 (gL σ a0 9 0).bind fun x1 =>
 if x1 = 0 then
 b_X10_sizeCut_24 σ a0 v2 0
 else
 b_X10_sizeCut_24 σ a0 v2 1
def b_X10_sizeCut_86 (σ : Sto) (v2 : Int32) (s0 : Int32) (s1 : Int32) (s2 : Int64) : Option ((Nat ⊕ Int64)) :=
 (f_X6_settled s2 s1 s0 v2).bind fun u2 =>
 bs u2 (fun j3 => some (.inl j3)) fun x1 =>
 some (.inr x1)
def f_X10_sizeCut (σ : Sto) (a0 : Nat) (v1 : Int32) (v2 : Int32) : Option ((Nat ⊕ Int64)) :=
 if v1 < 0 then
 b_X10_sizeCut_10 σ a0 v2
 else
 if v1 ≤ 18 then
 (pw v1).bind fun x3 =>
 (isO σ a0 9).bind fun _ =>
 (f_X10_size σ a0).bind fun x5 =>
 if x3 = 0 then none else
 (f_X6_rest (x5 - x5 / x3 * x3) x3).bind fun x7 =>
 (f_X10_size σ a0).bind fun x8 =>
 if x3 = 0 then none else
 (gL σ a0 9 0).bind fun x10 =>
 if 0 ≤ x10 then
 b_X10_sizeCut_86 σ v2 0 x7 (x8 / x3)
 else
 b_X10_sizeCut_86 σ v2 1 x7 (x8 / x3)
 else
 b_X10_sizeCut_10 σ a0 v2
set_option maxHeartbeats 4000000 in
set_option maxRecDepth 100000 in
theorem t_X10_sizeCut_41 {l : Launch} {g : PP} {p : Program} {e : Env} {s : State} {m : MethodId} {args : Array Value} {below : List Frame} {meth : Method} {c : Code} (hfl : l.stackTraces = false) (C : Cx g p s m meth c cX10_sizeCut 6 "Tillhouse$Value") (hr : meth.sig.returnType = some .long) (ht : ∀ x ∈ c.exceptionTable.toList, False)   {σ : Sto} {sz : Nat} {v2 : Int32} {s0 : Int32} {s1 : Int32} {s2 : Int64} {r9 : Nat ⊕ Int64}
    (h : b_X10_sizeCut_41 σ v2 s0 s1 s2 = some r9) 
    {H : Heap} {locs : List Loc} {ls : Array Slot} (hs : HS g s σ sz H locs) (hl : lv_has ls 6 [(2, .int v2)]) : W p l e (rmk 8 (cX r9) (cY r9) 148) s m args below meth c H locs 0 0 (vx_MQ below (PstX g (Sum.map id vL r9) σ sz) (XpX g (Sum.map id vL r9) σ sz) args s (cX r9) (cY r9) (Aw g)) (F0 m 41 ls [.int s0, .int s1, .long s2]) := by
  unfold b_X10_sizeCut_41 at h
  refine lv_iload_n C.1 C.2.1 dX10_sizeCut_41 rfl (lv_at hl 0 rfl) ?_
  replace h := ob h; obtain ⟨u2, ex1, h⟩ := h
  rcases u2 with j3 | x1
  · replace h := bsl h
    cases h
    refine sx_xcallS (As := [.long s2, .int s1, .int s0, .int v2]) (rest := []) C hs (c_X6_settled hfl ex1) mo_X6_settled q716 rfl hl.1 ⟨⟨(Nat.le_of_ble_eq_true rfl), (Nat.le_of_ble_eq_true rfl)⟩, (Nat.le_of_ble_eq_true rfl), (Nat.le_of_ble_eq_true rfl)⟩ rfl (Nat.le_of_ble_eq_true rfl) dX10_sizeCut_42 (fun k9 hk9 ce q9 H locs a1 a2 a3 a4 a5 a6 => ?_) (fun vr hv => (inlr hv).elim)
    obtain rfl := Sum.inl.inj hk9
    exact sx_out C ht a1 a2 a3 a4 a5 a6 (Nat.le_of_ble_eq_true rfl) (Nat.le_of_ble_eq_true rfl)
  · replace h := bsr h
    refine sx_xcallS (As := [.long s2, .int s1, .int s0, .int v2]) (rest := []) C hs (c_X6_settled hfl ex1) mo_X6_settled q716 rfl hl.1 ⟨⟨(Nat.le_of_ble_eq_true rfl), (Nat.le_of_ble_eq_true rfl)⟩, (Nat.le_of_ble_eq_true rfl), (Nat.le_of_ble_eq_true rfl)⟩ rfl (Nat.le_of_ble_eq_true rfl) dX10_sizeCut_42 (fun k9 hk9 => (inrl hk9).elim) (fun vr hv H locs hs => ?_)
    obtain rfl := Sum.inr.inj hv
    refine W.eq (g2 := F0 m 45 ls [.long x1]) rfl ?_
    refine W.widen (k := 0) (n := 0) (Nat.le_of_ble_eq_true rfl) (Nat.le_of_ble_eq_true rfl) ?_
    cases h
    exact sx_lretX C hs hr dX10_sizeCut_45
set_option maxHeartbeats 4000000 in
set_option maxRecDepth 100000 in
theorem t_X10_sizeCut_24 {l : Launch} {g : PP} {p : Program} {e : Env} {s : State} {m : MethodId} {args : Array Value} {below : List Frame} {meth : Method} {c : Code} (hfl : l.stackTraces = false) (C : Cx g p s m meth c cX10_sizeCut 6 "Tillhouse$Value") (hr : meth.sig.returnType = some .long) (ht : ∀ x ∈ c.exceptionTable.toList, False)   {σ : Sto} {sz : Nat} {a0 : Nat} {v2 : Int32} {s0 : Int32} {r9 : Nat ⊕ Int64}
    (h : b_X10_sizeCut_24 σ a0 v2 s0 = some r9) 
    {H : Heap} {locs : List Loc} {ls : Array Slot} (hs : HS g s σ sz H locs) (hl : lv_has ls 6 [(0, .ref a0), (2, .int v2)]) : W p l e (rmk 8 (cX r9) (cY r9) 148) s m args below meth c H locs 0 0 (vx_MQ below (PstX g (Sum.map id vL r9) σ sz) (XpX g (Sum.map id vL r9) σ sz) args s (cX r9) (cY r9) (Aw g)) (F0 m 24 ls [.int s0]) := by
  unfold b_X10_sizeCut_24 at h
  refine lv_istore_n (lv' := [(3, .int s0), (0, .ref a0), (2, .int v2)]) C.1 C.2.1 dX10_sizeCut_24 rfl hl (by decide) rfl (fun ls hl => ?_)
  refine lv_lconst (v := 0) C.1 C.2.1 dX10_sizeCut_25 (by decide) ?_
  refine lv_iload_n C.1 C.2.1 dX10_sizeCut_26 rfl (lv_at hl 0 rfl) ?_
  refine lv_aload_n C.1 C.2.1 dX10_sizeCut_27 rfl (lv_at hl 1 rfl) ?_
  replace h := ob h; obtain ⟨x1, ex1, h⟩ := h
  refine sx_getV C hs fo_X10_9 (gL_v ex1) dX10_sizeCut_28 ?_
  refine lv_lconst (v := 0) C.1 C.2.1 dX10_sizeCut_31 (by decide) ?_
  refine W.lcmp C.1 C.2.1 dX10_sizeCut_32 ?_
  refine lv_if_ge (tgt := 40) C.1 C.2.1 dX10_sizeCut_33 (by decide) (fun c2 => ?_) (fun c2 => ?_)
  · replace h := ip ((lg_cmp_ge _ _).mp c2) h
    refine lv_iconst (v := 0) C.1 C.2.1 dX10_sizeCut_40 (by decide) ?_
    exact t_X10_sizeCut_41 hfl C hr ht h hs (lv_sub hl [2] rfl)
  · replace h := iN (fun q => c2 ((lg_cmp_ge _ _).mpr q)) h
    refine lv_iconst (v := 1) C.1 C.2.1 dX10_sizeCut_36 (by decide) ?_
    refine lv_goto (tgt := 41) C.1 C.2.1 dX10_sizeCut_37 (by decide) ?_
    exact t_X10_sizeCut_41 hfl C hr ht h hs (lv_sub hl [2] rfl)
set_option maxHeartbeats 4000000 in
set_option maxRecDepth 100000 in
theorem t_X10_sizeCut_10 {l : Launch} {g : PP} {p : Program} {e : Env} {s : State} {m : MethodId} {args : Array Value} {below : List Frame} {meth : Method} {c : Code} (hfl : l.stackTraces = false) (C : Cx g p s m meth c cX10_sizeCut 6 "Tillhouse$Value") (hr : meth.sig.returnType = some .long) (ht : ∀ x ∈ c.exceptionTable.toList, False)   {σ : Sto} {sz : Nat} {a0 : Nat} {v2 : Int32} {r9 : Nat ⊕ Int64}
    (h : b_X10_sizeCut_10 σ a0 v2 = some r9) 
    {H : Heap} {locs : List Loc} {ls : Array Slot} (hs : HS g s σ sz H locs) (hl : lv_has ls 6 [(0, .ref a0), (2, .int v2)]) : W p l e (rmk 8 (cX r9) (cY r9) 148) s m args below meth c H locs 0 0 (vx_MQ below (PstX g (Sum.map id vL r9) σ sz) (XpX g (Sum.map id vL r9) σ sz) args s (cX r9) (cY r9) (Aw g)) (F0 m 10 ls []) := by
  unfold b_X10_sizeCut_10 at h
  refine lv_aload_n C.1 C.2.1 dX10_sizeCut_10 rfl (lv_at hl 0 rfl) ?_
  replace h := ob h; obtain ⟨x1, ex1, h⟩ := h
  refine sx_getV C hs fo_X10_9 (gL_v ex1) dX10_sizeCut_11 ?_
  refine lv_lconst (v := 0) C.1 C.2.1 dX10_sizeCut_14 (by decide) ?_
  refine W.lcmp C.1 C.2.1 dX10_sizeCut_15 ?_
  refine lv_if_ne (tgt := 23) C.1 C.2.1 dX10_sizeCut_16 (by decide) (fun c2 => ?_) (fun c2 => ?_)
  · replace h := iN (fun q => c2 ((lg_cmp_eq _ _).mpr q)) h
    refine lv_iconst (v := 1) C.1 C.2.1 dX10_sizeCut_23 (by decide) ?_
    exact t_X10_sizeCut_24 hfl C hr ht h hs (lv_sub hl [0, 1] rfl)
  · replace h := ip ((lg_cmp_eq _ _).mp c2) h
    refine lv_iconst (v := 0) C.1 C.2.1 dX10_sizeCut_19 (by decide) ?_
    refine lv_goto (tgt := 24) C.1 C.2.1 dX10_sizeCut_20 (by decide) ?_
    exact t_X10_sizeCut_24 hfl C hr ht h hs (lv_sub hl [0, 1] rfl)
set_option maxHeartbeats 4000000 in
set_option maxRecDepth 100000 in
theorem t_X10_sizeCut_86 {l : Launch} {g : PP} {p : Program} {e : Env} {s : State} {m : MethodId} {args : Array Value} {below : List Frame} {meth : Method} {c : Code} (hfl : l.stackTraces = false) (C : Cx g p s m meth c cX10_sizeCut 6 "Tillhouse$Value") (hr : meth.sig.returnType = some .long) (ht : ∀ x ∈ c.exceptionTable.toList, False)   {σ : Sto} {sz : Nat} {v2 : Int32} {s0 : Int32} {s1 : Int32} {s2 : Int64} {r9 : Nat ⊕ Int64}
    (h : b_X10_sizeCut_86 σ v2 s0 s1 s2 = some r9) 
    {H : Heap} {locs : List Loc} {ls : Array Slot} (hs : HS g s σ sz H locs) (hl : lv_has ls 6 [(2, .int v2)]) : W p l e (rmk 8 (cX r9) (cY r9) 148) s m args below meth c H locs 0 0 (vx_MQ below (PstX g (Sum.map id vL r9) σ sz) (XpX g (Sum.map id vL r9) σ sz) args s (cX r9) (cY r9) (Aw g)) (F0 m 86 ls [.int s0, .int s1, .long s2]) := by
  unfold b_X10_sizeCut_86 at h
  refine lv_iload_n C.1 C.2.1 dX10_sizeCut_86 rfl (lv_at hl 0 rfl) ?_
  replace h := ob h; obtain ⟨u2, ex1, h⟩ := h
  rcases u2 with j3 | x1
  · replace h := bsl h
    cases h
    refine sx_xcallS (As := [.long s2, .int s1, .int s0, .int v2]) (rest := []) C hs (c_X6_settled hfl ex1) mo_X6_settled q716 rfl hl.1 ⟨⟨(Nat.le_of_ble_eq_true rfl), (Nat.le_of_ble_eq_true rfl)⟩, (Nat.le_of_ble_eq_true rfl), (Nat.le_of_ble_eq_true rfl)⟩ rfl (Nat.le_of_ble_eq_true rfl) dX10_sizeCut_87 (fun k9 hk9 ce q9 H locs a1 a2 a3 a4 a5 a6 => ?_) (fun vr hv => (inlr hv).elim)
    obtain rfl := Sum.inl.inj hk9
    exact sx_out C ht a1 a2 a3 a4 a5 a6 (Nat.le_of_ble_eq_true rfl) (Nat.le_of_ble_eq_true rfl)
  · replace h := bsr h
    refine sx_xcallS (As := [.long s2, .int s1, .int s0, .int v2]) (rest := []) C hs (c_X6_settled hfl ex1) mo_X6_settled q716 rfl hl.1 ⟨⟨(Nat.le_of_ble_eq_true rfl), (Nat.le_of_ble_eq_true rfl)⟩, (Nat.le_of_ble_eq_true rfl), (Nat.le_of_ble_eq_true rfl)⟩ rfl (Nat.le_of_ble_eq_true rfl) dX10_sizeCut_87 (fun k9 hk9 => (inrl hk9).elim) (fun vr hv H locs hs => ?_)
    obtain rfl := Sum.inr.inj hv
    refine W.eq (g2 := F0 m 90 ls [.long x1]) rfl ?_
    refine W.widen (k := 0) (n := 0) (Nat.le_of_ble_eq_true rfl) (Nat.le_of_ble_eq_true rfl) ?_
    cases h
    exact sx_lretX C hs hr dX10_sizeCut_90
set_option maxHeartbeats 4000000 in
set_option maxRecDepth 100000 in
theorem c_X10_sizeCut {l : Launch} (hfl : l.stackTraces = false) {g : PP} {σ : Sto} {sz : Nat} {a0 : Nat} {v1 : Int32} {v2 : Int32} {r9 : Nat ⊕ Int64} (h : f_X10_sizeCut σ a0 v1 v2 = some r9) : vx_Met l yX10_sizeCut [Cond.code yX10_sizeCut cX10_sizeCut 6 (some .long)] (rmk 8 (cX r9) (cY r9) 148) (Pre g σ sz [.ref a0, .int v1, .int v2]) (PstX g (Sum.map id vL r9) σ sz) (XpX g (Sum.map id vL r9) σ sz) (cX r9) (cY r9) (Aw g) := by
  refine vx_ofW (cc := cX10_sizeCut) (maxL := 6) (ret := (some .long)) (by decide) rfl ?_
  intro p e s m args below meth c s₁ B hml ht hv
  obtain ⟨rfl, C, hs⟩ := ctx_of B hml hv
  have C : Cx g p s m meth c cX10_sizeCut 6 "Tillhouse$Value" := C
  have hr := B.returns
  have hl := lv_entry ([.ref a0, .int v1, .int v2]) (n := 6) (Nat.le_of_ble_eq_true rfl)
  rw [lg_entry_eq]
  generalize (lg_sl ([.ref a0, .int v1, .int v2]) ++ List.replicate (6 - (lg_sl ([.ref a0, .int v1, .int v2])).length) Slot.unset).toArray = ls at hl ⊢
  have hl : lv_has ls 6 [(0, .ref a0), (1, .int v1), (2, .int v2)] := hl
  unfold f_X10_sizeCut at h
  refine lv_iload_n C.1 C.2.1 dX10_sizeCut_0 rfl (lv_at hl 1 rfl) ?_
  refine lv_if_lt (tgt := 10) C.1 C.2.1 dX10_sizeCut_1 (by decide) (fun c1 => ?_) (fun c1 => ?_)
  · replace h := ip c1 h
    exact t_X10_sizeCut_10 hfl C hr ht h hs (lv_sub hl [0, 2] rfl)
  · replace h := iN c1 h
    refine lv_iload_n C.1 C.2.1 dX10_sizeCut_4 rfl (lv_at hl 1 rfl) ?_
    refine lv_bipush (v := 18) C.1 C.2.1 dX10_sizeCut_5 (by decide) ?_
    refine lv_icmp_le (tgt := 46) C.1 C.2.1 dX10_sizeCut_7 (by decide) (fun c2 => ?_) (fun c2 => ?_)
    · replace h := ip c2 h
      refine sx_pw C hs q724 dX10_sizeCut_46 ?_
      refine lv_iload_n C.1 C.2.1 dX10_sizeCut_49 rfl (lv_at hl 1 rfl) ?_
      replace h := ob h; obtain ⟨x3, ex3, h⟩ := h
      refine sx_pwl C hs ex3 dX10_sizeCut_50 ?_
      refine lv_lstore_n (lv' := [(3, .long x3), (0, .ref a0), (1, .int v1), (2, .int v2)]) C.1 C.2.1 dX10_sizeCut_51 rfl hl (by decide) rfl (fun ls hl => ?_)
      refine lv_aload_n C.1 C.2.1 dX10_sizeCut_52 rfl (lv_at hl 1 rfl) ?_
      replace h := ob h; obtain ⟨⟨⟩, i4, h⟩ := h
      replace h := ob h; obtain ⟨x5, ex5, h⟩ := h
      refine sx_callV (As := []) (rest := []) C hs (c_X10_size ex5) mo_X10_size q479 i4 rfl rfl hl.1 ⟨⟨(Nat.le_of_ble_eq_true rfl), (Nat.le_of_ble_eq_true rfl)⟩, (Nat.le_of_ble_eq_true rfl), (Nat.le_of_ble_eq_true rfl)⟩ rfl (Nat.le_of_ble_eq_true rfl) dX10_sizeCut_53 (fun H locs hs => ?_)
      refine W.eq (g2 := F0 m 56 ls [.long x5]) rfl ?_
      refine lv_lload_n C.1 C.2.1 dX10_sizeCut_56 rfl (lv_at hl 0 rfl) ?_
      replace h := on h; obtain ⟨n6, h⟩ := h
      refine lv_lrem C.1 C.2.1 dX10_sizeCut_57 n6 ?_
      refine lv_lload_n C.1 C.2.1 dX10_sizeCut_58 rfl (lv_at hl 0 rfl) ?_
      replace h := ob h; obtain ⟨x7, ex7, h⟩ := h
      refine sx_callS (As := [.long (x5 - x5 / x3 * x3), .long x3]) (rest := []) C hs (c_X6_rest ex7) mo_X6_rest q725 rfl hl.1 ⟨⟨(Nat.le_of_ble_eq_true rfl), (Nat.le_of_ble_eq_true rfl)⟩, (Nat.le_of_ble_eq_true rfl), (Nat.le_of_ble_eq_true rfl)⟩ rfl (Nat.le_of_ble_eq_true rfl) dX10_sizeCut_59 (fun H locs hs => ?_)
      refine W.eq (g2 := F0 m 62 ls [.int x7]) rfl ?_
      refine lv_istore (lv' := [(5, .int x7), (3, .long x3), (0, .ref a0), (1, .int v1), (2, .int v2)]) C.1 C.2.1 dX10_sizeCut_62 hl (by decide) rfl (fun ls hl => ?_)
      refine lv_aload_n C.1 C.2.1 dX10_sizeCut_64 rfl (lv_at hl 2 rfl) ?_
      replace h := ob h; obtain ⟨x8, ex8, h⟩ := h
      refine sx_callV (As := []) (rest := []) C hs (c_X10_size ex8) mo_X10_size q479 i4 rfl rfl hl.1 ⟨⟨(Nat.le_of_ble_eq_true rfl), (Nat.le_of_ble_eq_true rfl)⟩, (Nat.le_of_ble_eq_true rfl), (Nat.le_of_ble_eq_true rfl)⟩ rfl (Nat.le_of_ble_eq_true rfl) dX10_sizeCut_65 (fun H locs hs => ?_)
      refine W.eq (g2 := F0 m 68 ls [.long x8]) rfl ?_
      refine lv_lload_n C.1 C.2.1 dX10_sizeCut_68 rfl (lv_at hl 1 rfl) ?_
      replace h := on h; obtain ⟨n9, h⟩ := h
      refine lv_ldiv C.1 C.2.1 dX10_sizeCut_69 n9 ?_
      refine lv_iload C.1 C.2.1 dX10_sizeCut_70 (lv_at hl 0 rfl) ?_
      refine lv_aload_n C.1 C.2.1 dX10_sizeCut_72 rfl (lv_at hl 2 rfl) ?_
      replace h := ob h; obtain ⟨x10, ex10, h⟩ := h
      refine sx_getV C hs fo_X10_9 (gL_v ex10) dX10_sizeCut_73 ?_
      refine lv_lconst (v := 0) C.1 C.2.1 dX10_sizeCut_76 (by decide) ?_
      refine W.lcmp C.1 C.2.1 dX10_sizeCut_77 ?_
      refine lv_if_ge (tgt := 85) C.1 C.2.1 dX10_sizeCut_78 (by decide) (fun c11 => ?_) (fun c11 => ?_)
      · replace h := ip ((lg_cmp_ge _ _).mp c11) h
        refine lv_iconst (v := 0) C.1 C.2.1 dX10_sizeCut_85 (by decide) ?_
        exact t_X10_sizeCut_86 hfl C hr ht h hs (lv_sub hl [4] rfl)
      · replace h := iN (fun q => c11 ((lg_cmp_ge _ _).mpr q)) h
        refine lv_iconst (v := 1) C.1 C.2.1 dX10_sizeCut_81 (by decide) ?_
        refine lv_goto (tgt := 86) C.1 C.2.1 dX10_sizeCut_82 (by decide) ?_
        exact t_X10_sizeCut_86 hfl C hr ht h hs (lv_sub hl [4] rfl)
    · replace h := iN c2 h
      exact t_X10_sizeCut_10 hfl C hr ht h hs (lv_sub hl [0, 2] rfl)
def b_X10_toScale_43 (σ : Sto) (sz : Nat) (a0 : Nat) (v1 : Int32) (v2 : Int32) (s0 : Int32) : Option ((Nat ⊕ Nat) × Sto × Nat) :=
 (gI σ a0 9 1).bind fun x1 =>
 (isO σ a0 9).bind fun _ =>
 (f_X10_sizeCut σ a0 (x1 - v1) v2).bind fun u4 =>
 bs u4 (fun j5 => some (.inl j5, σ, sz)) fun x3 =>
 b3 (f_X10_signed σ sz s0 x3 v1) fun u9 τ7 y8 =>
 bs u9 (fun j10 => some (.inl j10, τ7, y8)) fun p6 =>
 some (.inr p6, τ7, y8)
def f_X10_toScale (σ : Sto) (sz : Nat) (a0 : Nat) (v1 : Int32) (v2 : Int32) : Option ((Nat ⊕ Nat) × Sto × Nat) :=
 (gI σ a0 9 1).bind fun x1 =>
 if v1 < x1 then
 (gL σ a0 9 0).bind fun x3 =>
 if 0 ≤ x3 then
 b_X10_toScale_43 σ sz a0 v1 v2 0
 else
 b_X10_toScale_43 σ sz a0 v1 v2 1
 else
 (gL σ a0 9 0).bind fun x5 =>
 (gI σ a0 9 1).bind fun x6 =>
 (f_X6_raised x5 (v1 - x6) 999999999999999999).bind fun u8 =>
 bs u8 (fun j9 => some (.inl j9, σ, sz)) fun x7 =>
 b3 (f_X10_checked σ sz x7 v1) fun u13 τ11 y12 =>
 bs u13 (fun j14 => some (.inl j14, τ11, y12)) fun p10 =>
 some (.inr p10, τ11, y12)
set_option maxHeartbeats 4000000 in
set_option maxRecDepth 100000 in
theorem t_X10_toScale_43 {l : Launch} {g : PP} {p : Program} {e : Env} {s : State} {m : MethodId} {args : Array Value} {below : List Frame} {meth : Method} {c : Code} (hfl : l.stackTraces = false) (C : Cx g p s m meth c cX10_toScale 3 "Tillhouse$Value") (hr : meth.sig.returnType = some (.object "Tillhouse$Value")) (ht : ∀ x ∈ c.exceptionTable.toList, False)   {σ : Sto} {sz : Nat} {a0 : Nat} {v1 : Int32} {v2 : Int32} {s0 : Int32} {r9 : Nat ⊕ Nat} {σ9 : Sto} {sz9 : Nat}
    (h : b_X10_toScale_43 σ sz a0 v1 v2 s0 = some (r9, σ9, sz9)) 
    {H : Heap} {locs : List Loc} {ls : Array Slot} (hs : HS g s σ sz H locs) (hl : lv_has ls 3 [(0, .ref a0), (1, .int v1), (2, .int v2)]) : W p l e (rmk 9 1 6 173) s m args below meth c H locs 0 0 (vx_MQ below (PstX g (Sum.map id vR r9) σ9 sz9) (XpX g (Sum.map id vR r9) σ9 sz9) args s 1 6 (Aw g)) (F0 m 43 ls [.int s0]) := by
  unfold b_X10_toScale_43 at h
  refine lv_aload_n C.1 C.2.1 dX10_toScale_43 rfl (lv_at hl 0 rfl) ?_
  refine lv_aload_n C.1 C.2.1 dX10_toScale_44 rfl (lv_at hl 0 rfl) ?_
  replace h := ob h; obtain ⟨x1, ex1, h⟩ := h
  refine sx_getV C hs fo_X10_15 (gI_v ex1) dX10_toScale_45 ?_
  refine lv_iload_n C.1 C.2.1 dX10_toScale_48 rfl (lv_at hl 1 rfl) ?_
  refine lv_isub C.1 C.2.1 dX10_toScale_49 ?_
  refine lv_iload_n C.1 C.2.1 dX10_toScale_50 rfl (lv_at hl 2 rfl) ?_
  replace h := ob h; obtain ⟨⟨⟩, i2, h⟩ := h
  replace h := ob h; obtain ⟨u4, ex3, h⟩ := h
  rcases u4 with j5 | x3
  · replace h := bsl h
    cases h
    refine sx_xcallV (As := [.int (x1 - v1), .int v2]) (rest := [.int s0]) C hs (c_X10_sizeCut hfl ex3) mo_X10_sizeCut q712 i2 rfl rfl hl.1 ⟨⟨(Nat.le_of_ble_eq_true rfl), (Nat.le_of_ble_eq_true rfl)⟩, (Nat.le_of_ble_eq_true rfl), (Nat.le_of_ble_eq_true rfl)⟩ rfl (Nat.le_of_ble_eq_true rfl) dX10_toScale_51 (fun k9 hk9 ce q9 H locs a1 a2 a3 a4 a5 a6 => ?_) (fun vr hv => (inlr hv).elim)
    obtain rfl := Sum.inl.inj hk9
    exact sx_out C ht a1 a2 a3 a4 a5 a6 (Nat.le_of_ble_eq_true rfl) (Nat.le_of_ble_eq_true rfl)
  · replace h := bsr h
    refine sx_xcallV (As := [.int (x1 - v1), .int v2]) (rest := [.int s0]) C hs (c_X10_sizeCut hfl ex3) mo_X10_sizeCut q712 i2 rfl rfl hl.1 ⟨⟨(Nat.le_of_ble_eq_true rfl), (Nat.le_of_ble_eq_true rfl)⟩, (Nat.le_of_ble_eq_true rfl), (Nat.le_of_ble_eq_true rfl)⟩ rfl (Nat.le_of_ble_eq_true rfl) dX10_toScale_51 (fun k9 hk9 => (inrl hk9).elim) (fun vr hv H locs hs => ?_)
    obtain rfl := Sum.inr.inj hv
    refine W.eq (g2 := F0 m 54 ls [.long x3, .int s0]) rfl ?_
    refine W.widen (k := 0) (n := 0) (Nat.le_of_ble_eq_true rfl) (Nat.le_of_ble_eq_true rfl) ?_
    refine lv_iload_n C.1 C.2.1 dX10_toScale_54 rfl (lv_at hl 1 rfl) ?_
    replace h := ob3 h; obtain ⟨u9, τ7, y8, ep6, h⟩ := h
    rcases u9 with j10 | p6
    · replace h := bsl h
      cases h
      refine sx_xcallS (As := [.int s0, .long x3, .int v1]) (rest := []) C hs (c_X10_signed hfl ep6) mo_X10_signed q728 rfl hl.1 ⟨⟨(Nat.le_of_ble_eq_true rfl), (Nat.le_of_ble_eq_true rfl)⟩, (Nat.le_of_ble_eq_true rfl), (Nat.le_of_ble_eq_true rfl)⟩ rfl (Nat.le_of_ble_eq_true rfl) dX10_toScale_55 (fun k9 hk9 ce q9 H locs a1 a2 a3 a4 a5 a6 => ?_) (fun vr hv => (inlr hv).elim)
      obtain rfl := Sum.inl.inj hk9
      exact sx_out C ht a1 a2 a3 a4 a5 a6 (Nat.le_of_ble_eq_true rfl) (Nat.le_of_ble_eq_true rfl)
    · replace h := bsr h
      refine sx_xcallS (As := [.int s0, .long x3, .int v1]) (rest := []) C hs (c_X10_signed hfl ep6) mo_X10_signed q728 rfl hl.1 ⟨⟨(Nat.le_of_ble_eq_true rfl), (Nat.le_of_ble_eq_true rfl)⟩, (Nat.le_of_ble_eq_true rfl), (Nat.le_of_ble_eq_true rfl)⟩ rfl (Nat.le_of_ble_eq_true rfl) dX10_toScale_55 (fun k9 hk9 => (inrl hk9).elim) (fun vr hv H locs hs => ?_)
      obtain rfl := Sum.inr.inj hv
      refine W.eq (g2 := F0 m 58 ls [.ref p6]) rfl ?_
      refine W.widen (k := 1) (n := 6) (Nat.le_of_ble_eq_true rfl) (Nat.le_of_ble_eq_true rfl) ?_
      cases h
      exact sx_aretX C hs hr (by first | exact Or.inl ⟨_, rfl⟩ | exact Or.inr ⟨_, rfl⟩) dX10_toScale_58
set_option maxHeartbeats 4000000 in
set_option maxRecDepth 100000 in
theorem c_X10_toScale {l : Launch} (hfl : l.stackTraces = false) {g : PP} {σ : Sto} {sz : Nat} {a0 : Nat} {v1 : Int32} {v2 : Int32} {r9 : Nat ⊕ Nat} {σ9 : Sto} {sz9 : Nat} (h : f_X10_toScale σ sz a0 v1 v2 = some (r9, σ9, sz9)) : vx_Met l yX10_toScale [Cond.code yX10_toScale cX10_toScale 3 (some (.object "Tillhouse$Value"))] (rmk 9 1 6 173) (Pre g σ sz [.ref a0, .int v1, .int v2]) (PstX g (Sum.map id vR r9) σ9 sz9) (XpX g (Sum.map id vR r9) σ9 sz9) 1 6 (Aw g) := by
  refine vx_ofW (cc := cX10_toScale) (maxL := 3) (ret := (some (.object "Tillhouse$Value"))) (by decide) rfl ?_
  intro p e s m args below meth c s₁ B hml ht hv
  obtain ⟨rfl, C, hs⟩ := ctx_of B hml hv
  have C : Cx g p s m meth c cX10_toScale 3 "Tillhouse$Value" := C
  have hr := B.returns
  have hl := lv_entry ([.ref a0, .int v1, .int v2]) (n := 3) (Nat.le_of_ble_eq_true rfl)
  rw [lg_entry_eq]
  generalize (lg_sl ([.ref a0, .int v1, .int v2]) ++ List.replicate (3 - (lg_sl ([.ref a0, .int v1, .int v2])).length) Slot.unset).toArray = ls at hl ⊢
  have hl : lv_has ls 3 [(0, .ref a0), (1, .int v1), (2, .int v2)] := hl
  unfold f_X10_toScale at h
  refine lv_iload_n C.1 C.2.1 dX10_toScale_0 rfl (lv_at hl 1 rfl) ?_
  refine lv_aload_n C.1 C.2.1 dX10_toScale_1 rfl (lv_at hl 0 rfl) ?_
  replace h := ob h; obtain ⟨x1, ex1, h⟩ := h
  refine sx_getV C hs fo_X10_15 (gI_v ex1) dX10_toScale_2 ?_
  refine lv_icmp_lt (tgt := 29) C.1 C.2.1 dX10_toScale_5 (by decide) (fun c2 => ?_) (fun c2 => ?_)
  · replace h := ip c2 h
    refine lv_aload_n C.1 C.2.1 dX10_toScale_29 rfl (lv_at hl 0 rfl) ?_
    replace h := ob h; obtain ⟨x3, ex3, h⟩ := h
    refine sx_getV C hs fo_X10_9 (gL_v ex3) dX10_toScale_30 ?_
    refine lv_lconst (v := 0) C.1 C.2.1 dX10_toScale_33 (by decide) ?_
    refine W.lcmp C.1 C.2.1 dX10_toScale_34 ?_
    refine lv_if_ge (tgt := 42) C.1 C.2.1 dX10_toScale_35 (by decide) (fun c4 => ?_) (fun c4 => ?_)
    · replace h := ip ((lg_cmp_ge _ _).mp c4) h
      refine lv_iconst (v := 0) C.1 C.2.1 dX10_toScale_42 (by decide) ?_
      exact t_X10_toScale_43 hfl C hr ht h hs (lv_sub hl [0, 1, 2] rfl)
    · replace h := iN (fun q => c4 ((lg_cmp_ge _ _).mpr q)) h
      refine lv_iconst (v := 1) C.1 C.2.1 dX10_toScale_38 (by decide) ?_
      refine lv_goto (tgt := 43) C.1 C.2.1 dX10_toScale_39 (by decide) ?_
      exact t_X10_toScale_43 hfl C hr ht h hs (lv_sub hl [0, 1, 2] rfl)
  · replace h := iN c2 h
    refine lv_aload_n C.1 C.2.1 dX10_toScale_8 rfl (lv_at hl 0 rfl) ?_
    replace h := ob h; obtain ⟨x5, ex5, h⟩ := h
    refine sx_getV C hs fo_X10_9 (gL_v ex5) dX10_toScale_9 ?_
    refine lv_iload_n C.1 C.2.1 dX10_toScale_12 rfl (lv_at hl 1 rfl) ?_
    refine lv_aload_n C.1 C.2.1 dX10_toScale_13 rfl (lv_at hl 0 rfl) ?_
    replace h := ob h; obtain ⟨x6, ex6, h⟩ := h
    refine sx_getV C hs fo_X10_15 (gI_v ex6) dX10_toScale_14 ?_
    refine lv_isub C.1 C.2.1 dX10_toScale_17 ?_
    refine lv_ldc2 (v := 999999999999999999) C.1 C.2.1 C.2.2.2.1 (C.2.2.2.2.1.1 _ q444 _) dX10_toScale_18 ?_
    replace h := ob h; obtain ⟨u8, ex7, h⟩ := h
    rcases u8 with j9 | x7
    · replace h := bsl h
      cases h
      refine sx_xcallS (As := [.long x5, .int (v1 - x6), .long 999999999999999999]) (rest := []) C hs (c_X6_raised hfl ex7) mo_X6_raised q635 rfl hl.1 ⟨⟨(Nat.le_of_ble_eq_true rfl), (Nat.le_of_ble_eq_true rfl)⟩, (Nat.le_of_ble_eq_true rfl), (Nat.le_of_ble_eq_true rfl)⟩ rfl (Nat.le_of_ble_eq_true rfl) dX10_toScale_21 (fun k9 hk9 ce q9 H locs a1 a2 a3 a4 a5 a6 => ?_) (fun vr hv => (inlr hv).elim)
      obtain rfl := Sum.inl.inj hk9
      exact sx_out C ht a1 a2 a3 a4 a5 a6 (Nat.le_of_ble_eq_true rfl) (Nat.le_of_ble_eq_true rfl)
    · replace h := bsr h
      refine sx_xcallS (As := [.long x5, .int (v1 - x6), .long 999999999999999999]) (rest := []) C hs (c_X6_raised hfl ex7) mo_X6_raised q635 rfl hl.1 ⟨⟨(Nat.le_of_ble_eq_true rfl), (Nat.le_of_ble_eq_true rfl)⟩, (Nat.le_of_ble_eq_true rfl), (Nat.le_of_ble_eq_true rfl)⟩ rfl (Nat.le_of_ble_eq_true rfl) dX10_toScale_21 (fun k9 hk9 => (inrl hk9).elim) (fun vr hv H locs hs => ?_)
      obtain rfl := Sum.inr.inj hv
      refine W.eq (g2 := F0 m 24 ls [.long x7]) rfl ?_
      refine W.widen (k := 0) (n := 0) (Nat.le_of_ble_eq_true rfl) (Nat.le_of_ble_eq_true rfl) ?_
      refine lv_iload_n C.1 C.2.1 dX10_toScale_24 rfl (lv_at hl 1 rfl) ?_
      replace h := ob3 h; obtain ⟨u13, τ11, y12, ep10, h⟩ := h
      rcases u13 with j14 | p10
      · replace h := bsl h
        cases h
        refine sx_xcallS (As := [.long x7, .int v1]) (rest := []) C hs (c_X10_checked hfl ep10) mo_X10_checked q642 rfl hl.1 ⟨⟨(Nat.le_of_ble_eq_true rfl), (Nat.le_of_ble_eq_true rfl)⟩, (Nat.le_of_ble_eq_true rfl), (Nat.le_of_ble_eq_true rfl)⟩ rfl (Nat.le_of_ble_eq_true rfl) dX10_toScale_25 (fun k9 hk9 ce q9 H locs a1 a2 a3 a4 a5 a6 => ?_) (fun vr hv => (inlr hv).elim)
        obtain rfl := Sum.inl.inj hk9
        exact sx_out C ht a1 a2 a3 a4 a5 a6 (Nat.le_of_ble_eq_true rfl) (Nat.le_of_ble_eq_true rfl)
      · replace h := bsr h
        refine sx_xcallS (As := [.long x7, .int v1]) (rest := []) C hs (c_X10_checked hfl ep10) mo_X10_checked q642 rfl hl.1 ⟨⟨(Nat.le_of_ble_eq_true rfl), (Nat.le_of_ble_eq_true rfl)⟩, (Nat.le_of_ble_eq_true rfl), (Nat.le_of_ble_eq_true rfl)⟩ rfl (Nat.le_of_ble_eq_true rfl) dX10_toScale_25 (fun k9 hk9 => (inrl hk9).elim) (fun vr hv H locs hs => ?_)
        obtain rfl := Sum.inr.inj hv
        refine W.eq (g2 := F0 m 28 ls [.ref p10]) rfl ?_
        refine W.widen (k := 1) (n := 6) (Nat.le_of_ble_eq_true rfl) (Nat.le_of_ble_eq_true rfl) ?_
        cases h
        exact sx_aretX C hs hr (by first | exact Or.inl ⟨_, rfl⟩ | exact Or.inr ⟨_, rfl⟩) dX10_toScale_28
def b_X10_toDigits_55 (N : Nat) (σ : Sto) (sz : Nat) (a0 : Nat) (v3 : Int32) (v4 : Int64) (s0 : Int32) : Option ((Nat ⊕ Nat) × Sto × Nat) :=
 (gI σ a0 9 1).bind fun x1 =>
 b3 (f_X10_signed σ sz s0 v4 (x1 - v3)) fun u5 τ3 y4 =>
 bs u5 (fun j6 => some (.inl j6, τ3, y4)) fun p2 =>
 some (.inr p2, τ3, y4)
def b_X10_toDigits_41 (N : Nat) (σ : Sto) (sz : Nat) (a0 : Nat) (v3 : Int32) (v4 : Int64) : Option ((Nat ⊕ Nat) × Sto × Nat) :=
 (gL σ a0 9 0).bind fun x1 =>
 if 0 ≤ x1 then
 b_X10_toDigits_55 N σ sz a0 v3 v4 0
 else
 b_X10_toDigits_55 N σ sz a0 v3 v4 1
def f_X10_toDigits (N : Nat) (σ : Sto) (sz : Nat) (a0 : Nat) (v1 : Int32) (v2 : Int32) : Option ((Nat ⊕ Nat) × Sto × Nat) :=
 (isO σ a0 9).bind fun _ =>
 (f_X10_digits N σ a0).bind fun x2 =>
 lt_ (x2 - v1) fun x3 =>
 if 0 < x3 then
 (f_X10_sizeCut σ a0 x3 v2).bind fun u6 =>
 bs u6 (fun j7 => some (.inl j7, σ, sz)) fun x5 =>
 (f_X6_digitsOf N x5).bind fun x8 =>
 if x8 ≤ v1 then
 b_X10_toDigits_41 N σ sz a0 x3 x5
 else
 lt_ (x5 / 10) fun x10 =>
 lt_ (x3 + 1) fun x11 =>
 b_X10_toDigits_41 N σ sz a0 x11 x10
 else
 some (.inr a0, σ, sz)
set_option maxHeartbeats 4000000 in
set_option maxRecDepth 100000 in
theorem t_X10_toDigits_55 {l : Launch} {g : PP} {p : Program} {e : Env} {s : State} {m : MethodId} {args : Array Value} {below : List Frame} {meth : Method} {c : Code} (hfl : l.stackTraces = false) (C : Cx g p s m meth c cX10_toDigits 6 "Tillhouse$Value") (hr : meth.sig.returnType = some (.object "Tillhouse$Value")) (ht : ∀ x ∈ c.exceptionTable.toList, False) {N : Nat}  {σ : Sto} {sz : Nat} {a0 : Nat} {v3 : Int32} {v4 : Int64} {s0 : Int32} {r9 : Nat ⊕ Nat} {σ9 : Sto} {sz9 : Nat}
    (h : b_X10_toDigits_55 N σ sz a0 v3 v4 s0 = some (r9, σ9, sz9)) 
    {H : Heap} {locs : List Loc} {ls : Array Slot} (hs : HS g s σ sz H locs) (hl : lv_has ls 6 [(0, .ref a0), (3, .int v3), (4, .long v4)]) : W p l e (rmk 9 1 6 173) s m args below meth c H locs 0 0 (vx_MQ below (PstX g (Sum.map id vR r9) σ9 sz9) (XpX g (Sum.map id vR r9) σ9 sz9) args s 1 6 (Aw g)) (F0 m 55 ls [.int s0]) := by
  unfold b_X10_toDigits_55 at h
  refine lv_lload C.1 C.2.1 dX10_toDigits_55 (lv_at hl 2 rfl) ?_
  refine lv_aload_n C.1 C.2.1 dX10_toDigits_57 rfl (lv_at hl 0 rfl) ?_
  replace h := ob h; obtain ⟨x1, ex1, h⟩ := h
  refine sx_getV C hs fo_X10_15 (gI_v ex1) dX10_toDigits_58 ?_
  refine lv_iload_n C.1 C.2.1 dX10_toDigits_61 rfl (lv_at hl 1 rfl) ?_
  refine lv_isub C.1 C.2.1 dX10_toDigits_62 ?_
  replace h := ob3 h; obtain ⟨u5, τ3, y4, ep2, h⟩ := h
  rcases u5 with j6 | p2
  · replace h := bsl h
    cases h
    refine sx_xcallS (As := [.int s0, .long v4, .int (x1 - v3)]) (rest := []) C hs (c_X10_signed hfl ep2) mo_X10_signed q728 rfl hl.1 ⟨⟨(Nat.le_of_ble_eq_true rfl), (Nat.le_of_ble_eq_true rfl)⟩, (Nat.le_of_ble_eq_true rfl), (Nat.le_of_ble_eq_true rfl)⟩ rfl (Nat.le_of_ble_eq_true rfl) dX10_toDigits_63 (fun k9 hk9 ce q9 H locs a1 a2 a3 a4 a5 a6 => ?_) (fun vr hv => (inlr hv).elim)
    obtain rfl := Sum.inl.inj hk9
    exact sx_out C ht a1 a2 a3 a4 a5 a6 (Nat.le_of_ble_eq_true rfl) (Nat.le_of_ble_eq_true rfl)
  · replace h := bsr h
    refine sx_xcallS (As := [.int s0, .long v4, .int (x1 - v3)]) (rest := []) C hs (c_X10_signed hfl ep2) mo_X10_signed q728 rfl hl.1 ⟨⟨(Nat.le_of_ble_eq_true rfl), (Nat.le_of_ble_eq_true rfl)⟩, (Nat.le_of_ble_eq_true rfl), (Nat.le_of_ble_eq_true rfl)⟩ rfl (Nat.le_of_ble_eq_true rfl) dX10_toDigits_63 (fun k9 hk9 => (inrl hk9).elim) (fun vr hv H locs hs => ?_)
    obtain rfl := Sum.inr.inj hv
    refine W.eq (g2 := F0 m 66 ls [.ref p2]) rfl ?_
    refine W.widen (k := 1) (n := 6) (Nat.le_of_ble_eq_true rfl) (Nat.le_of_ble_eq_true rfl) ?_
    cases h
    exact sx_aretX C hs hr (by first | exact Or.inl ⟨_, rfl⟩ | exact Or.inr ⟨_, rfl⟩) dX10_toDigits_66
set_option maxHeartbeats 4000000 in
set_option maxRecDepth 100000 in
theorem t_X10_toDigits_41 {l : Launch} {g : PP} {p : Program} {e : Env} {s : State} {m : MethodId} {args : Array Value} {below : List Frame} {meth : Method} {c : Code} (hfl : l.stackTraces = false) (C : Cx g p s m meth c cX10_toDigits 6 "Tillhouse$Value") (hr : meth.sig.returnType = some (.object "Tillhouse$Value")) (ht : ∀ x ∈ c.exceptionTable.toList, False) {N : Nat}  {σ : Sto} {sz : Nat} {a0 : Nat} {v3 : Int32} {v4 : Int64} {r9 : Nat ⊕ Nat} {σ9 : Sto} {sz9 : Nat}
    (h : b_X10_toDigits_41 N σ sz a0 v3 v4 = some (r9, σ9, sz9)) 
    {H : Heap} {locs : List Loc} {ls : Array Slot} (hs : HS g s σ sz H locs) (hl : lv_has ls 6 [(0, .ref a0), (3, .int v3), (4, .long v4)]) : W p l e (rmk 9 1 6 173) s m args below meth c H locs 0 0 (vx_MQ below (PstX g (Sum.map id vR r9) σ9 sz9) (XpX g (Sum.map id vR r9) σ9 sz9) args s 1 6 (Aw g)) (F0 m 41 ls []) := by
  unfold b_X10_toDigits_41 at h
  refine lv_aload_n C.1 C.2.1 dX10_toDigits_41 rfl (lv_at hl 0 rfl) ?_
  replace h := ob h; obtain ⟨x1, ex1, h⟩ := h
  refine sx_getV C hs fo_X10_9 (gL_v ex1) dX10_toDigits_42 ?_
  refine lv_lconst (v := 0) C.1 C.2.1 dX10_toDigits_45 (by decide) ?_
  refine W.lcmp C.1 C.2.1 dX10_toDigits_46 ?_
  refine lv_if_ge (tgt := 54) C.1 C.2.1 dX10_toDigits_47 (by decide) (fun c2 => ?_) (fun c2 => ?_)
  · replace h := ip ((lg_cmp_ge _ _).mp c2) h
    refine lv_iconst (v := 0) C.1 C.2.1 dX10_toDigits_54 (by decide) ?_
    exact t_X10_toDigits_55 hfl C hr ht h hs (lv_sub hl [0, 1, 2] rfl)
  · replace h := iN (fun q => c2 ((lg_cmp_ge _ _).mpr q)) h
    refine lv_iconst (v := 1) C.1 C.2.1 dX10_toDigits_50 (by decide) ?_
    refine lv_goto (tgt := 55) C.1 C.2.1 dX10_toDigits_51 (by decide) ?_
    exact t_X10_toDigits_55 hfl C hr ht h hs (lv_sub hl [0, 1, 2] rfl)
set_option maxHeartbeats 4000000 in
set_option maxRecDepth 100000 in
theorem c_X10_toDigits {l : Launch} (hfl : l.stackTraces = false) {g : PP} {N : Nat} {σ : Sto} {sz : Nat} {a0 : Nat} {v1 : Int32} {v2 : Int32} {r9 : Nat ⊕ Nat} {σ9 : Sto} {sz9 : Nat} (h : f_X10_toDigits N σ sz a0 v1 v2 = some (r9, σ9, sz9)) : vx_Met l yX10_toDigits [Cond.code yX10_toDigits cX10_toDigits 6 (some (.object "Tillhouse$Value"))] (rmk 9 1 6 173) (Pre g σ sz [.ref a0, .int v1, .int v2]) (PstX g (Sum.map id vR r9) σ9 sz9) (XpX g (Sum.map id vR r9) σ9 sz9) 1 6 (Aw g) := by
  refine vx_ofW (cc := cX10_toDigits) (maxL := 6) (ret := (some (.object "Tillhouse$Value"))) (by decide) rfl ?_
  intro p e s m args below meth c s₁ B hml ht hv
  obtain ⟨rfl, C, hs⟩ := ctx_of B hml hv
  have C : Cx g p s m meth c cX10_toDigits 6 "Tillhouse$Value" := C
  have hr := B.returns
  have hl := lv_entry ([.ref a0, .int v1, .int v2]) (n := 6) (Nat.le_of_ble_eq_true rfl)
  rw [lg_entry_eq]
  generalize (lg_sl ([.ref a0, .int v1, .int v2]) ++ List.replicate (6 - (lg_sl ([.ref a0, .int v1, .int v2])).length) Slot.unset).toArray = ls at hl ⊢
  have hl : lv_has ls 6 [(0, .ref a0), (1, .int v1), (2, .int v2)] := hl
  unfold f_X10_toDigits at h
  refine lv_aload_n C.1 C.2.1 dX10_toDigits_0 rfl (lv_at hl 0 rfl) ?_
  replace h := ob h; obtain ⟨⟨⟩, i1, h⟩ := h
  replace h := ob h; obtain ⟨x2, ex2, h⟩ := h
  refine sx_callV (As := []) (rest := []) C hs (c_X10_digits ex2) mo_X10_digits q661 i1 rfl rfl hl.1 ⟨⟨(Nat.le_of_ble_eq_true rfl), (Nat.le_of_ble_eq_true rfl)⟩, (Nat.le_of_ble_eq_true rfl), (Nat.le_of_ble_eq_true rfl)⟩ rfl (Nat.le_of_ble_eq_true rfl) dX10_toDigits_1 (fun H locs hs => ?_)
  refine W.eq (g2 := F0 m 4 ls [.int x2]) rfl ?_
  refine lv_iload_n C.1 C.2.1 dX10_toDigits_4 rfl (lv_at hl 1 rfl) ?_
  refine lv_isub C.1 C.2.1 dX10_toDigits_5 ?_
  replace h := ol h; obtain ⟨x3, ex3, h⟩ := h
  refine sx_nmI ex3 ?_
  refine lv_istore_n (lv' := [(3, .int x3), (0, .ref a0), (1, .int v1), (2, .int v2)]) C.1 C.2.1 dX10_toDigits_6 rfl hl (by decide) rfl (fun ls hl => ?_)
  refine lv_iload_n C.1 C.2.1 dX10_toDigits_7 rfl (lv_at hl 0 rfl) ?_
  refine lv_if_gt (tgt := 13) C.1 C.2.1 dX10_toDigits_8 (by decide) (fun c4 => ?_) (fun c4 => ?_)
  · replace h := ip c4 h
    refine lv_aload_n C.1 C.2.1 dX10_toDigits_13 rfl (lv_at hl 1 rfl) ?_
    refine lv_iload_n C.1 C.2.1 dX10_toDigits_14 rfl (lv_at hl 0 rfl) ?_
    refine lv_iload_n C.1 C.2.1 dX10_toDigits_15 rfl (lv_at hl 3 rfl) ?_
    replace h := ob h; obtain ⟨u6, ex5, h⟩ := h
    rcases u6 with j7 | x5
    · replace h := bsl h
      cases h
      refine sx_xcallV (As := [.int x3, .int v2]) (rest := []) C hs (c_X10_sizeCut hfl ex5) mo_X10_sizeCut q712 i1 rfl rfl hl.1 ⟨⟨(Nat.le_of_ble_eq_true rfl), (Nat.le_of_ble_eq_true rfl)⟩, (Nat.le_of_ble_eq_true rfl), (Nat.le_of_ble_eq_true rfl)⟩ rfl (Nat.le_of_ble_eq_true rfl) dX10_toDigits_16 (fun k9 hk9 ce q9 H locs a1 a2 a3 a4 a5 a6 => ?_) (fun vr hv => (inlr hv).elim)
      obtain rfl := Sum.inl.inj hk9
      exact sx_out C ht a1 a2 a3 a4 a5 a6 (Nat.le_of_ble_eq_true rfl) (Nat.le_of_ble_eq_true rfl)
    · replace h := bsr h
      refine sx_xcallV (As := [.int x3, .int v2]) (rest := []) C hs (c_X10_sizeCut hfl ex5) mo_X10_sizeCut q712 i1 rfl rfl hl.1 ⟨⟨(Nat.le_of_ble_eq_true rfl), (Nat.le_of_ble_eq_true rfl)⟩, (Nat.le_of_ble_eq_true rfl), (Nat.le_of_ble_eq_true rfl)⟩ rfl (Nat.le_of_ble_eq_true rfl) dX10_toDigits_16 (fun k9 hk9 => (inrl hk9).elim) (fun vr hv H locs hs => ?_)
      obtain rfl := Sum.inr.inj hv
      refine W.eq (g2 := F0 m 19 ls [.long x5]) rfl ?_
      refine W.widen (k := 0) (n := 0) (Nat.le_of_ble_eq_true rfl) (Nat.le_of_ble_eq_true rfl) ?_
      refine lv_lstore (lv' := [(4, .long x5), (3, .int x3), (0, .ref a0), (1, .int v1), (2, .int v2)]) C.1 C.2.1 dX10_toDigits_19 hl (by decide) rfl (fun ls hl => ?_)
      refine lv_lload C.1 C.2.1 dX10_toDigits_21 (lv_at hl 0 rfl) ?_
      replace h := ob h; obtain ⟨x8, ex8, h⟩ := h
      refine sx_callS (As := [.long x5]) (rest := []) C hs (c_X6_digitsOf ex8) mo_X6_digitsOf q486 rfl hl.1 ⟨⟨(Nat.le_of_ble_eq_true rfl), (Nat.le_of_ble_eq_true rfl)⟩, (Nat.le_of_ble_eq_true rfl), (Nat.le_of_ble_eq_true rfl)⟩ rfl (Nat.le_of_ble_eq_true rfl) dX10_toDigits_23 (fun H locs hs => ?_)
      refine W.eq (g2 := F0 m 26 ls [.int x8]) rfl ?_
      refine lv_iload_n C.1 C.2.1 dX10_toDigits_26 rfl (lv_at hl 3 rfl) ?_
      refine lv_icmp_le (tgt := 41) C.1 C.2.1 dX10_toDigits_27 (by decide) (fun c9 => ?_) (fun c9 => ?_)
      · replace h := ip c9 h
        exact t_X10_toDigits_41 hfl C hr ht h hs (lv_sub hl [2, 1, 0] rfl)
      · replace h := iN c9 h
        refine lv_lload C.1 C.2.1 dX10_toDigits_30 (lv_at hl 0 rfl) ?_
        refine lv_ldc2 (v := 10) C.1 C.2.1 C.2.2.2.1 (C.2.2.2.2.1.1 _ q677 _) dX10_toDigits_32 ?_
        refine lv_ldiv C.1 C.2.1 dX10_toDigits_35 (by decide) ?_
        replace h := ol h; obtain ⟨x10, ex10, h⟩ := h
        refine sx_nmL ex10 ?_
        refine lv_lstore (lv' := [(4, .long x10), (3, .int x3), (0, .ref a0), (1, .int v1), (2, .int v2)]) C.1 C.2.1 dX10_toDigits_36 hl (by decide) rfl (fun ls hl => ?_)
        replace h := ol h; obtain ⟨x11, ex11, h⟩ := h
        refine lv_iinc (v := x11) (lv' := [(3, .int x11), (4, .long x10), (0, .ref a0), (1, .int v1), (2, .int v2)]) C.1 C.2.1 dX10_toDigits_38 hl (k := 1) rfl (by rw [ex11]; rfl) (by decide) rfl (fun ls hl => ?_)
        exact t_X10_toDigits_41 hfl C hr ht h hs (lv_sub hl [2, 0, 1] rfl)
  · replace h := iN c4 h
    refine lv_aload_n C.1 C.2.1 dX10_toDigits_11 rfl (lv_at hl 1 rfl) ?_
    cases h
    refine W.widen (k := 1) (n := 6) (Nat.le_of_ble_eq_true rfl) (Nat.le_of_ble_eq_true rfl) ?_
    exact sx_aretX C hs hr (by first | exact Or.inl ⟨_, rfl⟩ | exact Or.inr ⟨_, rfl⟩) dX10_toDigits_12
def f_X10_checkDivisor (σ : Sto) (a0 : Nat) : Option ((Nat ⊕ Unit)) :=
 (gL σ a0 9 0).bind fun x1 =>
 if x1 = 0 then
 some (.inl 3)
 else
 some (.inr ())
set_option maxHeartbeats 4000000 in
set_option maxRecDepth 100000 in
theorem c_X10_checkDivisor {l : Launch} (hfl : l.stackTraces = false) {g : PP} {σ : Sto} {sz : Nat} {a0 : Nat} {r9 : Nat ⊕ Unit} (h : f_X10_checkDivisor σ a0 = some r9) : vx_Met l yX10_checkDivisor [Cond.code yX10_checkDivisor cX10_checkDivisor 1 none] (rmk 6 (cX r9) (cY r9) 100) (Pre g σ sz [.ref a0]) (PstX g (Sum.map id vV r9) σ sz) (XpX g (Sum.map id vV r9) σ sz) (cX r9) (cY r9) (Aw g) := by
  refine vx_ofW (cc := cX10_checkDivisor) (maxL := 1) (ret := none) (by decide) rfl ?_
  intro p e s m args below meth c s₁ B hml ht hv
  obtain ⟨rfl, C, hs⟩ := ctx_of B hml hv
  have C : Cx g p s m meth c cX10_checkDivisor 1 "Tillhouse$Value" := C
  have hr := B.returns
  have hl := lv_entry ([.ref a0]) (n := 1) (Nat.le_of_ble_eq_true rfl)
  rw [lg_entry_eq]
  generalize (lg_sl ([.ref a0]) ++ List.replicate (1 - (lg_sl ([.ref a0])).length) Slot.unset).toArray = ls at hl ⊢
  have hl : lv_has ls 1 [(0, .ref a0)] := hl
  unfold f_X10_checkDivisor at h
  refine lv_aload_n C.1 C.2.1 dX10_checkDivisor_0 rfl (lv_at hl 0 rfl) ?_
  replace h := ob h; obtain ⟨x1, ex1, h⟩ := h
  refine sx_getV C hs fo_X10_9 (gL_v ex1) dX10_checkDivisor_1 ?_
  refine lv_lconst (v := 0) C.1 C.2.1 dX10_checkDivisor_4 (by decide) ?_
  refine W.lcmp C.1 C.2.1 dX10_checkDivisor_5 ?_
  refine lv_if_ne (tgt := 19) C.1 C.2.1 dX10_checkDivisor_6 (by decide) (fun c2 => ?_) (fun c2 => ?_)
  · replace h := iN (fun q => c2 ((lg_cmp_eq _ _).mpr q)) h
    cases h
    exact sx_vretX C hs hr dX10_checkDivisor_19
  · replace h := ip ((lg_cmp_eq _ _).mp c2) h
    cases h
    exact sx_throw C hfl hs to_X10_27_131 ht hl.1 dX10_checkDivisor_9 dX10_checkDivisor_12 dX10_checkDivisor_13 dX10_checkDivisor_15 dX10_checkDivisor_18 ⟨by decide, (Nat.le_of_ble_eq_true rfl), (Nat.le_of_ble_eq_true rfl), (Nat.le_of_ble_eq_true rfl)⟩ ⟨(Nat.le_of_ble_eq_true rfl), (Nat.le_of_ble_eq_true rfl)⟩
def b_X10_over_78_body (N : Nat) (k78 : Sto × Nat × Int32 × Int32 × Int32 × Int32 × Nat × Int32 → Option ((Nat ⊕ Nat) × Sto × Nat)) (σ : Sto) (sz : Nat) (v2 : Int32) (v3 : Int32) (v4 : Int32) (v5 : Int32) (a6 : Nat) (v7 : Int32) : Option ((Nat ⊕ Nat) × Sto × Nat) :=
 if v5 ≤ v7 then
 (gL σ a6 1 1).bind fun x2 =>
 (isO σ a6 1).bind fun _ =>
 (f_X1_rest σ a6).bind fun x4 =>
 (f_X6_settled x2 x4 v4 v3).bind fun u6 =>
 bs u6 (fun j7 => some (.inl j7, σ, sz)) fun x5 =>
 b3 (f_X10_signed σ sz v4 x5 v2) fun u11 τ9 y10 =>
 bs u11 (fun j12 => some (.inl j12, τ9, y10)) fun p8 =>
 some (.inr p8, τ9, y10)
 else
 (isO σ a6 1).bind fun _ =>
 b2 (f_X1_bringDown σ a6) fun u16 τ15 =>
 bs u16 (fun j17 => some (.inl j17, τ15, sz)) fun x14 =>
 lt_ (v7 + 1) fun x18 =>
 k78 (τ15, sz, v2, v3, v4, v5, a6, x18)
def b_X10_over_78 (N : Nat) (σ : Sto) (sz : Nat) (v2 : Int32) (v3 : Int32) (v4 : Int32) (v5 : Int32) (a6 : Nat) (v7 : Int32) : Option ((Nat ⊕ Nat) × Sto × Nat) :=
  lp (fun k e => b_X10_over_78_body N k e.1 e.2.1 e.2.2.1 e.2.2.2.1 e.2.2.2.2.1 e.2.2.2.2.2.1 e.2.2.2.2.2.2.1 e.2.2.2.2.2.2.2) N (σ, sz, v2, v3, v4, v5, a6, v7)
def b_X10_over_73 (N : Nat) (σ : Sto) (sz : Nat) (v2 : Int32) (v3 : Int32) (v4 : Int32) (v5 : Int32) (s0 : Nat) : Option ((Nat ⊕ Nat) × Sto × Nat) :=
 b_X10_over_78 N σ sz v2 v3 v4 v5 s0 0
def b_X10_over_21 (N : Nat) (σ : Sto) (sz : Nat) (a0 : Nat) (a1 : Nat) (v2 : Int32) (v3 : Int32) (s0 : Int32) : Option ((Nat ⊕ Nat) × Sto × Nat) :=
 (gI σ a0 9 1).bind fun x1 =>
 (gI σ a1 9 1).bind fun x2 =>
 lt_ ((v2 - x1) + x2) fun x3 =>
 if 0 ≤ x3 then
 lt_ (nO σ sz 1 dvX1) fun τ5 =>
 (isO τ5 a0 9).bind fun _ =>
 (f_X10_size τ5 a0).bind fun x7 =>
 (isO τ5 a1 9).bind fun _ =>
 (f_X10_size τ5 a1).bind fun x9 =>
 b2 (f_X1_init τ5 sz x7 x9) fun x10 τ11 =>
 b_X10_over_73 N τ11 (sz + 1) v2 v3 s0 x3 sz
 else
 (isO σ a0 9).bind fun _ =>
 (f_X10_size σ a0).bind fun x13 =>
 (isO σ a1 9).bind fun _ =>
 (f_X10_size σ a1).bind fun x15 =>
 b3 (f_X1_byRaised σ sz x13 x15 (-x3)) fun p16 τ17 y18 =>
 b_X10_over_73 N τ17 y18 v2 v3 s0 x3 p16
def f_X10_over (N : Nat) (σ : Sto) (sz : Nat) (a0 : Nat) (a1 : Nat) (v2 : Int32) (v3 : Int32) : Option ((Nat ⊕ Nat) × Sto × Nat) :=
 (isO σ a1 9).bind fun _ =>
 (f_X10_checkDivisor σ a1).bind fun u3 =>
 bs u3 (fun j4 => some (.inl j4, σ, sz)) fun x2 =>
 (isO σ a0 9).bind fun _ =>
 (f_X10_sign σ a0).bind fun x6 =>
 (f_X10_sign σ a1).bind fun x7 =>
 if 0 ≤ (x6 * x7) then
 b_X10_over_21 N σ sz a0 a1 v2 v3 0
 else
 b_X10_over_21 N σ sz a0 a1 v2 v3 1
set_option maxHeartbeats 4000000 in
set_option maxRecDepth 100000 in
theorem tb_X10_over_78 {l : Launch} {g : PP} {p : Program} {e : Env} {s : State} {m : MethodId} {args : Array Value} {below : List Frame} {meth : Method} {c : Code} (hfl : l.stackTraces = false) (C : Cx g p s m meth c cX10_over 8 "Tillhouse$Value") (hr : meth.sig.returnType = some (.object "Tillhouse$Value")) (ht : ∀ x ∈ c.exceptionTable.toList, False) {N : Nat}  {k78 : Sto × Nat × Int32 × Int32 × Int32 × Int32 × Nat × Int32 → Option ((Nat ⊕ Nat) × Sto × Nat)} {σ : Sto} {sz : Nat} {v2 : Int32} {v3 : Int32} {v4 : Int32} {v5 : Int32} {a6 : Nat} {v7 : Int32} {r9 : Nat ⊕ Nat} {σ9 : Sto} {sz9 : Nat}
    (h : b_X10_over_78_body N k78 σ sz v2 v3 v4 v5 a6 v7 = some (r9, σ9, sz9))  (hk78 : ∀ (σ : Sto) (sz : Nat) (v2 : Int32) (v3 : Int32) (v4 : Int32) (v5 : Int32) (a6 : Nat) (v7 : Int32), k78 (σ, sz, v2, v3, v4, v5, a6, v7) = some (r9, σ9, sz9) → ∀ (H : Heap) (locs : List Loc) (ls : Array Slot), HS g s σ sz H locs → lv_has ls 8 [(2, .int v2), (3, .int v3), (4, .int v4), (5, .int v5), (6, .ref a6), (7, .int v7)] → W p l e (rmk 8 2 9 148) s m args below meth c H locs 1 3 (vx_MQ below (PstX g (Sum.map id vR r9) σ9 sz9) (XpX g (Sum.map id vR r9) σ9 sz9) args s 2 9 (Aw g)) (F0 m 78 ls []))
    {H : Heap} {locs : List Loc} {ls : Array Slot} (hs : HS g s σ sz H locs) (hl : lv_has ls 8 [(2, .int v2), (3, .int v3), (4, .int v4), (5, .int v5), (6, .ref a6), (7, .int v7)]) : W p l e (rmk 8 2 9 148) s m args below meth c H locs 1 3 (vx_MQ below (PstX g (Sum.map id vR r9) σ9 sz9) (XpX g (Sum.map id vR r9) σ9 sz9) args s 2 9 (Aw g)) (F0 m 78 ls []) := by
  unfold b_X10_over_78_body at h
  refine lv_iload C.1 C.2.1 dX10_over_78 (lv_at hl 5 rfl) ?_
  refine lv_iload C.1 C.2.1 dX10_over_80 (lv_at hl 3 rfl) ?_
  refine lv_icmp_ge (tgt := 96) C.1 C.2.1 dX10_over_82 (by decide) (fun c1 => ?_) (fun c1 => ?_)
  · replace h := ip c1 h
    refine lv_iload C.1 C.2.1 dX10_over_96 (lv_at hl 2 rfl) ?_
    refine lv_aload C.1 C.2.1 dX10_over_98 (lv_at hl 4 rfl) ?_
    replace h := ob h; obtain ⟨x2, ex2, h⟩ := h
    refine sx_getV C hs fo_X10_121 (gL_v ex2) dX10_over_100 ?_
    refine lv_aload C.1 C.2.1 dX10_over_103 (lv_at hl 4 rfl) ?_
    replace h := ob h; obtain ⟨⟨⟩, i3, h⟩ := h
    replace h := ob h; obtain ⟨x4, ex4, h⟩ := h
    refine sx_callV (As := []) (rest := [.long x2, .int v4]) C hs (c_X1_rest ex4) mo_X1_rest q799 i3 rfl rfl hl.1 ⟨⟨(Nat.le_of_ble_eq_true rfl), (Nat.le_of_ble_eq_true rfl)⟩, (Nat.le_of_ble_eq_true rfl), (Nat.le_of_ble_eq_true rfl)⟩ rfl (Nat.le_of_ble_eq_true rfl) dX10_over_105 (fun H locs hs => ?_)
    refine W.eq (g2 := F0 m 108 ls [.int x4, .long x2, .int v4]) rfl ?_
    refine lv_iload C.1 C.2.1 dX10_over_108 (lv_at hl 2 rfl) ?_
    refine lv_iload_n C.1 C.2.1 dX10_over_110 rfl (lv_at hl 1 rfl) ?_
    replace h := ob h; obtain ⟨u6, ex5, h⟩ := h
    rcases u6 with j7 | x5
    · replace h := bsl h
      cases h
      refine sx_xcallS (As := [.long x2, .int x4, .int v4, .int v3]) (rest := [.int v4]) C hs (c_X6_settled hfl ex5) mo_X6_settled q716 rfl hl.1 ⟨⟨(Nat.le_of_ble_eq_true rfl), (Nat.le_of_ble_eq_true rfl)⟩, (Nat.le_of_ble_eq_true rfl), (Nat.le_of_ble_eq_true rfl)⟩ rfl (Nat.le_of_ble_eq_true rfl) dX10_over_111 (fun k9 hk9 ce q9 H locs a1 a2 a3 a4 a5 a6 => ?_) (fun vr hv => (inlr hv).elim)
      obtain rfl := Sum.inl.inj hk9
      exact sx_out C ht a1 a2 a3 a4 a5 a6 (Nat.le_of_ble_eq_true rfl) (Nat.le_of_ble_eq_true rfl)
    · replace h := bsr h
      refine sx_xcallS (As := [.long x2, .int x4, .int v4, .int v3]) (rest := [.int v4]) C hs (c_X6_settled hfl ex5) mo_X6_settled q716 rfl hl.1 ⟨⟨(Nat.le_of_ble_eq_true rfl), (Nat.le_of_ble_eq_true rfl)⟩, (Nat.le_of_ble_eq_true rfl), (Nat.le_of_ble_eq_true rfl)⟩ rfl (Nat.le_of_ble_eq_true rfl) dX10_over_111 (fun k9 hk9 => (inrl hk9).elim) (fun vr hv H locs hs => ?_)
      obtain rfl := Sum.inr.inj hv
      refine W.eq (g2 := F0 m 114 ls [.long x5, .int v4]) rfl ?_
      refine W.widen (k := 1) (n := 3) (Nat.le_of_ble_eq_true rfl) (Nat.le_of_ble_eq_true rfl) ?_
      refine lv_iload_n C.1 C.2.1 dX10_over_114 rfl (lv_at hl 0 rfl) ?_
      replace h := ob3 h; obtain ⟨u11, τ9, y10, ep8, h⟩ := h
      rcases u11 with j12 | p8
      · replace h := bsl h
        cases h
        refine sx_xcallS (As := [.int v4, .long x5, .int v2]) (rest := []) C hs (c_X10_signed hfl ep8) mo_X10_signed q728 rfl hl.1 ⟨⟨(Nat.le_of_ble_eq_true rfl), (Nat.le_of_ble_eq_true rfl)⟩, (Nat.le_of_ble_eq_true rfl), (Nat.le_of_ble_eq_true rfl)⟩ rfl (Nat.le_of_ble_eq_true rfl) dX10_over_115 (fun k9 hk9 ce q9 H locs a1 a2 a3 a4 a5 a6 => ?_) (fun vr hv => (inlr hv).elim)
        obtain rfl := Sum.inl.inj hk9
        exact sx_out C ht a1 a2 a3 a4 a5 a6 (Nat.le_of_ble_eq_true rfl) (Nat.le_of_ble_eq_true rfl)
      · replace h := bsr h
        refine sx_xcallS (As := [.int v4, .long x5, .int v2]) (rest := []) C hs (c_X10_signed hfl ep8) mo_X10_signed q728 rfl hl.1 ⟨⟨(Nat.le_of_ble_eq_true rfl), (Nat.le_of_ble_eq_true rfl)⟩, (Nat.le_of_ble_eq_true rfl), (Nat.le_of_ble_eq_true rfl)⟩ rfl (Nat.le_of_ble_eq_true rfl) dX10_over_115 (fun k9 hk9 => (inrl hk9).elim) (fun vr hv H locs hs => ?_)
        obtain rfl := Sum.inr.inj hv
        refine W.eq (g2 := F0 m 118 ls [.ref p8]) rfl ?_
        refine W.widen (k := 2) (n := 9) (Nat.le_of_ble_eq_true rfl) (Nat.le_of_ble_eq_true rfl) ?_
        cases h
        exact sx_aretX C hs hr (by first | exact Or.inl ⟨_, rfl⟩ | exact Or.inr ⟨_, rfl⟩) dX10_over_118
  · replace h := iN c1 h
    refine lv_aload C.1 C.2.1 dX10_over_85 (lv_at hl 4 rfl) ?_
    replace h := ob h; obtain ⟨⟨⟩, i13, h⟩ := h
    replace h := ob2 h; obtain ⟨u16, τ15, ex14, h⟩ := h
    rcases u16 with j17 | x14
    · replace h := bsl h
      cases h
      refine sx_xcallV (As := []) (rest := []) C hs (c_X1_bringDown hfl ex14) mo_X1_bringDown q788 i13 rfl rfl hl.1 ⟨⟨(Nat.le_of_ble_eq_true rfl), (Nat.le_of_ble_eq_true rfl)⟩, (Nat.le_of_ble_eq_true rfl), (Nat.le_of_ble_eq_true rfl)⟩ rfl (Nat.le_of_ble_eq_true rfl) dX10_over_87 (fun k9 hk9 ce q9 H locs a1 a2 a3 a4 a5 a6 => ?_) (fun vr hv => (inlr hv).elim)
      obtain rfl := Sum.inl.inj hk9
      exact sx_out C ht a1 a2 a3 a4 a5 a6 (Nat.le_of_ble_eq_true rfl) (Nat.le_of_ble_eq_true rfl)
    · replace h := bsr h
      refine sx_xcallV (As := []) (rest := []) C hs (c_X1_bringDown hfl ex14) mo_X1_bringDown q788 i13 rfl rfl hl.1 ⟨⟨(Nat.le_of_ble_eq_true rfl), (Nat.le_of_ble_eq_true rfl)⟩, (Nat.le_of_ble_eq_true rfl), (Nat.le_of_ble_eq_true rfl)⟩ rfl (Nat.le_of_ble_eq_true rfl) dX10_over_87 (fun k9 hk9 => (inrl hk9).elim) (fun vr hv H locs hs => ?_)
      obtain rfl := Sum.inr.inj hv
      refine W.eq (g2 := F0 m 90 ls []) rfl ?_
      refine W.widen (k := 1) (n := 3) (Nat.le_of_ble_eq_true rfl) (Nat.le_of_ble_eq_true rfl) ?_
      replace h := ol h; obtain ⟨x18, ex18, h⟩ := h
      refine lv_iinc (v := x18) (lv' := [(7, .int x18), (2, .int v2), (3, .int v3), (4, .int v4), (5, .int v5), (6, .ref a6)]) C.1 C.2.1 dX10_over_90 hl (k := 5) rfl (by rw [ex18]; rfl) (by decide) rfl (fun ls hl => ?_)
      refine lv_goto (tgt := 78) C.1 C.2.1 dX10_over_93 (by decide) ?_
      exact hk78 τ15 sz v2 v3 v4 v5 a6 x18 h _ _ _ hs (lv_sub hl [1, 2, 3, 4, 5, 0] rfl)
set_option maxHeartbeats 4000000 in
set_option maxRecDepth 100000 in
theorem tl_X10_over_78 {l : Launch} {g : PP} {p : Program} {e : Env} {s : State} {m : MethodId} {args : Array Value} {below : List Frame} {meth : Method} {c : Code} (hfl : l.stackTraces = false) (C : Cx g p s m meth c cX10_over 8 "Tillhouse$Value") (hr : meth.sig.returnType = some (.object "Tillhouse$Value")) (ht : ∀ x ∈ c.exceptionTable.toList, False) {N : Nat}    {r9 : Nat ⊕ Nat} {σ9 : Sto} {sz9 : Nat}  : ∀ (n : Nat) (σ : Sto) (sz : Nat) (v2 : Int32) (v3 : Int32) (v4 : Int32) (v5 : Int32) (a6 : Nat) (v7 : Int32), lp (fun k e => b_X10_over_78_body N k e.1 e.2.1 e.2.2.1 e.2.2.2.1 e.2.2.2.2.1 e.2.2.2.2.2.1 e.2.2.2.2.2.2.1 e.2.2.2.2.2.2.2) n (σ, sz, v2, v3, v4, v5, a6, v7) = some (r9, σ9, sz9) → ∀ (H : Heap) (locs : List Loc) (ls : Array Slot), HS g s σ sz H locs → lv_has ls 8 [(2, .int v2), (3, .int v3), (4, .int v4), (5, .int v5), (6, .ref a6), (7, .int v7)] → W p l e (rmk 8 2 9 148) s m args below meth c H locs 1 3 (vx_MQ below (PstX g (Sum.map id vR r9) σ9 sz9) (XpX g (Sum.map id vR r9) σ9 sz9) args s 2 9 (Aw g)) (F0 m 78 ls []) := by
  intro n
  induction n with
  | zero => intro σ sz v2 v3 v4 v5 a6 v7 h; exact absurd h (fun q => nomatch q)
  | succ n ih =>
    intro σ sz v2 v3 v4 v5 a6 v7 h H locs ls hs hl
    exact tb_X10_over_78 (N := N) hfl C hr ht h (fun σ sz v2 v3 v4 v5 a6 v7 h H locs ls hs hl => ih σ sz v2 v3 v4 v5 a6 v7 h H locs ls hs hl) hs hl
set_option maxHeartbeats 4000000 in
set_option maxRecDepth 100000 in
theorem t_X10_over_78 {l : Launch} {g : PP} {p : Program} {e : Env} {s : State} {m : MethodId} {args : Array Value} {below : List Frame} {meth : Method} {c : Code} (hfl : l.stackTraces = false) (C : Cx g p s m meth c cX10_over 8 "Tillhouse$Value") (hr : meth.sig.returnType = some (.object "Tillhouse$Value")) (ht : ∀ x ∈ c.exceptionTable.toList, False) {N : Nat}  {σ : Sto} {sz : Nat} {v2 : Int32} {v3 : Int32} {v4 : Int32} {v5 : Int32} {a6 : Nat} {v7 : Int32} {r9 : Nat ⊕ Nat} {σ9 : Sto} {sz9 : Nat}
    (h : b_X10_over_78 N σ sz v2 v3 v4 v5 a6 v7 = some (r9, σ9, sz9)) 
    {H : Heap} {locs : List Loc} {ls : Array Slot} (hs : HS g s σ sz H locs) (hl : lv_has ls 8 [(2, .int v2), (3, .int v3), (4, .int v4), (5, .int v5), (6, .ref a6), (7, .int v7)]) : W p l e (rmk 8 2 9 148) s m args below meth c H locs 1 3 (vx_MQ below (PstX g (Sum.map id vR r9) σ9 sz9) (XpX g (Sum.map id vR r9) σ9 sz9) args s 2 9 (Aw g)) (F0 m 78 ls []) := tl_X10_over_78 hfl C hr ht N σ sz v2 v3 v4 v5 a6 v7 h H locs ls hs hl
set_option maxHeartbeats 4000000 in
set_option maxRecDepth 100000 in
theorem t_X10_over_73 {l : Launch} {g : PP} {p : Program} {e : Env} {s : State} {m : MethodId} {args : Array Value} {below : List Frame} {meth : Method} {c : Code} (hfl : l.stackTraces = false) (C : Cx g p s m meth c cX10_over 8 "Tillhouse$Value") (hr : meth.sig.returnType = some (.object "Tillhouse$Value")) (ht : ∀ x ∈ c.exceptionTable.toList, False) {N : Nat}  {σ : Sto} {sz : Nat} {v2 : Int32} {v3 : Int32} {v4 : Int32} {v5 : Int32} {s0 : Nat} {r9 : Nat ⊕ Nat} {σ9 : Sto} {sz9 : Nat}
    (h : b_X10_over_73 N σ sz v2 v3 v4 v5 s0 = some (r9, σ9, sz9)) 
    {H : Heap} {locs : List Loc} {ls : Array Slot} (hs : HS g s σ sz H locs) (hl : lv_has ls 8 [(2, .int v2), (3, .int v3), (4, .int v4), (5, .int v5)]) : W p l e (rmk 8 2 9 148) s m args below meth c H locs 1 3 (vx_MQ below (PstX g (Sum.map id vR r9) σ9 sz9) (XpX g (Sum.map id vR r9) σ9 sz9) args s 2 9 (Aw g)) (F0 m 73 ls [.ref s0]) := by
  unfold b_X10_over_73 at h
  refine lv_astore (lv' := [(6, .ref s0), (2, .int v2), (3, .int v3), (4, .int v4), (5, .int v5)]) C.1 C.2.1 dX10_over_73 hl (by decide) rfl (fun ls hl => ?_)
  refine lv_iconst (v := 0) C.1 C.2.1 dX10_over_75 (by decide) ?_
  refine lv_istore (lv' := [(7, .int 0), (6, .ref s0), (2, .int v2), (3, .int v3), (4, .int v4), (5, .int v5)]) C.1 C.2.1 dX10_over_76 hl (by decide) rfl (fun ls hl => ?_)
  exact t_X10_over_78 hfl C hr ht h hs (lv_sub hl [2, 3, 4, 5, 1, 0] rfl)
set_option maxHeartbeats 4000000 in
set_option maxRecDepth 100000 in
theorem t_X10_over_21 {l : Launch} {g : PP} {p : Program} {e : Env} {s : State} {m : MethodId} {args : Array Value} {below : List Frame} {meth : Method} {c : Code} (hfl : l.stackTraces = false) (C : Cx g p s m meth c cX10_over 8 "Tillhouse$Value") (hr : meth.sig.returnType = some (.object "Tillhouse$Value")) (ht : ∀ x ∈ c.exceptionTable.toList, False) {N : Nat}  {σ : Sto} {sz : Nat} {a0 : Nat} {a1 : Nat} {v2 : Int32} {v3 : Int32} {s0 : Int32} {r9 : Nat ⊕ Nat} {σ9 : Sto} {sz9 : Nat}
    (h : b_X10_over_21 N σ sz a0 a1 v2 v3 s0 = some (r9, σ9, sz9)) 
    {H : Heap} {locs : List Loc} {ls : Array Slot} (hs : HS g s σ sz H locs) (hl : lv_has ls 8 [(0, .ref a0), (1, .ref a1), (2, .int v2), (3, .int v3)]) : W p l e (rmk 8 2 9 148) s m args below meth c H locs 0 0 (vx_MQ below (PstX g (Sum.map id vR r9) σ9 sz9) (XpX g (Sum.map id vR r9) σ9 sz9) args s 2 9 (Aw g)) (F0 m 21 ls [.int s0]) := by
  unfold b_X10_over_21 at h
  refine lv_istore (lv' := [(4, .int s0), (0, .ref a0), (1, .ref a1), (2, .int v2), (3, .int v3)]) C.1 C.2.1 dX10_over_21 hl (by decide) rfl (fun ls hl => ?_)
  refine lv_iload_n C.1 C.2.1 dX10_over_23 rfl (lv_at hl 3 rfl) ?_
  refine lv_aload_n C.1 C.2.1 dX10_over_24 rfl (lv_at hl 1 rfl) ?_
  replace h := ob h; obtain ⟨x1, ex1, h⟩ := h
  refine sx_getV C hs fo_X10_15 (gI_v ex1) dX10_over_25 ?_
  refine lv_isub C.1 C.2.1 dX10_over_28 ?_
  refine lv_aload_n C.1 C.2.1 dX10_over_29 rfl (lv_at hl 2 rfl) ?_
  replace h := ob h; obtain ⟨x2, ex2, h⟩ := h
  refine sx_getV C hs fo_X10_15 (gI_v ex2) dX10_over_30 ?_
  refine lv_iadd C.1 C.2.1 dX10_over_33 ?_
  replace h := ol h; obtain ⟨x3, ex3, h⟩ := h
  refine sx_nmI ex3 ?_
  refine lv_istore (lv' := [(5, .int x3), (4, .int s0), (0, .ref a0), (1, .ref a1), (2, .int v2), (3, .int v3)]) C.1 C.2.1 dX10_over_34 hl (by decide) rfl (fun ls hl => ?_)
  refine lv_iload C.1 C.2.1 dX10_over_36 (lv_at hl 0 rfl) ?_
  refine lv_if_ge (tgt := 58) C.1 C.2.1 dX10_over_38 (by decide) (fun c4 => ?_) (fun c4 => ?_)
  · replace h := ip c4 h
    replace h := ol h; obtain ⟨τ5, eτ5, h⟩ := h
    refine sx_new C hs no_X10_110 (Nat.le_of_ble_eq_true rfl) (Nat.le_of_ble_eq_true rfl) dX10_over_58 (fun H hs => ?_)
    replace hs := HS.nm eτ5 hs
    refine lv_dup C.1 C.2.1 dX10_over_61 rfl ?_
    refine lv_aload_n C.1 C.2.1 dX10_over_62 rfl (lv_at hl 2 rfl) ?_
    replace h := ob h; obtain ⟨⟨⟩, i6, h⟩ := h
    replace h := ob h; obtain ⟨x7, ex7, h⟩ := h
    refine sx_callV (As := []) (rest := [.ref sz, .ref sz]) C hs (c_X10_size ex7) mo_X10_size q479 i6 rfl rfl hl.1 ⟨⟨(Nat.le_of_ble_eq_true rfl), (Nat.le_of_ble_eq_true rfl)⟩, (Nat.le_of_ble_eq_true rfl), (Nat.le_of_ble_eq_true rfl)⟩ rfl (Nat.le_of_ble_eq_true rfl) dX10_over_63 (fun H locs hs => ?_)
    refine W.eq (g2 := F0 m 66 ls [.long x7, .ref sz, .ref sz]) rfl ?_
    refine lv_aload_n C.1 C.2.1 dX10_over_66 rfl (lv_at hl 3 rfl) ?_
    replace h := ob h; obtain ⟨⟨⟩, i8, h⟩ := h
    replace h := ob h; obtain ⟨x9, ex9, h⟩ := h
    refine sx_callV (As := []) (rest := [.long x7, .ref sz, .ref sz]) C hs (c_X10_size ex9) mo_X10_size q479 i8 rfl rfl hl.1 ⟨⟨(Nat.le_of_ble_eq_true rfl), (Nat.le_of_ble_eq_true rfl)⟩, (Nat.le_of_ble_eq_true rfl), (Nat.le_of_ble_eq_true rfl)⟩ rfl (Nat.le_of_ble_eq_true rfl) dX10_over_67 (fun H locs hs => ?_)
    refine W.eq (g2 := F0 m 70 ls [.long x9, .long x7, .ref sz, .ref sz]) rfl ?_
    replace h := ob2 h; obtain ⟨x10, τ11, ex10, h⟩ := h
    refine sx_callI (As := [.long x7, .long x9]) (rest := [.ref sz]) C hs (c_X1_init ex10) mo_X1_init q787 rfl hl.1 ⟨⟨(Nat.le_of_ble_eq_true rfl), (Nat.le_of_ble_eq_true rfl)⟩, (Nat.le_of_ble_eq_true rfl), (Nat.le_of_ble_eq_true rfl)⟩ rfl (Nat.le_of_ble_eq_true rfl) dX10_over_70 (fun H locs hs => ?_)
    exact t_X10_over_73 hfl C hr ht h hs (lv_sub hl [4, 5, 1, 0] rfl)
  · replace h := iN c4 h
    refine lv_aload_n C.1 C.2.1 dX10_over_41 rfl (lv_at hl 2 rfl) ?_
    replace h := ob h; obtain ⟨⟨⟩, i12, h⟩ := h
    replace h := ob h; obtain ⟨x13, ex13, h⟩ := h
    refine sx_callV (As := []) (rest := []) C hs (c_X10_size ex13) mo_X10_size q479 i12 rfl rfl hl.1 ⟨⟨(Nat.le_of_ble_eq_true rfl), (Nat.le_of_ble_eq_true rfl)⟩, (Nat.le_of_ble_eq_true rfl), (Nat.le_of_ble_eq_true rfl)⟩ rfl (Nat.le_of_ble_eq_true rfl) dX10_over_42 (fun H locs hs => ?_)
    refine W.eq (g2 := F0 m 45 ls [.long x13]) rfl ?_
    refine lv_aload_n C.1 C.2.1 dX10_over_45 rfl (lv_at hl 3 rfl) ?_
    replace h := ob h; obtain ⟨⟨⟩, i14, h⟩ := h
    replace h := ob h; obtain ⟨x15, ex15, h⟩ := h
    refine sx_callV (As := []) (rest := [.long x13]) C hs (c_X10_size ex15) mo_X10_size q479 i14 rfl rfl hl.1 ⟨⟨(Nat.le_of_ble_eq_true rfl), (Nat.le_of_ble_eq_true rfl)⟩, (Nat.le_of_ble_eq_true rfl), (Nat.le_of_ble_eq_true rfl)⟩ rfl (Nat.le_of_ble_eq_true rfl) dX10_over_46 (fun H locs hs => ?_)
    refine W.eq (g2 := F0 m 49 ls [.long x15, .long x13]) rfl ?_
    refine lv_iload C.1 C.2.1 dX10_over_49 (lv_at hl 0 rfl) ?_
    refine lv_ineg C.1 C.2.1 dX10_over_51 ?_
    replace h := ob3 h; obtain ⟨p16, τ17, y18, ep16, h⟩ := h
    refine sx_callS (As := [.long x13, .long x15, .int (-x3)]) (rest := []) C hs (c_X1_byRaised ep16) mo_X1_byRaised q759 rfl hl.1 ⟨⟨(Nat.le_of_ble_eq_true rfl), (Nat.le_of_ble_eq_true rfl)⟩, (Nat.le_of_ble_eq_true rfl), (Nat.le_of_ble_eq_true rfl)⟩ rfl (Nat.le_of_ble_eq_true rfl) dX10_over_52 (fun H locs hs => ?_)
    refine W.eq (g2 := F0 m 55 ls [.ref p16]) rfl ?_
    refine lv_goto (tgt := 73) C.1 C.2.1 dX10_over_55 (by decide) ?_
    exact t_X10_over_73 hfl C hr ht h hs (lv_sub hl [4, 5, 1, 0] rfl)
set_option maxHeartbeats 4000000 in
set_option maxRecDepth 100000 in
theorem c_X10_over {l : Launch} (hfl : l.stackTraces = false) {g : PP} {N : Nat} {σ : Sto} {sz : Nat} {a0 : Nat} {a1 : Nat} {v2 : Int32} {v3 : Int32} {r9 : Nat ⊕ Nat} {σ9 : Sto} {sz9 : Nat} (h : f_X10_over N σ sz a0 a1 v2 v3 = some (r9, σ9, sz9)) : vx_Met l yX10_over [Cond.code yX10_over cX10_over 8 (some (.object "Tillhouse$Value"))] (rmk 8 2 9 148) (Pre g σ sz [.ref a0, .ref a1, .int v2, .int v3]) (PstX g (Sum.map id vR r9) σ9 sz9) (XpX g (Sum.map id vR r9) σ9 sz9) 2 9 (Aw g) := by
  refine vx_ofW (cc := cX10_over) (maxL := 8) (ret := (some (.object "Tillhouse$Value"))) (by decide) rfl ?_
  intro p e s m args below meth c s₁ B hml ht hv
  obtain ⟨rfl, C, hs⟩ := ctx_of B hml hv
  have C : Cx g p s m meth c cX10_over 8 "Tillhouse$Value" := C
  have hr := B.returns
  have hl := lv_entry ([.ref a0, .ref a1, .int v2, .int v3]) (n := 8) (Nat.le_of_ble_eq_true rfl)
  rw [lg_entry_eq]
  generalize (lg_sl ([.ref a0, .ref a1, .int v2, .int v3]) ++ List.replicate (8 - (lg_sl ([.ref a0, .ref a1, .int v2, .int v3])).length) Slot.unset).toArray = ls at hl ⊢
  have hl : lv_has ls 8 [(0, .ref a0), (1, .ref a1), (2, .int v2), (3, .int v3)] := hl
  unfold f_X10_over at h
  refine lv_aload_n C.1 C.2.1 dX10_over_0 rfl (lv_at hl 1 rfl) ?_
  replace h := ob h; obtain ⟨⟨⟩, i1, h⟩ := h
  replace h := ob h; obtain ⟨u3, ex2, h⟩ := h
  rcases u3 with j4 | x2
  · replace h := bsl h
    cases h
    refine sx_xcallV (As := []) (rest := []) C hs (c_X10_checkDivisor hfl ex2) mo_X10_checkDivisor q754 i1 rfl rfl hl.1 ⟨⟨(Nat.le_of_ble_eq_true rfl), (Nat.le_of_ble_eq_true rfl)⟩, (Nat.le_of_ble_eq_true rfl), (Nat.le_of_ble_eq_true rfl)⟩ rfl (Nat.le_of_ble_eq_true rfl) dX10_over_1 (fun k9 hk9 ce q9 H locs a1 a2 a3 a4 a5 a6 => ?_) (fun vr hv => (inlr hv).elim)
    obtain rfl := Sum.inl.inj hk9
    exact sx_out C ht a1 a2 a3 a4 a5 a6 (Nat.le_of_ble_eq_true rfl) (Nat.le_of_ble_eq_true rfl)
  · replace h := bsr h
    refine sx_xcallV (As := []) (rest := []) C hs (c_X10_checkDivisor hfl ex2) mo_X10_checkDivisor q754 i1 rfl rfl hl.1 ⟨⟨(Nat.le_of_ble_eq_true rfl), (Nat.le_of_ble_eq_true rfl)⟩, (Nat.le_of_ble_eq_true rfl), (Nat.le_of_ble_eq_true rfl)⟩ rfl (Nat.le_of_ble_eq_true rfl) dX10_over_1 (fun k9 hk9 => (inrl hk9).elim) (fun vr hv H locs hs => ?_)
    obtain rfl := Sum.inr.inj hv
    refine W.eq (g2 := F0 m 4 ls []) rfl ?_
    refine W.widen (k := 0) (n := 0) (Nat.le_of_ble_eq_true rfl) (Nat.le_of_ble_eq_true rfl) ?_
    refine lv_aload_n C.1 C.2.1 dX10_over_4 rfl (lv_at hl 0 rfl) ?_
    replace h := ob h; obtain ⟨⟨⟩, i5, h⟩ := h
    replace h := ob h; obtain ⟨x6, ex6, h⟩ := h
    refine sx_callV (As := []) (rest := []) C hs (c_X10_sign ex6) mo_X10_sign q656 i5 rfl rfl hl.1 ⟨⟨(Nat.le_of_ble_eq_true rfl), (Nat.le_of_ble_eq_true rfl)⟩, (Nat.le_of_ble_eq_true rfl), (Nat.le_of_ble_eq_true rfl)⟩ rfl (Nat.le_of_ble_eq_true rfl) dX10_over_5 (fun H locs hs => ?_)
    refine W.eq (g2 := F0 m 8 ls [.int x6]) rfl ?_
    refine lv_aload_n C.1 C.2.1 dX10_over_8 rfl (lv_at hl 1 rfl) ?_
    replace h := ob h; obtain ⟨x7, ex7, h⟩ := h
    refine sx_callV (As := []) (rest := [.int x6]) C hs (c_X10_sign ex7) mo_X10_sign q656 i1 rfl rfl hl.1 ⟨⟨(Nat.le_of_ble_eq_true rfl), (Nat.le_of_ble_eq_true rfl)⟩, (Nat.le_of_ble_eq_true rfl), (Nat.le_of_ble_eq_true rfl)⟩ rfl (Nat.le_of_ble_eq_true rfl) dX10_over_9 (fun H locs hs => ?_)
    refine W.eq (g2 := F0 m 12 ls [.int x7, .int x6]) rfl ?_
    refine lv_imul C.1 C.2.1 dX10_over_12 ?_
    refine lv_if_ge (tgt := 20) C.1 C.2.1 dX10_over_13 (by decide) (fun c8 => ?_) (fun c8 => ?_)
    · replace h := ip c8 h
      refine lv_iconst (v := 0) C.1 C.2.1 dX10_over_20 (by decide) ?_
      exact t_X10_over_21 hfl C hr ht h hs (lv_sub hl [0, 1, 2, 3] rfl)
    · replace h := iN c8 h
      refine lv_iconst (v := 1) C.1 C.2.1 dX10_over_16 (by decide) ?_
      refine lv_goto (tgt := 21) C.1 C.2.1 dX10_over_17 (by decide) ?_
      exact t_X10_over_21 hfl C hr ht h hs (lv_sub hl [0, 1, 2, 3] rfl)
def b_X10_exactlyOver_83 (N : Nat) (σ : Sto) (sz : Nat) (a0 : Nat) (a1 : Nat) (a2 : Nat) (v3 : Int32) (s0 : Int32) : Option ((Nat ⊕ Nat) × Sto × Nat) :=
 (gL σ a2 1 1).bind fun x1 =>
 (gI σ a0 9 1).bind fun x2 =>
 (gI σ a1 9 1).bind fun x3 =>
 b3 (f_X10_signed σ sz s0 x1 ((x2 - x3) + v3)) fun u7 τ5 y6 =>
 bs u7 (fun j8 => some (.inl j8, τ5, y6)) fun p4 =>
 some (.inr p4, τ5, y6)
def b_X10_exactlyOver_47 (N : Nat) (σ : Sto) (sz : Nat) (a0 : Nat) (a1 : Nat) (a2 : Nat) (v3 : Int32) : Option ((Nat ⊕ Nat) × Sto × Nat) :=
 (gL σ a2 1 2).bind fun x1 =>
 if x1 = 0 then
 (isO σ a0 9).bind fun _ =>
 (f_X10_sign σ a0).bind fun x4 =>
 (isO σ a1 9).bind fun _ =>
 (f_X10_sign σ a1).bind fun x6 =>
 if 0 ≤ (x4 * x6) then
 b_X10_exactlyOver_83 N σ sz a0 a1 a2 v3 0
 else
 b_X10_exactlyOver_83 N σ sz a0 a1 a2 v3 1
 else
 some (.inl 3, σ, sz)
def b_X10_exactlyOver_22_body (N : Nat) (k22 : Sto × Nat × Nat × Nat × Nat × Int32 → Option ((Nat ⊕ Nat) × Sto × Nat)) (σ : Sto) (sz : Nat) (a0 : Nat) (a1 : Nat) (a2 : Nat) (v3 : Int32) : Option ((Nat ⊕ Nat) × Sto × Nat) :=
 if 60 ≤ v3 then
 b_X10_exactlyOver_47 N σ sz a0 a1 a2 v3
 else
 (gL σ a2 1 2).bind fun x2 =>
 if x2 = 0 then
 b_X10_exactlyOver_47 N σ sz a0 a1 a2 v3
 else
 (isO σ a2 1).bind fun _ =>
 b2 (f_X1_bringDown σ a2) fun u7 τ6 =>
 bs u7 (fun j8 => some (.inl j8, τ6, sz)) fun x5 =>
 lt_ (v3 + 1) fun x9 =>
 k22 (τ6, sz, a0, a1, a2, x9)
def b_X10_exactlyOver_22 (N : Nat) (σ : Sto) (sz : Nat) (a0 : Nat) (a1 : Nat) (a2 : Nat) (v3 : Int32) : Option ((Nat ⊕ Nat) × Sto × Nat) :=
  lp (fun k e => b_X10_exactlyOver_22_body N k e.1 e.2.1 e.2.2.1 e.2.2.2.1 e.2.2.2.2.1 e.2.2.2.2.2) N (σ, sz, a0, a1, a2, v3)
def f_X10_exactlyOver (N : Nat) (σ : Sto) (sz : Nat) (a0 : Nat) (a1 : Nat) : Option ((Nat ⊕ Nat) × Sto × Nat) :=
 (isO σ a1 9).bind fun _ =>
 (f_X10_checkDivisor σ a1).bind fun u3 =>
 bs u3 (fun j4 => some (.inl j4, σ, sz)) fun x2 =>
 lt_ (nO σ sz 1 dvX1) fun τ5 =>
 (isO τ5 a0 9).bind fun _ =>
 (f_X10_size τ5 a0).bind fun x7 =>
 (isO τ5 a1 9).bind fun _ =>
 (f_X10_size τ5 a1).bind fun x9 =>
 b2 (f_X1_init τ5 sz x7 x9) fun x10 τ11 =>
 b_X10_exactlyOver_22 N τ11 (sz + 1) a0 a1 sz 0
set_option maxHeartbeats 4000000 in
set_option maxRecDepth 100000 in
theorem t_X10_exactlyOver_83 {l : Launch} {g : PP} {p : Program} {e : Env} {s : State} {m : MethodId} {args : Array Value} {below : List Frame} {meth : Method} {c : Code} (hfl : l.stackTraces = false) (C : Cx g p s m meth c cX10_exactlyOver 4 "Tillhouse$Value") (hr : meth.sig.returnType = some (.object "Tillhouse$Value")) (ht : ∀ x ∈ c.exceptionTable.toList, False) {N : Nat}  {σ : Sto} {sz : Nat} {a0 : Nat} {a1 : Nat} {a2 : Nat} {v3 : Int32} {s0 : Int32} {r9 : Nat ⊕ Nat} {σ9 : Sto} {sz9 : Nat}
    (h : b_X10_exactlyOver_83 N σ sz a0 a1 a2 v3 s0 = some (r9, σ9, sz9)) 
    {H : Heap} {locs : List Loc} {ls : Array Slot} (hs : HS g s σ sz H locs) (hl : lv_has ls 4 [(0, .ref a0), (1, .ref a1), (2, .ref a2), (3, .int v3)]) : W p l e (rmk 8 2 9 145) s m args below meth c H locs 1 3 (vx_MQ below (PstX g (Sum.map id vR r9) σ9 sz9) (XpX g (Sum.map id vR r9) σ9 sz9) args s 2 9 (Aw g)) (F0 m 83 ls [.int s0]) := by
  unfold b_X10_exactlyOver_83 at h
  refine lv_aload_n C.1 C.2.1 dX10_exactlyOver_83 rfl (lv_at hl 2 rfl) ?_
  replace h := ob h; obtain ⟨x1, ex1, h⟩ := h
  refine sx_getV C hs fo_X10_121 (gL_v ex1) dX10_exactlyOver_84 ?_
  refine lv_aload_n C.1 C.2.1 dX10_exactlyOver_87 rfl (lv_at hl 0 rfl) ?_
  replace h := ob h; obtain ⟨x2, ex2, h⟩ := h
  refine sx_getV C hs fo_X10_15 (gI_v ex2) dX10_exactlyOver_88 ?_
  refine lv_aload_n C.1 C.2.1 dX10_exactlyOver_91 rfl (lv_at hl 1 rfl) ?_
  replace h := ob h; obtain ⟨x3, ex3, h⟩ := h
  refine sx_getV C hs fo_X10_15 (gI_v ex3) dX10_exactlyOver_92 ?_
  refine lv_isub C.1 C.2.1 dX10_exactlyOver_95 ?_
  refine lv_iload_n C.1 C.2.1 dX10_exactlyOver_96 rfl (lv_at hl 3 rfl) ?_
  refine lv_iadd C.1 C.2.1 dX10_exactlyOver_97 ?_
  replace h := ob3 h; obtain ⟨u7, τ5, y6, ep4, h⟩ := h
  rcases u7 with j8 | p4
  · replace h := bsl h
    cases h
    refine sx_xcallS (As := [.int s0, .long x1, .int ((x2 - x3) + v3)]) (rest := []) C hs (c_X10_signed hfl ep4) mo_X10_signed q728 rfl hl.1 ⟨⟨(Nat.le_of_ble_eq_true rfl), (Nat.le_of_ble_eq_true rfl)⟩, (Nat.le_of_ble_eq_true rfl), (Nat.le_of_ble_eq_true rfl)⟩ rfl (Nat.le_of_ble_eq_true rfl) dX10_exactlyOver_98 (fun k9 hk9 ce q9 H locs a1 a2 a3 a4 a5 a6 => ?_) (fun vr hv => (inlr hv).elim)
    obtain rfl := Sum.inl.inj hk9
    exact sx_out C ht a1 a2 a3 a4 a5 a6 (Nat.le_of_ble_eq_true rfl) (Nat.le_of_ble_eq_true rfl)
  · replace h := bsr h
    refine sx_xcallS (As := [.int s0, .long x1, .int ((x2 - x3) + v3)]) (rest := []) C hs (c_X10_signed hfl ep4) mo_X10_signed q728 rfl hl.1 ⟨⟨(Nat.le_of_ble_eq_true rfl), (Nat.le_of_ble_eq_true rfl)⟩, (Nat.le_of_ble_eq_true rfl), (Nat.le_of_ble_eq_true rfl)⟩ rfl (Nat.le_of_ble_eq_true rfl) dX10_exactlyOver_98 (fun k9 hk9 => (inrl hk9).elim) (fun vr hv H locs hs => ?_)
    obtain rfl := Sum.inr.inj hv
    refine W.eq (g2 := F0 m 101 ls [.ref p4]) rfl ?_
    refine W.widen (k := 2) (n := 9) (Nat.le_of_ble_eq_true rfl) (Nat.le_of_ble_eq_true rfl) ?_
    cases h
    exact sx_aretX C hs hr (by first | exact Or.inl ⟨_, rfl⟩ | exact Or.inr ⟨_, rfl⟩) dX10_exactlyOver_101
set_option maxHeartbeats 4000000 in
set_option maxRecDepth 100000 in
theorem t_X10_exactlyOver_47 {l : Launch} {g : PP} {p : Program} {e : Env} {s : State} {m : MethodId} {args : Array Value} {below : List Frame} {meth : Method} {c : Code} (hfl : l.stackTraces = false) (C : Cx g p s m meth c cX10_exactlyOver 4 "Tillhouse$Value") (hr : meth.sig.returnType = some (.object "Tillhouse$Value")) (ht : ∀ x ∈ c.exceptionTable.toList, False) {N : Nat}  {σ : Sto} {sz : Nat} {a0 : Nat} {a1 : Nat} {a2 : Nat} {v3 : Int32} {r9 : Nat ⊕ Nat} {σ9 : Sto} {sz9 : Nat}
    (h : b_X10_exactlyOver_47 N σ sz a0 a1 a2 v3 = some (r9, σ9, sz9)) 
    {H : Heap} {locs : List Loc} {ls : Array Slot} (hs : HS g s σ sz H locs) (hl : lv_has ls 4 [(0, .ref a0), (1, .ref a1), (2, .ref a2), (3, .int v3)]) : W p l e (rmk 8 2 9 145) s m args below meth c H locs 1 3 (vx_MQ below (PstX g (Sum.map id vR r9) σ9 sz9) (XpX g (Sum.map id vR r9) σ9 sz9) args s 2 9 (Aw g)) (F0 m 47 ls []) := by
  unfold b_X10_exactlyOver_47 at h
  refine lv_aload_n C.1 C.2.1 dX10_exactlyOver_47 rfl (lv_at hl 2 rfl) ?_
  replace h := ob h; obtain ⟨x1, ex1, h⟩ := h
  refine sx_getV C hs fo_X10_126 (gL_v ex1) dX10_exactlyOver_48 ?_
  refine lv_lconst (v := 0) C.1 C.2.1 dX10_exactlyOver_51 (by decide) ?_
  refine W.lcmp C.1 C.2.1 dX10_exactlyOver_52 ?_
  refine lv_if_eq (tgt := 66) C.1 C.2.1 dX10_exactlyOver_53 (by decide) (fun c2 => ?_) (fun c2 => ?_)
  · replace h := ip ((lg_cmp_eq _ _).mp c2) h
    refine lv_aload_n C.1 C.2.1 dX10_exactlyOver_66 rfl (lv_at hl 0 rfl) ?_
    replace h := ob h; obtain ⟨⟨⟩, i3, h⟩ := h
    replace h := ob h; obtain ⟨x4, ex4, h⟩ := h
    refine sx_callV (As := []) (rest := []) C hs (c_X10_sign ex4) mo_X10_sign q656 i3 rfl rfl hl.1 ⟨⟨(Nat.le_of_ble_eq_true rfl), (Nat.le_of_ble_eq_true rfl)⟩, (Nat.le_of_ble_eq_true rfl), (Nat.le_of_ble_eq_true rfl)⟩ rfl (Nat.le_of_ble_eq_true rfl) dX10_exactlyOver_67 (fun H locs hs => ?_)
    refine W.eq (g2 := F0 m 70 ls [.int x4]) rfl ?_
    refine lv_aload_n C.1 C.2.1 dX10_exactlyOver_70 rfl (lv_at hl 1 rfl) ?_
    replace h := ob h; obtain ⟨⟨⟩, i5, h⟩ := h
    replace h := ob h; obtain ⟨x6, ex6, h⟩ := h
    refine sx_callV (As := []) (rest := [.int x4]) C hs (c_X10_sign ex6) mo_X10_sign q656 i5 rfl rfl hl.1 ⟨⟨(Nat.le_of_ble_eq_true rfl), (Nat.le_of_ble_eq_true rfl)⟩, (Nat.le_of_ble_eq_true rfl), (Nat.le_of_ble_eq_true rfl)⟩ rfl (Nat.le_of_ble_eq_true rfl) dX10_exactlyOver_71 (fun H locs hs => ?_)
    refine W.eq (g2 := F0 m 74 ls [.int x6, .int x4]) rfl ?_
    refine lv_imul C.1 C.2.1 dX10_exactlyOver_74 ?_
    refine lv_if_ge (tgt := 82) C.1 C.2.1 dX10_exactlyOver_75 (by decide) (fun c7 => ?_) (fun c7 => ?_)
    · replace h := ip c7 h
      refine lv_iconst (v := 0) C.1 C.2.1 dX10_exactlyOver_82 (by decide) ?_
      exact t_X10_exactlyOver_83 hfl C hr ht h hs (lv_sub hl [0, 1, 2, 3] rfl)
    · replace h := iN c7 h
      refine lv_iconst (v := 1) C.1 C.2.1 dX10_exactlyOver_78 (by decide) ?_
      refine lv_goto (tgt := 83) C.1 C.2.1 dX10_exactlyOver_79 (by decide) ?_
      exact t_X10_exactlyOver_83 hfl C hr ht h hs (lv_sub hl [0, 1, 2, 3] rfl)
  · replace h := iN (fun q => c2 ((lg_cmp_eq _ _).mpr q)) h
    cases h
    exact sx_throw C hfl hs to_X10_27_129 ht hl.1 dX10_exactlyOver_56 dX10_exactlyOver_59 dX10_exactlyOver_60 dX10_exactlyOver_62 dX10_exactlyOver_65 ⟨by decide, (Nat.le_of_ble_eq_true rfl), (Nat.le_of_ble_eq_true rfl), (Nat.le_of_ble_eq_true rfl)⟩ ⟨(Nat.le_of_ble_eq_true rfl), (Nat.le_of_ble_eq_true rfl)⟩
set_option maxHeartbeats 4000000 in
set_option maxRecDepth 100000 in
theorem tb_X10_exactlyOver_22 {l : Launch} {g : PP} {p : Program} {e : Env} {s : State} {m : MethodId} {args : Array Value} {below : List Frame} {meth : Method} {c : Code} (hfl : l.stackTraces = false) (C : Cx g p s m meth c cX10_exactlyOver 4 "Tillhouse$Value") (hr : meth.sig.returnType = some (.object "Tillhouse$Value")) (ht : ∀ x ∈ c.exceptionTable.toList, False) {N : Nat}  {k22 : Sto × Nat × Nat × Nat × Nat × Int32 → Option ((Nat ⊕ Nat) × Sto × Nat)} {σ : Sto} {sz : Nat} {a0 : Nat} {a1 : Nat} {a2 : Nat} {v3 : Int32} {r9 : Nat ⊕ Nat} {σ9 : Sto} {sz9 : Nat}
    (h : b_X10_exactlyOver_22_body N k22 σ sz a0 a1 a2 v3 = some (r9, σ9, sz9))  (hk22 : ∀ (σ : Sto) (sz : Nat) (a0 : Nat) (a1 : Nat) (a2 : Nat) (v3 : Int32), k22 (σ, sz, a0, a1, a2, v3) = some (r9, σ9, sz9) → ∀ (H : Heap) (locs : List Loc) (ls : Array Slot), HS g s σ sz H locs → lv_has ls 4 [(0, .ref a0), (1, .ref a1), (2, .ref a2), (3, .int v3)] → W p l e (rmk 8 2 9 145) s m args below meth c H locs 1 3 (vx_MQ below (PstX g (Sum.map id vR r9) σ9 sz9) (XpX g (Sum.map id vR r9) σ9 sz9) args s 2 9 (Aw g)) (F0 m 22 ls []))
    {H : Heap} {locs : List Loc} {ls : Array Slot} (hs : HS g s σ sz H locs) (hl : lv_has ls 4 [(0, .ref a0), (1, .ref a1), (2, .ref a2), (3, .int v3)]) : W p l e (rmk 8 2 9 145) s m args below meth c H locs 1 3 (vx_MQ below (PstX g (Sum.map id vR r9) σ9 sz9) (XpX g (Sum.map id vR r9) σ9 sz9) args s 2 9 (Aw g)) (F0 m 22 ls []) := by
  unfold b_X10_exactlyOver_22_body at h
  refine lv_iload_n C.1 C.2.1 dX10_exactlyOver_22 rfl (lv_at hl 3 rfl) ?_
  refine lv_bipush (v := 60) C.1 C.2.1 dX10_exactlyOver_23 (by decide) ?_
  refine lv_icmp_ge (tgt := 47) C.1 C.2.1 dX10_exactlyOver_25 (by decide) (fun c1 => ?_) (fun c1 => ?_)
  · replace h := ip c1 h
    exact t_X10_exactlyOver_47 hfl C hr ht h hs (lv_sub hl [0, 1, 2, 3] rfl)
  · replace h := iN c1 h
    refine lv_aload_n C.1 C.2.1 dX10_exactlyOver_28 rfl (lv_at hl 2 rfl) ?_
    replace h := ob h; obtain ⟨x2, ex2, h⟩ := h
    refine sx_getV C hs fo_X10_126 (gL_v ex2) dX10_exactlyOver_29 ?_
    refine lv_lconst (v := 0) C.1 C.2.1 dX10_exactlyOver_32 (by decide) ?_
    refine W.lcmp C.1 C.2.1 dX10_exactlyOver_33 ?_
    refine lv_if_eq (tgt := 47) C.1 C.2.1 dX10_exactlyOver_34 (by decide) (fun c3 => ?_) (fun c3 => ?_)
    · replace h := ip ((lg_cmp_eq _ _).mp c3) h
      exact t_X10_exactlyOver_47 hfl C hr ht h hs (lv_sub hl [0, 1, 2, 3] rfl)
    · replace h := iN (fun q => c3 ((lg_cmp_eq _ _).mpr q)) h
      refine lv_aload_n C.1 C.2.1 dX10_exactlyOver_37 rfl (lv_at hl 2 rfl) ?_
      replace h := ob h; obtain ⟨⟨⟩, i4, h⟩ := h
      replace h := ob2 h; obtain ⟨u7, τ6, ex5, h⟩ := h
      rcases u7 with j8 | x5
      · replace h := bsl h
        cases h
        refine sx_xcallV (As := []) (rest := []) C hs (c_X1_bringDown hfl ex5) mo_X1_bringDown q788 i4 rfl rfl hl.1 ⟨⟨(Nat.le_of_ble_eq_true rfl), (Nat.le_of_ble_eq_true rfl)⟩, (Nat.le_of_ble_eq_true rfl), (Nat.le_of_ble_eq_true rfl)⟩ rfl (Nat.le_of_ble_eq_true rfl) dX10_exactlyOver_38 (fun k9 hk9 ce q9 H locs a1 a2 a3 a4 a5 a6 => ?_) (fun vr hv => (inlr hv).elim)
        obtain rfl := Sum.inl.inj hk9
        exact sx_out C ht a1 a2 a3 a4 a5 a6 (Nat.le_of_ble_eq_true rfl) (Nat.le_of_ble_eq_true rfl)
      · replace h := bsr h
        refine sx_xcallV (As := []) (rest := []) C hs (c_X1_bringDown hfl ex5) mo_X1_bringDown q788 i4 rfl rfl hl.1 ⟨⟨(Nat.le_of_ble_eq_true rfl), (Nat.le_of_ble_eq_true rfl)⟩, (Nat.le_of_ble_eq_true rfl), (Nat.le_of_ble_eq_true rfl)⟩ rfl (Nat.le_of_ble_eq_true rfl) dX10_exactlyOver_38 (fun k9 hk9 => (inrl hk9).elim) (fun vr hv H locs hs => ?_)
        obtain rfl := Sum.inr.inj hv
        refine W.eq (g2 := F0 m 41 ls []) rfl ?_
        refine W.widen (k := 1) (n := 3) (Nat.le_of_ble_eq_true rfl) (Nat.le_of_ble_eq_true rfl) ?_
        replace h := ol h; obtain ⟨x9, ex9, h⟩ := h
        refine lv_iinc (v := x9) (lv' := [(3, .int x9), (0, .ref a0), (1, .ref a1), (2, .ref a2)]) C.1 C.2.1 dX10_exactlyOver_41 hl (k := 3) rfl (by rw [ex9]; rfl) (by decide) rfl (fun ls hl => ?_)
        refine lv_goto (tgt := 22) C.1 C.2.1 dX10_exactlyOver_44 (by decide) ?_
        exact hk22 τ6 sz a0 a1 a2 x9 h _ _ _ hs (lv_sub hl [1, 2, 3, 0] rfl)
set_option maxHeartbeats 4000000 in
set_option maxRecDepth 100000 in
theorem tl_X10_exactlyOver_22 {l : Launch} {g : PP} {p : Program} {e : Env} {s : State} {m : MethodId} {args : Array Value} {below : List Frame} {meth : Method} {c : Code} (hfl : l.stackTraces = false) (C : Cx g p s m meth c cX10_exactlyOver 4 "Tillhouse$Value") (hr : meth.sig.returnType = some (.object "Tillhouse$Value")) (ht : ∀ x ∈ c.exceptionTable.toList, False) {N : Nat}    {r9 : Nat ⊕ Nat} {σ9 : Sto} {sz9 : Nat}  : ∀ (n : Nat) (σ : Sto) (sz : Nat) (a0 : Nat) (a1 : Nat) (a2 : Nat) (v3 : Int32), lp (fun k e => b_X10_exactlyOver_22_body N k e.1 e.2.1 e.2.2.1 e.2.2.2.1 e.2.2.2.2.1 e.2.2.2.2.2) n (σ, sz, a0, a1, a2, v3) = some (r9, σ9, sz9) → ∀ (H : Heap) (locs : List Loc) (ls : Array Slot), HS g s σ sz H locs → lv_has ls 4 [(0, .ref a0), (1, .ref a1), (2, .ref a2), (3, .int v3)] → W p l e (rmk 8 2 9 145) s m args below meth c H locs 1 3 (vx_MQ below (PstX g (Sum.map id vR r9) σ9 sz9) (XpX g (Sum.map id vR r9) σ9 sz9) args s 2 9 (Aw g)) (F0 m 22 ls []) := by
  intro n
  induction n with
  | zero => intro σ sz a0 a1 a2 v3 h; exact absurd h (fun q => nomatch q)
  | succ n ih =>
    intro σ sz a0 a1 a2 v3 h H locs ls hs hl
    exact tb_X10_exactlyOver_22 (N := N) hfl C hr ht h (fun σ sz a0 a1 a2 v3 h H locs ls hs hl => ih σ sz a0 a1 a2 v3 h H locs ls hs hl) hs hl
set_option maxHeartbeats 4000000 in
set_option maxRecDepth 100000 in
theorem t_X10_exactlyOver_22 {l : Launch} {g : PP} {p : Program} {e : Env} {s : State} {m : MethodId} {args : Array Value} {below : List Frame} {meth : Method} {c : Code} (hfl : l.stackTraces = false) (C : Cx g p s m meth c cX10_exactlyOver 4 "Tillhouse$Value") (hr : meth.sig.returnType = some (.object "Tillhouse$Value")) (ht : ∀ x ∈ c.exceptionTable.toList, False) {N : Nat}  {σ : Sto} {sz : Nat} {a0 : Nat} {a1 : Nat} {a2 : Nat} {v3 : Int32} {r9 : Nat ⊕ Nat} {σ9 : Sto} {sz9 : Nat}
    (h : b_X10_exactlyOver_22 N σ sz a0 a1 a2 v3 = some (r9, σ9, sz9)) 
    {H : Heap} {locs : List Loc} {ls : Array Slot} (hs : HS g s σ sz H locs) (hl : lv_has ls 4 [(0, .ref a0), (1, .ref a1), (2, .ref a2), (3, .int v3)]) : W p l e (rmk 8 2 9 145) s m args below meth c H locs 1 3 (vx_MQ below (PstX g (Sum.map id vR r9) σ9 sz9) (XpX g (Sum.map id vR r9) σ9 sz9) args s 2 9 (Aw g)) (F0 m 22 ls []) := tl_X10_exactlyOver_22 hfl C hr ht N σ sz a0 a1 a2 v3 h H locs ls hs hl
set_option maxHeartbeats 4000000 in
set_option maxRecDepth 100000 in
theorem c_X10_exactlyOver {l : Launch} (hfl : l.stackTraces = false) {g : PP} {N : Nat} {σ : Sto} {sz : Nat} {a0 : Nat} {a1 : Nat} {r9 : Nat ⊕ Nat} {σ9 : Sto} {sz9 : Nat} (h : f_X10_exactlyOver N σ sz a0 a1 = some (r9, σ9, sz9)) : vx_Met l yX10_exactlyOver [Cond.code yX10_exactlyOver cX10_exactlyOver 4 (some (.object "Tillhouse$Value"))] (rmk 8 2 9 145) (Pre g σ sz [.ref a0, .ref a1]) (PstX g (Sum.map id vR r9) σ9 sz9) (XpX g (Sum.map id vR r9) σ9 sz9) 2 9 (Aw g) := by
  refine vx_ofW (cc := cX10_exactlyOver) (maxL := 4) (ret := (some (.object "Tillhouse$Value"))) (by decide) rfl ?_
  intro p e s m args below meth c s₁ B hml ht hv
  obtain ⟨rfl, C, hs⟩ := ctx_of B hml hv
  have C : Cx g p s m meth c cX10_exactlyOver 4 "Tillhouse$Value" := C
  have hr := B.returns
  have hl := lv_entry ([.ref a0, .ref a1]) (n := 4) (Nat.le_of_ble_eq_true rfl)
  rw [lg_entry_eq]
  generalize (lg_sl ([.ref a0, .ref a1]) ++ List.replicate (4 - (lg_sl ([.ref a0, .ref a1])).length) Slot.unset).toArray = ls at hl ⊢
  have hl : lv_has ls 4 [(0, .ref a0), (1, .ref a1)] := hl
  unfold f_X10_exactlyOver at h
  refine lv_aload_n C.1 C.2.1 dX10_exactlyOver_0 rfl (lv_at hl 1 rfl) ?_
  replace h := ob h; obtain ⟨⟨⟩, i1, h⟩ := h
  replace h := ob h; obtain ⟨u3, ex2, h⟩ := h
  rcases u3 with j4 | x2
  · replace h := bsl h
    cases h
    refine sx_xcallV (As := []) (rest := []) C hs (c_X10_checkDivisor hfl ex2) mo_X10_checkDivisor q754 i1 rfl rfl hl.1 ⟨⟨(Nat.le_of_ble_eq_true rfl), (Nat.le_of_ble_eq_true rfl)⟩, (Nat.le_of_ble_eq_true rfl), (Nat.le_of_ble_eq_true rfl)⟩ rfl (Nat.le_of_ble_eq_true rfl) dX10_exactlyOver_1 (fun k9 hk9 ce q9 H locs a1 a2 a3 a4 a5 a6 => ?_) (fun vr hv => (inlr hv).elim)
    obtain rfl := Sum.inl.inj hk9
    exact sx_out C ht a1 a2 a3 a4 a5 a6 (Nat.le_of_ble_eq_true rfl) (Nat.le_of_ble_eq_true rfl)
  · replace h := bsr h
    refine sx_xcallV (As := []) (rest := []) C hs (c_X10_checkDivisor hfl ex2) mo_X10_checkDivisor q754 i1 rfl rfl hl.1 ⟨⟨(Nat.le_of_ble_eq_true rfl), (Nat.le_of_ble_eq_true rfl)⟩, (Nat.le_of_ble_eq_true rfl), (Nat.le_of_ble_eq_true rfl)⟩ rfl (Nat.le_of_ble_eq_true rfl) dX10_exactlyOver_1 (fun k9 hk9 => (inrl hk9).elim) (fun vr hv H locs hs => ?_)
    obtain rfl := Sum.inr.inj hv
    refine W.eq (g2 := F0 m 4 ls []) rfl ?_
    refine W.widen (k := 0) (n := 0) (Nat.le_of_ble_eq_true rfl) (Nat.le_of_ble_eq_true rfl) ?_
    replace h := ol h; obtain ⟨τ5, eτ5, h⟩ := h
    refine sx_new C hs no_X10_110 (Nat.le_of_ble_eq_true rfl) (Nat.le_of_ble_eq_true rfl) dX10_exactlyOver_4 (fun H hs => ?_)
    replace hs := HS.nm eτ5 hs
    refine lv_dup C.1 C.2.1 dX10_exactlyOver_7 rfl ?_
    refine lv_aload_n C.1 C.2.1 dX10_exactlyOver_8 rfl (lv_at hl 0 rfl) ?_
    replace h := ob h; obtain ⟨⟨⟩, i6, h⟩ := h
    replace h := ob h; obtain ⟨x7, ex7, h⟩ := h
    refine sx_callV (As := []) (rest := [.ref sz, .ref sz]) C hs (c_X10_size ex7) mo_X10_size q479 i6 rfl rfl hl.1 ⟨⟨(Nat.le_of_ble_eq_true rfl), (Nat.le_of_ble_eq_true rfl)⟩, (Nat.le_of_ble_eq_true rfl), (Nat.le_of_ble_eq_true rfl)⟩ rfl (Nat.le_of_ble_eq_true rfl) dX10_exactlyOver_9 (fun H locs hs => ?_)
    refine W.eq (g2 := F0 m 12 ls [.long x7, .ref sz, .ref sz]) rfl ?_
    refine lv_aload_n C.1 C.2.1 dX10_exactlyOver_12 rfl (lv_at hl 1 rfl) ?_
    replace h := ob h; obtain ⟨⟨⟩, i8, h⟩ := h
    replace h := ob h; obtain ⟨x9, ex9, h⟩ := h
    refine sx_callV (As := []) (rest := [.long x7, .ref sz, .ref sz]) C hs (c_X10_size ex9) mo_X10_size q479 i8 rfl rfl hl.1 ⟨⟨(Nat.le_of_ble_eq_true rfl), (Nat.le_of_ble_eq_true rfl)⟩, (Nat.le_of_ble_eq_true rfl), (Nat.le_of_ble_eq_true rfl)⟩ rfl (Nat.le_of_ble_eq_true rfl) dX10_exactlyOver_13 (fun H locs hs => ?_)
    refine W.eq (g2 := F0 m 16 ls [.long x9, .long x7, .ref sz, .ref sz]) rfl ?_
    replace h := ob2 h; obtain ⟨x10, τ11, ex10, h⟩ := h
    refine sx_callI (As := [.long x7, .long x9]) (rest := [.ref sz]) C hs (c_X1_init ex10) mo_X1_init q787 rfl hl.1 ⟨⟨(Nat.le_of_ble_eq_true rfl), (Nat.le_of_ble_eq_true rfl)⟩, (Nat.le_of_ble_eq_true rfl), (Nat.le_of_ble_eq_true rfl)⟩ rfl (Nat.le_of_ble_eq_true rfl) dX10_exactlyOver_16 (fun H locs hs => ?_)
    refine lv_astore_n (lv' := [(2, .ref sz), (0, .ref a0), (1, .ref a1)]) C.1 C.2.1 dX10_exactlyOver_19 rfl hl (by decide) rfl (fun ls hl => ?_)
    refine lv_iconst (v := 0) C.1 C.2.1 dX10_exactlyOver_20 (by decide) ?_
    refine lv_istore_n (lv' := [(3, .int 0), (2, .ref sz), (0, .ref a0), (1, .ref a1)]) C.1 C.2.1 dX10_exactlyOver_21 rfl hl (by decide) rfl (fun ls hl => ?_)
    exact t_X10_exactlyOver_22 hfl C hr ht h hs (lv_sub hl [2, 3, 1, 0] rfl)
